/-! CountedActors$Machine.send(IIII)V -/
set_option maxRecDepth 100000 in
theorem tb_ok99_0 : (tb_c99.take 24).all (tb_okc tb_m99) = true := by decide +kernel
set_option maxRecDepth 100000 in
theorem tb_ok99_1 : ((tb_c99.drop 24).take 24).all (tb_okc tb_m99) = true := by decide +kernel
set_option maxRecDepth 100000 in
theorem tb_ok99_2 : (((tb_c99.drop 24).drop 24)).all (tb_okc tb_m99) = true := by decide +kernel
set_option maxRecDepth 100000 in
theorem tb_ok99_l0 : (tb_l99.take 6).all (tb_okl tb_m99) = true := by decide +kernel
set_option maxRecDepth 100000 in
theorem tb_ok99_l1 : ((tb_l99.drop 6)).all (tb_okl tb_m99) = true := by decide +kernel
set_option maxRecDepth 100000 in
theorem tb_ok99 : tb_okm tb_m99 := ⟨Or.inr (by decide +kernel), tb_cut 24 tb_ok99_0 (tb_cut 24 tb_ok99_1 (tb_ok99_2)), tb_cut 6 tb_ok99_l0 (tb_ok99_l1), by decide +kernel⟩
/-! CountedActors$Machine.raisesNeeded(I)I -/
set_option maxRecDepth 100000 in
theorem tb_ok100_0 : (tb_c100.take 24).all (tb_okc tb_m100) = true := by decide +kernel
set_option maxRecDepth 100000 in
theorem tb_ok100_1 : ((tb_c100.drop 24)).all (tb_okc tb_m100) = true := by decide +kernel
set_option maxRecDepth 100000 in
theorem tb_ok100_l0 : (tb_l100).all (tb_okl tb_m100) = true := by decide +kernel
set_option maxRecDepth 100000 in
theorem tb_ok100 : tb_okm tb_m100 := ⟨Or.inr (by decide +kernel), tb_cut 24 tb_ok100_0 (tb_ok100_1), tb_ok100_l0, by decide +kernel⟩
/-! CountedActors$Heap.countOf(II)I -/
set_option maxRecDepth 100000 in
theorem tb_ok101_0 : (tb_c101).all (tb_okc tb_m101) = true := by decide +kernel
set_option maxRecDepth 100000 in
theorem tb_ok101_l0 : (tb_l101).all (tb_okl tb_m101) = true := by decide +kernel
set_option maxRecDepth 100000 in
theorem tb_ok101 : tb_okm tb_m101 := ⟨Or.inr (by decide +kernel), tb_ok101_0, tb_ok101_l0, by decide +kernel⟩
/-! CountedActors$Machine.countSent(II)V -/
set_option maxRecDepth 100000 in
theorem tb_ok102_0 : (tb_c102.take 24).all (tb_okc tb_m102) = true := by decide +kernel
set_option maxRecDepth 100000 in
theorem tb_ok102_1 : ((tb_c102.drop 24)).all (tb_okc tb_m102) = true := by decide +kernel
set_option maxRecDepth 100000 in
theorem tb_ok102_l0 : (tb_l102).all (tb_okl tb_m102) = true := by decide +kernel
set_option maxRecDepth 100000 in
theorem tb_ok102 : tb_okm tb_m102 := ⟨Or.inr (by decide +kernel), tb_cut 24 tb_ok102_0 (tb_ok102_1), tb_ok102_l0, by decide +kernel⟩
/-! CountedActors.collect(I)I -/
set_option maxRecDepth 100000 in
theorem tb_ok103_0 : (tb_c103).all (tb_okc tb_m103) = true := by decide +kernel
set_option maxRecDepth 100000 in
theorem tb_ok103_l0 : (tb_l103).all (tb_okl tb_m103) = true := by decide +kernel
set_option maxRecDepth 100000 in
theorem tb_ok103 : tb_okm tb_m103 := ⟨Or.inr (by decide +kernel), tb_ok103_0, tb_ok103_l0, by decide +kernel⟩
/-! CountedActors$Machine.collectFor(I)I -/
set_option maxRecDepth 100000 in
theorem tb_ok104_0 : (tb_c104.take 24).all (tb_okc tb_m104) = true := by decide +kernel
set_option maxRecDepth 100000 in
theorem tb_ok104_1 : ((tb_c104.drop 24).take 24).all (tb_okc tb_m104) = true := by decide +kernel
set_option maxRecDepth 100000 in
theorem tb_ok104_2 : (((tb_c104.drop 24).drop 24)).all (tb_okc tb_m104) = true := by decide +kernel
set_option maxRecDepth 100000 in
theorem tb_ok104_l0 : (tb_l104.take 6).all (tb_okl tb_m104) = true := by decide +kernel
set_option maxRecDepth 100000 in
theorem tb_ok104_l1 : ((tb_l104.drop 6)).all (tb_okl tb_m104) = true := by decide +kernel
set_option maxRecDepth 100000 in
theorem tb_ok104 : tb_okm tb_m104 := ⟨Or.inr (by decide +kernel), tb_cut 24 tb_ok104_0 (tb_cut 24 tb_ok104_1 (tb_ok104_2)), tb_cut 6 tb_ok104_l0 (tb_ok104_l1), by decide +kernel⟩
/-! CountedActors$Machine.meetFields(I)V -/
set_option maxRecDepth 100000 in
theorem tb_ok105_0 : (tb_c105).all (tb_okc tb_m105) = true := by decide +kernel
set_option maxRecDepth 100000 in
theorem tb_ok105_l0 : (tb_l105).all (tb_okl tb_m105) = true := by decide +kernel
set_option maxRecDepth 100000 in
theorem tb_ok105 : tb_okm tb_m105 := ⟨Or.inr (by decide +kernel), tb_ok105_0, tb_ok105_l0, by decide +kernel⟩
/-! CountedActors$Machine.isUnkept(I)Z -/
set_option maxRecDepth 100000 in
theorem tb_ok106_0 : (tb_c106).all (tb_okc tb_m106) = true := by decide +kernel
set_option maxRecDepth 100000 in
theorem tb_ok106_l0 : (tb_l106).all (tb_okl tb_m106) = true := by decide +kernel
set_option maxRecDepth 100000 in
theorem tb_ok106 : tb_okm tb_m106 := ⟨Or.inr (by decide +kernel), tb_ok106_0, tb_ok106_l0, by decide +kernel⟩
/-! CountedActors$Heap.exists(I)Z -/
set_option maxRecDepth 100000 in
theorem tb_ok107_0 : (tb_c107).all (tb_okc tb_m107) = true := by decide +kernel
set_option maxRecDepth 100000 in
theorem tb_ok107_l0 : (tb_l107).all (tb_okl tb_m107) = true := by decide +kernel
set_option maxRecDepth 100000 in
theorem tb_ok107 : tb_okm tb_m107 := ⟨Or.inr (by decide +kernel), tb_ok107_0, tb_ok107_l0, by decide +kernel⟩
/-! CountedActors$Heap.free(I)V -/
set_option maxRecDepth 100000 in
theorem tb_ok108_0 : (tb_c108).all (tb_okc tb_m108) = true := by decide +kernel
set_option maxRecDepth 100000 in
theorem tb_ok108_l0 : (tb_l108).all (tb_okl tb_m108) = true := by decide +kernel
set_option maxRecDepth 100000 in
theorem tb_ok108 : tb_okm tb_m108 := ⟨Or.inr (by decide +kernel), tb_ok108_0, tb_ok108_l0, by decide +kernel⟩
/-! CountedActors$Machine.giveBack(II)V -/
set_option maxRecDepth 100000 in
theorem tb_ok109_0 : (tb_c109.take 24).all (tb_okc tb_m109) = true := by decide +kernel
set_option maxRecDepth 100000 in
theorem tb_ok109_1 : ((tb_c109.drop 24)).all (tb_okc tb_m109) = true := by decide +kernel
set_option maxRecDepth 100000 in
theorem tb_ok109_l0 : (tb_l109.take 6).all (tb_okl tb_m109) = true := by decide +kernel
set_option maxRecDepth 100000 in
theorem tb_ok109_l1 : ((tb_l109.drop 6)).all (tb_okl tb_m109) = true := by decide +kernel
set_option maxRecDepth 100000 in
theorem tb_ok109 : tb_okm tb_m109 := ⟨Or.inr (by decide +kernel), tb_cut 24 tb_ok109_0 (tb_ok109_1), tb_cut 6 tb_ok109_l0 (tb_ok109_l1), by decide +kernel⟩
/-! CountedActors.waiting(I)I -/
set_option maxRecDepth 100000 in
theorem tb_ok110_0 : (tb_c110).all (tb_okc tb_m110) = true := by decide +kernel
set_option maxRecDepth 100000 in
theorem tb_ok110_l0 : (tb_l110).all (tb_okl tb_m110) = true := by decide +kernel
set_option maxRecDepth 100000 in
theorem tb_ok110 : tb_okm tb_m110 := ⟨Or.inr (by decide +kernel), tb_ok110_0, tb_ok110_l0, by decide +kernel⟩
/-! CountedActors$Mail.sizeFor(I)I -/
set_option maxRecDepth 100000 in
theorem tb_ok111_0 : (tb_c111).all (tb_okc tb_m111) = true := by decide +kernel
set_option maxRecDepth 100000 in
theorem tb_ok111_l0 : (tb_l111).all (tb_okl tb_m111) = true := by decide +kernel
set_option maxRecDepth 100000 in
theorem tb_ok111 : tb_okm tb_m111 := ⟨Or.inr (by decide +kernel), tb_ok111_0, tb_ok111_l0, by decide +kernel⟩
/-! CountedActors.owner(I)I -/
set_option maxRecDepth 100000 in
theorem tb_ok112_0 : (tb_c112).all (tb_okc tb_m112) = true := by decide +kernel
set_option maxRecDepth 100000 in
theorem tb_ok112_l0 : (tb_l112).all (tb_okl tb_m112) = true := by decide +kernel
set_option maxRecDepth 100000 in
theorem tb_ok112 : tb_okm tb_m112 := ⟨Or.inr (by decide +kernel), tb_ok112_0, tb_ok112_l0, by decide +kernel⟩
/-! CountedActors.cell(I)I -/
set_option maxRecDepth 100000 in
theorem tb_ok113_0 : (tb_c113).all (tb_okc tb_m113) = true := by decide +kernel
set_option maxRecDepth 100000 in
theorem tb_ok113_l0 : (tb_l113).all (tb_okl tb_m113) = true := by decide +kernel
set_option maxRecDepth 100000 in
theorem tb_ok113 : tb_okm tb_m113 := ⟨Or.inr (by decide +kernel), tb_ok113_0, tb_ok113_l0, by decide +kernel⟩
/-! CountedActors.count(II)I -/
set_option maxRecDepth 100000 in
theorem tb_ok114_0 : (tb_c114).all (tb_okc tb_m114) = true := by decide +kernel
set_option maxRecDepth 100000 in
theorem tb_ok114_l0 : (tb_l114).all (tb_okl tb_m114) = true := by decide +kernel
set_option maxRecDepth 100000 in
theorem tb_ok114 : tb_okm tb_m114 := ⟨Or.inr (by decide +kernel), tb_ok114_0, tb_ok114_l0, by decide +kernel⟩
/-! CountedActors.field(II)I -/
set_option maxRecDepth 100000 in
theorem tb_ok115_0 : (tb_c115).all (tb_okc tb_m115) = true := by decide +kernel
set_option maxRecDepth 100000 in
theorem tb_ok115_l0 : (tb_l115).all (tb_okl tb_m115) = true := by decide +kernel
set_option maxRecDepth 100000 in
theorem tb_ok115 : tb_okm tb_m115 := ⟨Or.inr (by decide +kernel), tb_ok115_0, tb_ok115_l0, by decide +kernel⟩
/-! CountedActors.inner(II)I -/
set_option maxRecDepth 100000 in
theorem tb_ok116_0 : (tb_c116).all (tb_okc tb_m116) = true := by decide +kernel
set_option maxRecDepth 100000 in
theorem tb_ok116_l0 : (tb_l116).all (tb_okl tb_m116) = true := by decide +kernel
set_option maxRecDepth 100000 in
theorem tb_ok116 : tb_okm tb_m116 := ⟨Or.inr (by decide +kernel), tb_ok116_0, tb_ok116_l0, by decide +kernel⟩
/-! CountedActors.rights(II)I -/
set_option maxRecDepth 100000 in
theorem tb_ok117_0 : (tb_c117.take 24).all (tb_okc tb_m117) = true := by decide +kernel
set_option maxRecDepth 100000 in
theorem tb_ok117_1 : ((tb_c117.drop 24)).all (tb_okc tb_m117) = true := by decide +kernel
set_option maxRecDepth 100000 in
theorem tb_ok117_l0 : (tb_l117.take 6).all (tb_okl tb_m117) = true := by decide +kernel
set_option maxRecDepth 100000 in
theorem tb_ok117_l1 : ((tb_l117.drop 6)).all (tb_okl tb_m117) = true := by decide +kernel
set_option maxRecDepth 100000 in
theorem tb_ok117 : tb_okm tb_m117 := ⟨Or.inr (by decide +kernel), tb_cut 24 tb_ok117_0 (tb_ok117_1), tb_cut 6 tb_ok117_l0 (tb_ok117_l1), by decide +kernel⟩
/-! CountedActors$Machine.meetCalls(I)V -/
set_option maxRecDepth 100000 in
theorem tb_ok118_0 : (tb_c118.take 24).all (tb_okc tb_m118) = true := by decide +kernel
set_option maxRecDepth 100000 in
theorem tb_ok118_1 : ((tb_c118.drop 24)).all (tb_okc tb_m118) = true := by decide +kernel
set_option maxRecDepth 100000 in
theorem tb_ok118_l0 : (tb_l118.take 6).all (tb_okl tb_m118) = true := by decide +kernel
set_option maxRecDepth 100000 in
theorem tb_ok118_l1 : ((tb_l118.drop 6)).all (tb_okl tb_m118) = true := by decide +kernel
set_option maxRecDepth 100000 in
theorem tb_ok118 : tb_okm tb_m118 := ⟨Or.inr (by decide +kernel), tb_cut 24 tb_ok118_0 (tb_ok118_1), tb_cut 6 tb_ok118_l0 (tb_ok118_l1), by decide +kernel⟩
/-! CountedActors$Mail.size()I -/
set_option maxRecDepth 100000 in
theorem tb_ok119_0 : (tb_c119).all (tb_okc tb_m119) = true := by decide +kernel
set_option maxRecDepth 100000 in
theorem tb_ok119_l0 : (tb_l119).all (tb_okl tb_m119) = true := by decide +kernel
set_option maxRecDepth 100000 in
theorem tb_ok119 : tb_okm tb_m119 := ⟨Or.inr (by decide +kernel), tb_ok119_0, tb_ok119_l0, by decide +kernel⟩
/-! CountedActors$Mail.isCallTo(II)Z -/
set_option maxRecDepth 100000 in
theorem tb_ok120_0 : (tb_c120).all (tb_okc tb_m120) = true := by decide +kernel
set_option maxRecDepth 100000 in
theorem tb_ok120_l0 : (tb_l120).all (tb_okl tb_m120) = true := by decide +kernel
set_option maxRecDepth 100000 in
theorem tb_ok120 : tb_okm tb_m120 := ⟨Or.inr (by decide +kernel), tb_ok120_0, tb_ok120_l0, by decide +kernel⟩
/-! CountedActors$Walk.followByView()V -/
set_option maxRecDepth 100000 in
theorem tb_ok121_0 : (tb_c121.take 24).all (tb_okc tb_m121) = true := by decide +kernel
set_option maxRecDepth 100000 in
theorem tb_ok121_1 : ((tb_c121.drop 24)).all (tb_okc tb_m121) = true := by decide +kernel
set_option maxRecDepth 100000 in
theorem tb_ok121_l0 : (tb_l121).all (tb_okl tb_m121) = true := by decide +kernel
set_option maxRecDepth 100000 in
theorem tb_ok121 : tb_okm tb_m121 := ⟨Or.inr (by decide +kernel), tb_cut 24 tb_ok121_0 (tb_ok121_1), tb_ok121_l0, by decide +kernel⟩
/-! CountedActors$Walk.rightsOver(I)I -/
set_option maxRecDepth 100000 in
theorem tb_ok122_0 : (tb_c122.take 24).all (tb_okc tb_m122) = true := by decide +kernel
set_option maxRecDepth 100000 in
theorem tb_ok122_1 : ((tb_c122.drop 24)).all (tb_okc tb_m122) = true := by decide +kernel
set_option maxRecDepth 100000 in
theorem tb_ok122_l0 : (tb_l122).all (tb_okl tb_m122) = true := by decide +kernel
set_option maxRecDepth 100000 in
theorem tb_ok122 : tb_okm tb_m122 := ⟨Or.inr (by decide +kernel), tb_cut 24 tb_ok122_0 (tb_ok122_1), tb_ok122_l0, by decide +kernel⟩
/-! CountedActors.shown(I)I -/
set_option maxRecDepth 100000 in
theorem tb_ok123_0 : (tb_c123).all (tb_okc tb_m123) = true := by decide +kernel
set_option maxRecDepth 100000 in
theorem tb_ok123_l0 : (tb_l123).all (tb_okl tb_m123) = true := by decide +kernel
set_option maxRecDepth 100000 in
theorem tb_ok123 : tb_okm tb_m123 := ⟨Or.inr (by decide +kernel), tb_ok123_0, tb_ok123_l0, by decide +kernel⟩
/-! CountedActors$Display.times()I -/
set_option maxRecDepth 100000 in
theorem tb_ok124_0 : (tb_c124).all (tb_okc tb_m124) = true := by decide +kernel
set_option maxRecDepth 100000 in
theorem tb_ok124_l0 : (tb_l124).all (tb_okl tb_m124) = true := by decide +kernel
set_option maxRecDepth 100000 in
theorem tb_ok124 : tb_okm tb_m124 := ⟨Or.inr (by decide +kernel), tb_ok124_0, tb_ok124_l0, by decide +kernel⟩
/-! CountedActors$Display.latest(I)I -/
set_option maxRecDepth 100000 in
theorem tb_ok125_0 : (tb_c125).all (tb_okc tb_m125) = true := by decide +kernel
set_option maxRecDepth 100000 in
theorem tb_ok125_l0 : (tb_l125).all (tb_okl tb_m125) = true := by decide +kernel
set_option maxRecDepth 100000 in
theorem tb_ok125 : tb_okm tb_m125 := ⟨Or.inr (by decide +kernel), tb_ok125_0, tb_ok125_l0, by decide +kernel⟩
/-! CountedActors.garbage()I -/
set_option maxRecDepth 100000 in
theorem tb_ok126_0 : (tb_c126.take 24).all (tb_okc tb_m126) = true := by decide +kernel
set_option maxRecDepth 100000 in
theorem tb_ok126_1 : ((tb_c126.drop 24)).all (tb_okc tb_m126) = true := by decide +kernel
set_option maxRecDepth 100000 in
theorem tb_ok126_l0 : (tb_l126.take 6).all (tb_okl tb_m126) = true := by decide +kernel
set_option maxRecDepth 100000 in
theorem tb_ok126_l1 : ((tb_l126.drop 6)).all (tb_okl tb_m126) = true := by decide +kernel
set_option maxRecDepth 100000 in
theorem tb_ok126 : tb_okm tb_m126 := ⟨Or.inr (by decide +kernel), tb_cut 24 tb_ok126_0 (tb_ok126_1), tb_cut 6 tb_ok126_l0 (tb_ok126_l1), by decide +kernel⟩
/-! CountedActors.lost()I -/
set_option maxRecDepth 100000 in
theorem tb_ok127_0 : (tb_c127).all (tb_okc tb_m127) = true := by decide +kernel
set_option maxRecDepth 100000 in
theorem tb_ok127_l0 : (tb_l127).all (tb_okl tb_m127) = true := by decide +kernel
set_option maxRecDepth 100000 in
theorem tb_ok127 : tb_okm tb_m127 := ⟨Or.inr (by decide +kernel), tb_ok127_0, tb_ok127_l0, by decide +kernel⟩
/-! CountedActors$Machine.timesLost()I -/
set_option maxRecDepth 100000 in
theorem tb_ok128_0 : (tb_c128).all (tb_okc tb_m128) = true := by decide +kernel
set_option maxRecDepth 100000 in
theorem tb_ok128_l0 : (tb_l128).all (tb_okl tb_m128) = true := by decide +kernel
set_option maxRecDepth 100000 in
theorem tb_ok128 : tb_okm tb_m128 := ⟨Or.inr (by decide +kernel), tb_ok128_0, tb_ok128_l0, by decide +kernel⟩
/-! CountedActorsLaw.cell([II)I -/
set_option maxRecDepth 100000 in
theorem tb_ok129_0 : (tb_c129).all (tb_okc tb_m129) = true := by decide +kernel
set_option maxRecDepth 100000 in
theorem tb_ok129_l0 : (tb_l129).all (tb_okl tb_m129) = true := by decide +kernel
set_option maxRecDepth 100000 in
theorem tb_ok129 : tb_okm tb_m129 := ⟨Or.inr (by decide +kernel), tb_ok129_0, tb_ok129_l0, by decide +kernel⟩
/-! CountedActorsModel.<init>(I)V -/
set_option maxRecDepth 100000 in
theorem tb_ok130_0 : (tb_c130.take 24).all (tb_okc tb_m130) = true := by decide +kernel
set_option maxRecDepth 100000 in
theorem tb_ok130_1 : ((tb_c130.drop 24).take 24).all (tb_okc tb_m130) = true := by decide +kernel
set_option maxRecDepth 100000 in
theorem tb_ok130_2 : (((tb_c130.drop 24).drop 24).take 24).all (tb_okc tb_m130) = true := by decide +kernel
set_option maxRecDepth 100000 in
theorem tb_ok130_3 : ((((tb_c130.drop 24).drop 24).drop 24).take 24).all (tb_okc tb_m130) = true := by decide +kernel
set_option maxRecDepth 100000 in
theorem tb_ok130_4 : (((((tb_c130.drop 24).drop 24).drop 24).drop 24).take 24).all (tb_okc tb_m130) = true := by decide +kernel
set_option maxRecDepth 100000 in
theorem tb_ok130_5 : ((((((tb_c130.drop 24).drop 24).drop 24).drop 24).drop 24)).all (tb_okc tb_m130) = true := by decide +kernel
set_option maxRecDepth 100000 in
theorem tb_ok130_l0 : (tb_l130.take 6).all (tb_okl tb_m130) = true := by decide +kernel
set_option maxRecDepth 100000 in
theorem tb_ok130_l1 : ((tb_l130.drop 6).take 6).all (tb_okl tb_m130) = true := by decide +kernel
set_option maxRecDepth 100000 in
theorem tb_ok130_l2 : (((tb_l130.drop 6).drop 6).take 6).all (tb_okl tb_m130) = true := by decide +kernel
set_option maxRecDepth 100000 in
theorem tb_ok130_l3 : ((((tb_l130.drop 6).drop 6).drop 6)).all (tb_okl tb_m130) = true := by decide +kernel
set_option maxRecDepth 100000 in
theorem tb_ok130 : tb_okm tb_m130 := ⟨Or.inr (by decide +kernel), tb_cut 24 tb_ok130_0 (tb_cut 24 tb_ok130_1 (tb_cut 24 tb_ok130_2 (tb_cut 24 tb_ok130_3 (tb_cut 24 tb_ok130_4 (tb_ok130_5))))), tb_cut 6 tb_ok130_l0 (tb_cut 6 tb_ok130_l1 (tb_cut 6 tb_ok130_l2 (tb_ok130_l3))), by decide +kernel⟩
/-! CountedActorsModel.begin(I)I -/
set_option maxRecDepth 100000 in
theorem tb_ok131_0 : (tb_c131.take 24).all (tb_okc tb_m131) = true := by decide +kernel
set_option maxRecDepth 100000 in
theorem tb_ok131_1 : ((tb_c131.drop 24)).all (tb_okc tb_m131) = true := by decide +kernel
set_option maxRecDepth 100000 in
theorem tb_ok131_l0 : (tb_l131).all (tb_okl tb_m131) = true := by decide +kernel
set_option maxRecDepth 100000 in
theorem tb_ok131 : tb_okm tb_m131 := ⟨Or.inr (by decide +kernel), tb_cut 24 tb_ok131_0 (tb_ok131_1), tb_ok131_l0, by decide +kernel⟩
/-! CountedActorsModel.sendable(I)Z -/
set_option maxRecDepth 100000 in
theorem tb_ok132_0 : (tb_c132).all (tb_okc tb_m132) = true := by decide +kernel
set_option maxRecDepth 100000 in
theorem tb_ok132_l0 : (tb_l132).all (tb_okl tb_m132) = true := by decide +kernel
set_option maxRecDepth 100000 in
theorem tb_ok132 : tb_okm tb_m132 := ⟨Or.inr (by decide +kernel), tb_ok132_0, tb_ok132_l0, by decide +kernel⟩
/-! CountedActorsModel.drop()Z -/
set_option maxRecDepth 100000 in
theorem tb_ok133_0 : (tb_c133).all (tb_okc tb_m133) = true := by decide +kernel
set_option maxRecDepth 100000 in
theorem tb_ok133_l0 : (tb_l133).all (tb_okl tb_m133) = true := by decide +kernel
set_option maxRecDepth 100000 in
theorem tb_ok133 : tb_okm tb_m133 := ⟨Or.inr (by decide +kernel), tb_ok133_0, tb_ok133_l0, by decide +kernel⟩
/-! CountedActorsModel.end()Z -/
set_option maxRecDepth 100000 in
theorem tb_ok134_0 : (tb_c134).all (tb_okc tb_m134) = true := by decide +kernel
set_option maxRecDepth 100000 in
theorem tb_ok134_l0 : (tb_l134).all (tb_okl tb_m134) = true := by decide +kernel
set_option maxRecDepth 100000 in
theorem tb_ok134 : tb_okm tb_m134 := ⟨Or.inr (by decide +kernel), tb_ok134_0, tb_ok134_l0, by decide +kernel⟩
/-! CountedActorsModel.replay()V -/
set_option maxRecDepth 100000 in
theorem tb_ok135_0 : (tb_c135.take 24).all (tb_okc tb_m135) = true := by decide +kernel
set_option maxRecDepth 100000 in
theorem tb_ok135_1 : ((tb_c135.drop 24).take 24).all (tb_okc tb_m135) = true := by decide +kernel
set_option maxRecDepth 100000 in
theorem tb_ok135_2 : (((tb_c135.drop 24).drop 24)).all (tb_okc tb_m135) = true := by decide +kernel
set_option maxRecDepth 100000 in
theorem tb_ok135_l0 : (tb_l135.take 6).all (tb_okl tb_m135) = true := by decide +kernel
set_option maxRecDepth 100000 in
theorem tb_ok135_l1 : ((tb_l135.drop 6)).all (tb_okl tb_m135) = true := by decide +kernel
set_option maxRecDepth 100000 in
theorem tb_ok135 : tb_okm tb_m135 := ⟨Or.inr (by decide +kernel), tb_cut 24 tb_ok135_0 (tb_cut 24 tb_ok135_1 (tb_ok135_2)), tb_cut 6 tb_ok135_l0 (tb_ok135_l1), by decide +kernel⟩
/-! CountedActorsModel.effect(I)V -/
set_option maxRecDepth 100000 in
theorem tb_ok136_0 : (tb_c136.take 24).all (tb_okc tb_m136) = true := by decide +kernel
set_option maxRecDepth 100000 in
theorem tb_ok136_1 : ((tb_c136.drop 24).take 24).all (tb_okc tb_m136) = true := by decide +kernel
set_option maxRecDepth 100000 in
theorem tb_ok136_2 : (((tb_c136.drop 24).drop 24).take 24).all (tb_okc tb_m136) = true := by decide +kernel
set_option maxRecDepth 100000 in
theorem tb_ok136_3 : ((((tb_c136.drop 24).drop 24).drop 24).take 24).all (tb_okc tb_m136) = true := by decide +kernel
set_option maxRecDepth 100000 in
theorem tb_ok136_4 : (((((tb_c136.drop 24).drop 24).drop 24).drop 24).take 24).all (tb_okc tb_m136) = true := by decide +kernel
set_option maxRecDepth 100000 in
theorem tb_ok136_5 : ((((((tb_c136.drop 24).drop 24).drop 24).drop 24).drop 24).take 24).all (tb_okc tb_m136) = true := by decide +kernel
set_option maxRecDepth 100000 in
theorem tb_ok136_6 : (((((((tb_c136.drop 24).drop 24).drop 24).drop 24).drop 24).drop 24)).all (tb_okc tb_m136) = true := by decide +kernel
set_option maxRecDepth 100000 in
theorem tb_ok136_l0 : (tb_l136.take 6).all (tb_okl tb_m136) = true := by decide +kernel
set_option maxRecDepth 100000 in
theorem tb_ok136_l1 : ((tb_l136.drop 6)).all (tb_okl tb_m136) = true := by decide +kernel
set_option maxRecDepth 100000 in
theorem tb_ok136 : tb_okm tb_m136 := ⟨Or.inr (by decide +kernel), tb_cut 24 tb_ok136_0 (tb_cut 24 tb_ok136_1 (tb_cut 24 tb_ok136_2 (tb_cut 24 tb_ok136_3 (tb_cut 24 tb_ok136_4 (tb_cut 24 tb_ok136_5 (tb_ok136_6)))))), tb_cut 6 tb_ok136_l0 (tb_ok136_l1), by decide +kernel⟩
/-! CountedActorsModel.become(II)V -/
set_option maxRecDepth 100000 in
theorem tb_ok137_0 : (tb_c137).all (tb_okc tb_m137) = true := by decide +kernel
set_option maxRecDepth 100000 in
theorem tb_ok137_l0 : (tb_l137).all (tb_okl tb_m137) = true := by decide +kernel
set_option maxRecDepth 100000 in
theorem tb_ok137 : tb_okm tb_m137 := ⟨Or.inr (by decide +kernel), tb_ok137_0, tb_ok137_l0, by decide +kernel⟩
