/-! CountedActorsModel.made(I)I -/
set_option maxRecDepth 100000 in
theorem tb_ok162_0 : (tb_c162.take 24).all (tb_okc tb_m162) = true := by decide +kernel
set_option maxRecDepth 100000 in
theorem tb_ok162_1 : ((tb_c162.drop 24).take 24).all (tb_okc tb_m162) = true := by decide +kernel
set_option maxRecDepth 100000 in
theorem tb_ok162_2 : (((tb_c162.drop 24).drop 24)).all (tb_okc tb_m162) = true := by decide +kernel
set_option maxRecDepth 100000 in
theorem tb_ok162_l0 : (tb_l162).all (tb_okl tb_m162) = true := by decide +kernel
set_option maxRecDepth 100000 in
theorem tb_ok162 : tb_okm tb_m162 := ⟨Or.inr (by decide +kernel), tb_cut 24 tb_ok162_0 (tb_cut 24 tb_ok162_1 (tb_ok162_2)), tb_ok162_l0, by decide +kernel⟩
/-! CountedActorsModel.read(III)I -/
set_option maxRecDepth 100000 in
theorem tb_ok163_0 : (tb_c163.take 24).all (tb_okc tb_m163) = true := by decide +kernel
set_option maxRecDepth 100000 in
theorem tb_ok163_1 : ((tb_c163.drop 24)).all (tb_okc tb_m163) = true := by decide +kernel
set_option maxRecDepth 100000 in
theorem tb_ok163_l0 : (tb_l163).all (tb_okl tb_m163) = true := by decide +kernel
set_option maxRecDepth 100000 in
theorem tb_ok163 : tb_okm tb_m163 := ⟨Or.inr (by decide +kernel), tb_cut 24 tb_ok163_0 (tb_ok163_1), tb_ok163_l0, by decide +kernel⟩
/-! CountedActorsModel.write(IIII)V -/
set_option maxRecDepth 100000 in
theorem tb_ok164_0 : (tb_c164.take 24).all (tb_okc tb_m164) = true := by decide +kernel
set_option maxRecDepth 100000 in
theorem tb_ok164_1 : ((tb_c164.drop 24)).all (tb_okc tb_m164) = true := by decide +kernel
set_option maxRecDepth 100000 in
theorem tb_ok164_l0 : (tb_l164).all (tb_okl tb_m164) = true := by decide +kernel
set_option maxRecDepth 100000 in
theorem tb_ok164 : tb_okm tb_m164 := ⟨Or.inr (by decide +kernel), tb_cut 24 tb_ok164_0 (tb_ok164_1), tb_ok164_l0, by decide +kernel⟩
/-! CountedActorsModel.show(I)V -/
set_option maxRecDepth 100000 in
theorem tb_ok165_0 : (tb_c165.take 24).all (tb_okc tb_m165) = true := by decide +kernel
set_option maxRecDepth 100000 in
theorem tb_ok165_1 : ((tb_c165.drop 24)).all (tb_okc tb_m165) = true := by decide +kernel
set_option maxRecDepth 100000 in
theorem tb_ok165_l0 : (tb_l165).all (tb_okl tb_m165) = true := by decide +kernel
set_option maxRecDepth 100000 in
theorem tb_ok165 : tb_okm tb_m165 := ⟨Or.inr (by decide +kernel), tb_cut 24 tb_ok165_0 (tb_ok165_1), tb_ok165_l0, by decide +kernel⟩
/-! CountedActorsModel.send(IIII)V -/
set_option maxRecDepth 100000 in
theorem tb_ok166_0 : (tb_c166.take 24).all (tb_okc tb_m166) = true := by decide +kernel
set_option maxRecDepth 100000 in
theorem tb_ok166_1 : ((tb_c166.drop 24).take 24).all (tb_okc tb_m166) = true := by decide +kernel
set_option maxRecDepth 100000 in
theorem tb_ok166_2 : (((tb_c166.drop 24).drop 24).take 24).all (tb_okc tb_m166) = true := by decide +kernel
set_option maxRecDepth 100000 in
theorem tb_ok166_3 : ((((tb_c166.drop 24).drop 24).drop 24)).all (tb_okc tb_m166) = true := by decide +kernel
set_option maxRecDepth 100000 in
theorem tb_ok166_l0 : (tb_l166.take 6).all (tb_okl tb_m166) = true := by decide +kernel
set_option maxRecDepth 100000 in
theorem tb_ok166_l1 : ((tb_l166.drop 6)).all (tb_okl tb_m166) = true := by decide +kernel
set_option maxRecDepth 100000 in
theorem tb_ok166 : tb_okm tb_m166 := ⟨Or.inr (by decide +kernel), tb_cut 24 tb_ok166_0 (tb_cut 24 tb_ok166_1 (tb_cut 24 tb_ok166_2 (tb_ok166_3))), tb_cut 6 tb_ok166_l0 (tb_ok166_l1), by decide +kernel⟩
/-! CountedActorsModel.pay(II)V -/
set_option maxRecDepth 100000 in
theorem tb_ok167_0 : (tb_c167.take 24).all (tb_okc tb_m167) = true := by decide +kernel
set_option maxRecDepth 100000 in
theorem tb_ok167_1 : ((tb_c167.drop 24).take 24).all (tb_okc tb_m167) = true := by decide +kernel
set_option maxRecDepth 100000 in
theorem tb_ok167_2 : (((tb_c167.drop 24).drop 24)).all (tb_okc tb_m167) = true := by decide +kernel
set_option maxRecDepth 100000 in
theorem tb_ok167_l0 : (tb_l167).all (tb_okl tb_m167) = true := by decide +kernel
set_option maxRecDepth 100000 in
theorem tb_ok167 : tb_okm tb_m167 := ⟨Or.inr (by decide +kernel), tb_cut 24 tb_ok167_0 (tb_cut 24 tb_ok167_1 (tb_ok167_2)), tb_ok167_l0, by decide +kernel⟩
/-! CountedActorsModel.collect(I)I -/
set_option maxRecDepth 100000 in
theorem tb_ok168_0 : (tb_c168.take 24).all (tb_okc tb_m168) = true := by decide +kernel
set_option maxRecDepth 100000 in
theorem tb_ok168_1 : ((tb_c168.drop 24).take 24).all (tb_okc tb_m168) = true := by decide +kernel
set_option maxRecDepth 100000 in
theorem tb_ok168_2 : (((tb_c168.drop 24).drop 24).take 24).all (tb_okc tb_m168) = true := by decide +kernel
set_option maxRecDepth 100000 in
theorem tb_ok168_3 : ((((tb_c168.drop 24).drop 24).drop 24).take 24).all (tb_okc tb_m168) = true := by decide +kernel
set_option maxRecDepth 100000 in
theorem tb_ok168_4 : (((((tb_c168.drop 24).drop 24).drop 24).drop 24)).all (tb_okc tb_m168) = true := by decide +kernel
set_option maxRecDepth 100000 in
theorem tb_ok168_l0 : (tb_l168.take 6).all (tb_okl tb_m168) = true := by decide +kernel
set_option maxRecDepth 100000 in
theorem tb_ok168_l1 : ((tb_l168.drop 6)).all (tb_okl tb_m168) = true := by decide +kernel
set_option maxRecDepth 100000 in
theorem tb_ok168 : tb_okm tb_m168 := ⟨Or.inr (by decide +kernel), tb_cut 24 tb_ok168_0 (tb_cut 24 tb_ok168_1 (tb_cut 24 tb_ok168_2 (tb_cut 24 tb_ok168_3 (tb_ok168_4)))), tb_cut 6 tb_ok168_l0 (tb_ok168_l1), by decide +kernel⟩
/-! CountedActorsModel.ownRoots(I)V -/
set_option maxRecDepth 100000 in
theorem tb_ok169_0 : (tb_c169).all (tb_okc tb_m169) = true := by decide +kernel
set_option maxRecDepth 100000 in
theorem tb_ok169_l0 : (tb_l169).all (tb_okl tb_m169) = true := by decide +kernel
set_option maxRecDepth 100000 in
theorem tb_ok169 : tb_okm tb_m169 := ⟨Or.inr (by decide +kernel), tb_ok169_0, tb_ok169_l0, by decide +kernel⟩
/-! CountedActorsModel.remove(I)V -/
set_option maxRecDepth 100000 in
theorem tb_ok170_0 : (tb_c170.take 24).all (tb_okc tb_m170) = true := by decide +kernel
set_option maxRecDepth 100000 in
theorem tb_ok170_1 : ((tb_c170.drop 24)).all (tb_okc tb_m170) = true := by decide +kernel
set_option maxRecDepth 100000 in
theorem tb_ok170_l0 : (tb_l170).all (tb_okl tb_m170) = true := by decide +kernel
set_option maxRecDepth 100000 in
theorem tb_ok170 : tb_okm tb_m170 := ⟨Or.inr (by decide +kernel), tb_cut 24 tb_ok170_0 (tb_ok170_1), tb_ok170_l0, by decide +kernel⟩
/-! CountedActorsModel.waiting(I)I -/
set_option maxRecDepth 100000 in
theorem tb_ok171_0 : (tb_c171.take 24).all (tb_okc tb_m171) = true := by decide +kernel
set_option maxRecDepth 100000 in
theorem tb_ok171_1 : ((tb_c171.drop 24)).all (tb_okc tb_m171) = true := by decide +kernel
set_option maxRecDepth 100000 in
theorem tb_ok171_l0 : (tb_l171).all (tb_okl tb_m171) = true := by decide +kernel
set_option maxRecDepth 100000 in
theorem tb_ok171 : tb_okm tb_m171 := ⟨Or.inr (by decide +kernel), tb_cut 24 tb_ok171_0 (tb_ok171_1), tb_ok171_l0, by decide +kernel⟩
/-! CountedActorsModel.owner(I)I -/
set_option maxRecDepth 100000 in
theorem tb_ok172_0 : (tb_c172).all (tb_okc tb_m172) = true := by decide +kernel
set_option maxRecDepth 100000 in
theorem tb_ok172_l0 : (tb_l172).all (tb_okl tb_m172) = true := by decide +kernel
set_option maxRecDepth 100000 in
theorem tb_ok172 : tb_okm tb_m172 := ⟨Or.inr (by decide +kernel), tb_ok172_0, tb_ok172_l0, by decide +kernel⟩
/-! CountedActorsModel.there(I)Z -/
set_option maxRecDepth 100000 in
theorem tb_ok173_0 : (tb_c173).all (tb_okc tb_m173) = true := by decide +kernel
set_option maxRecDepth 100000 in
theorem tb_ok173_l0 : (tb_l173).all (tb_okl tb_m173) = true := by decide +kernel
set_option maxRecDepth 100000 in
theorem tb_ok173 : tb_okm tb_m173 := ⟨Or.inr (by decide +kernel), tb_ok173_0, tb_ok173_l0, by decide +kernel⟩
/-! CountedActorsModel.cell(I)I -/
set_option maxRecDepth 100000 in
theorem tb_ok174_0 : (tb_c174).all (tb_okc tb_m174) = true := by decide +kernel
set_option maxRecDepth 100000 in
theorem tb_ok174_l0 : (tb_l174).all (tb_okl tb_m174) = true := by decide +kernel
set_option maxRecDepth 100000 in
theorem tb_ok174 : tb_okm tb_m174 := ⟨Or.inr (by decide +kernel), tb_ok174_0, tb_ok174_l0, by decide +kernel⟩
/-! CountedActorsModel.count(II)I -/
set_option maxRecDepth 100000 in
theorem tb_ok175_0 : (tb_c175).all (tb_okc tb_m175) = true := by decide +kernel
set_option maxRecDepth 100000 in
theorem tb_ok175_l0 : (tb_l175).all (tb_okl tb_m175) = true := by decide +kernel
set_option maxRecDepth 100000 in
theorem tb_ok175 : tb_okm tb_m175 := ⟨Or.inr (by decide +kernel), tb_ok175_0, tb_ok175_l0, by decide +kernel⟩
/-! CountedActorsModel.field(II)I -/
set_option maxRecDepth 100000 in
theorem tb_ok176_0 : (tb_c176).all (tb_okc tb_m176) = true := by decide +kernel
set_option maxRecDepth 100000 in
theorem tb_ok176_l0 : (tb_l176).all (tb_okl tb_m176) = true := by decide +kernel
set_option maxRecDepth 100000 in
theorem tb_ok176 : tb_okm tb_m176 := ⟨Or.inr (by decide +kernel), tb_ok176_0, tb_ok176_l0, by decide +kernel⟩
/-! CountedActorsModel.inner(II)I -/
set_option maxRecDepth 100000 in
theorem tb_ok177_0 : (tb_c177).all (tb_okc tb_m177) = true := by decide +kernel
set_option maxRecDepth 100000 in
theorem tb_ok177_l0 : (tb_l177).all (tb_okl tb_m177) = true := by decide +kernel
set_option maxRecDepth 100000 in
theorem tb_ok177 : tb_okm tb_m177 := ⟨Or.inr (by decide +kernel), tb_ok177_0, tb_ok177_l0, by decide +kernel⟩
/-! CountedActorsModel.rights(II)I -/
set_option maxRecDepth 100000 in
theorem tb_ok178_0 : (tb_c178.take 24).all (tb_okc tb_m178) = true := by decide +kernel
set_option maxRecDepth 100000 in
theorem tb_ok178_1 : ((tb_c178.drop 24).take 24).all (tb_okc tb_m178) = true := by decide +kernel
set_option maxRecDepth 100000 in
theorem tb_ok178_2 : (((tb_c178.drop 24).drop 24).take 24).all (tb_okc tb_m178) = true := by decide +kernel
set_option maxRecDepth 100000 in
theorem tb_ok178_3 : ((((tb_c178.drop 24).drop 24).drop 24).take 24).all (tb_okc tb_m178) = true := by decide +kernel
set_option maxRecDepth 100000 in
theorem tb_ok178_4 : (((((tb_c178.drop 24).drop 24).drop 24).drop 24).take 24).all (tb_okc tb_m178) = true := by decide +kernel
set_option maxRecDepth 100000 in
theorem tb_ok178_5 : ((((((tb_c178.drop 24).drop 24).drop 24).drop 24).drop 24).take 24).all (tb_okc tb_m178) = true := by decide +kernel
set_option maxRecDepth 100000 in
theorem tb_ok178_6 : (((((((tb_c178.drop 24).drop 24).drop 24).drop 24).drop 24).drop 24).take 24).all (tb_okc tb_m178) = true := by decide +kernel
set_option maxRecDepth 100000 in
theorem tb_ok178_7 : ((((((((tb_c178.drop 24).drop 24).drop 24).drop 24).drop 24).drop 24).drop 24)).all (tb_okc tb_m178) = true := by decide +kernel
set_option maxRecDepth 100000 in
theorem tb_ok178_l0 : (tb_l178.take 6).all (tb_okl tb_m178) = true := by decide +kernel
set_option maxRecDepth 100000 in
theorem tb_ok178_l1 : ((tb_l178.drop 6).take 6).all (tb_okl tb_m178) = true := by decide +kernel
set_option maxRecDepth 100000 in
theorem tb_ok178_l2 : (((tb_l178.drop 6).drop 6)).all (tb_okl tb_m178) = true := by decide +kernel
set_option maxRecDepth 100000 in
theorem tb_ok178 : tb_okm tb_m178 := ⟨Or.inr (by decide +kernel), tb_cut 24 tb_ok178_0 (tb_cut 24 tb_ok178_1 (tb_cut 24 tb_ok178_2 (tb_cut 24 tb_ok178_3 (tb_cut 24 tb_ok178_4 (tb_cut 24 tb_ok178_5 (tb_cut 24 tb_ok178_6 (tb_ok178_7))))))), tb_cut 6 tb_ok178_l0 (tb_cut 6 tb_ok178_l1 (tb_ok178_l2)), by decide +kernel⟩
/-! CountedActorsModel.look()V -/
set_option maxRecDepth 100000 in
theorem tb_ok179_0 : (tb_c179.take 24).all (tb_okc tb_m179) = true := by decide +kernel
set_option maxRecDepth 100000 in
theorem tb_ok179_1 : ((tb_c179.drop 24).take 24).all (tb_okc tb_m179) = true := by decide +kernel
set_option maxRecDepth 100000 in
theorem tb_ok179_2 : (((tb_c179.drop 24).drop 24)).all (tb_okc tb_m179) = true := by decide +kernel
set_option maxRecDepth 100000 in
theorem tb_ok179_l0 : (tb_l179).all (tb_okl tb_m179) = true := by decide +kernel
set_option maxRecDepth 100000 in
theorem tb_ok179 : tb_okm tb_m179 := ⟨Or.inr (by decide +kernel), tb_cut 24 tb_ok179_0 (tb_cut 24 tb_ok179_1 (tb_ok179_2)), tb_ok179_l0, by decide +kernel⟩
/-! CountedActorsModel.shown(I)I -/
set_option maxRecDepth 100000 in
theorem tb_ok180_0 : (tb_c180).all (tb_okc tb_m180) = true := by decide +kernel
set_option maxRecDepth 100000 in
theorem tb_ok180_l0 : (tb_l180).all (tb_okl tb_m180) = true := by decide +kernel
set_option maxRecDepth 100000 in
theorem tb_ok180 : tb_okm tb_m180 := ⟨Or.inr (by decide +kernel), tb_ok180_0, tb_ok180_l0, by decide +kernel⟩
/-! CountedActorsModel.garbage()I -/
set_option maxRecDepth 100000 in
theorem tb_ok181_0 : (tb_c181.take 24).all (tb_okc tb_m181) = true := by decide +kernel
set_option maxRecDepth 100000 in
theorem tb_ok181_1 : ((tb_c181.drop 24).take 24).all (tb_okc tb_m181) = true := by decide +kernel
set_option maxRecDepth 100000 in
theorem tb_ok181_2 : (((tb_c181.drop 24).drop 24)).all (tb_okc tb_m181) = true := by decide +kernel
set_option maxRecDepth 100000 in
theorem tb_ok181_l0 : (tb_l181.take 6).all (tb_okl tb_m181) = true := by decide +kernel
set_option maxRecDepth 100000 in
theorem tb_ok181_l1 : ((tb_l181.drop 6)).all (tb_okl tb_m181) = true := by decide +kernel
set_option maxRecDepth 100000 in
theorem tb_ok181 : tb_okm tb_m181 := ⟨Or.inr (by decide +kernel), tb_cut 24 tb_ok181_0 (tb_cut 24 tb_ok181_1 (tb_ok181_2)), tb_cut 6 tb_ok181_l0 (tb_ok181_l1), by decide +kernel⟩
/-! CountedActorsModel.lost()I -/
set_option maxRecDepth 100000 in
theorem tb_ok182_0 : (tb_c182).all (tb_okc tb_m182) = true := by decide +kernel
set_option maxRecDepth 100000 in
theorem tb_ok182_l0 : (tb_l182).all (tb_okl tb_m182) = true := by decide +kernel
set_option maxRecDepth 100000 in
theorem tb_ok182 : tb_okm tb_m182 := ⟨Or.inr (by decide +kernel), tb_ok182_0, tb_ok182_l0, by decide +kernel⟩
