/-! CountedActorsModel.alias(I)I -/
set_option maxRecDepth 100000 in
theorem tb_ok138_0 : (tb_c138).all (tb_okc tb_m138) = true := by decide +kernel
set_option maxRecDepth 100000 in
theorem tb_ok138_l0 : (tb_l138).all (tb_okl tb_m138) = true := by decide +kernel
set_option maxRecDepth 100000 in
theorem tb_ok138 : tb_okm tb_m138 := ⟨Or.inr (by decide +kernel), tb_ok138_0, tb_ok138_l0, by decide +kernel⟩
/-! CountedActorsModel.has(I)I -/
set_option maxRecDepth 100000 in
theorem tb_ok139_0 : (tb_c139).all (tb_okc tb_m139) = true := by decide +kernel
set_option maxRecDepth 100000 in
theorem tb_ok139_l0 : (tb_l139).all (tb_okl tb_m139) = true := by decide +kernel
set_option maxRecDepth 100000 in
theorem tb_ok139 : tb_okm tb_m139 := ⟨Or.inr (by decide +kernel), tb_ok139_0, tb_ok139_l0, by decide +kernel⟩
/-! CountedActorsModel.view(II)I -/
set_option maxRecDepth 100000 in
theorem tb_ok140_0 : (tb_c140.take 24).all (tb_okc tb_m140) = true := by decide +kernel
set_option maxRecDepth 100000 in
theorem tb_ok140_1 : ((tb_c140.drop 24)).all (tb_okc tb_m140) = true := by decide +kernel
set_option maxRecDepth 100000 in
theorem tb_ok140_l0 : (tb_l140).all (tb_okl tb_m140) = true := by decide +kernel
set_option maxRecDepth 100000 in
theorem tb_ok140 : tb_okm tb_m140 := ⟨Or.inr (by decide +kernel), tb_cut 24 tb_ok140_0 (tb_ok140_1), tb_ok140_l0, by decide +kernel⟩
/-! CountedActorsModel.pick(II)I -/
set_option maxRecDepth 100000 in
theorem tb_ok141_0 : (tb_c141).all (tb_okc tb_m141) = true := by decide +kernel
set_option maxRecDepth 100000 in
theorem tb_ok141_l0 : (tb_l141).all (tb_okl tb_m141) = true := by decide +kernel
set_option maxRecDepth 100000 in
theorem tb_ok141 : tb_okm tb_m141 := ⟨Or.inr (by decide +kernel), tb_ok141_0, tb_ok141_l0, by decide +kernel⟩
/-! CountedActorsModel.drawn(II)I -/
set_option maxRecDepth 100000 in
theorem tb_ok142_0 : (tb_c142).all (tb_okc tb_m142) = true := by decide +kernel
set_option maxRecDepth 100000 in
theorem tb_ok142_l0 : (tb_l142).all (tb_okl tb_m142) = true := by decide +kernel
set_option maxRecDepth 100000 in
theorem tb_ok142 : tb_okm tb_m142 := ⟨Or.inr (by decide +kernel), tb_ok142_0, tb_ok142_l0, by decide +kernel⟩
/-! CountedActorsModel.leave(II)V -/
set_option maxRecDepth 100000 in
theorem tb_ok143_0 : (tb_c143.take 24).all (tb_okc tb_m143) = true := by decide +kernel
set_option maxRecDepth 100000 in
theorem tb_ok143_1 : ((tb_c143.drop 24).take 24).all (tb_okc tb_m143) = true := by decide +kernel
set_option maxRecDepth 100000 in
theorem tb_ok143_2 : (((tb_c143.drop 24).drop 24)).all (tb_okc tb_m143) = true := by decide +kernel
set_option maxRecDepth 100000 in
theorem tb_ok143_l0 : (tb_l143).all (tb_okl tb_m143) = true := by decide +kernel
set_option maxRecDepth 100000 in
theorem tb_ok143 : tb_okm tb_m143 := ⟨Or.inr (by decide +kernel), tb_cut 24 tb_ok143_0 (tb_cut 24 tb_ok143_1 (tb_ok143_2)), tb_ok143_l0, by decide +kernel⟩
/-! CountedActorsModel.writable(I)Z -/
set_option maxRecDepth 100000 in
theorem tb_ok144_0 : (tb_c144).all (tb_okc tb_m144) = true := by decide +kernel
set_option maxRecDepth 100000 in
theorem tb_ok144_l0 : (tb_l144).all (tb_okl tb_m144) = true := by decide +kernel
set_option maxRecDepth 100000 in
theorem tb_ok144 : tb_okm tb_m144 := ⟨Or.inr (by decide +kernel), tb_ok144_0, tb_ok144_l0, by decide +kernel⟩
/-! CountedActorsModel.add(IIIII)I -/
set_option maxRecDepth 100000 in
theorem tb_ok145_0 : (tb_c145.take 24).all (tb_okc tb_m145) = true := by decide +kernel
set_option maxRecDepth 100000 in
theorem tb_ok145_1 : ((tb_c145.drop 24).take 24).all (tb_okc tb_m145) = true := by decide +kernel
set_option maxRecDepth 100000 in
theorem tb_ok145_2 : (((tb_c145.drop 24).drop 24).take 24).all (tb_okc tb_m145) = true := by decide +kernel
set_option maxRecDepth 100000 in
theorem tb_ok145_3 : ((((tb_c145.drop 24).drop 24).drop 24)).all (tb_okc tb_m145) = true := by decide +kernel
set_option maxRecDepth 100000 in
theorem tb_ok145_l0 : (tb_l145).all (tb_okl tb_m145) = true := by decide +kernel
set_option maxRecDepth 100000 in
theorem tb_ok145 : tb_okm tb_m145 := ⟨Or.inr (by decide +kernel), tb_cut 24 tb_ok145_0 (tb_cut 24 tb_ok145_1 (tb_cut 24 tb_ok145_2 (tb_ok145_3))), tb_ok145_l0, by decide +kernel⟩
/-! CountedActorsModel.refusal(IIIII)I -/
set_option maxRecDepth 100000 in
theorem tb_ok146_0 : (tb_c146.take 24).all (tb_okc tb_m146) = true := by decide +kernel
set_option maxRecDepth 100000 in
theorem tb_ok146_1 : ((tb_c146.drop 24).take 24).all (tb_okc tb_m146) = true := by decide +kernel
set_option maxRecDepth 100000 in
theorem tb_ok146_2 : (((tb_c146.drop 24).drop 24).take 24).all (tb_okc tb_m146) = true := by decide +kernel
set_option maxRecDepth 100000 in
theorem tb_ok146_3 : ((((tb_c146.drop 24).drop 24).drop 24).take 24).all (tb_okc tb_m146) = true := by decide +kernel
set_option maxRecDepth 100000 in
theorem tb_ok146_4 : (((((tb_c146.drop 24).drop 24).drop 24).drop 24).take 24).all (tb_okc tb_m146) = true := by decide +kernel
set_option maxRecDepth 100000 in
theorem tb_ok146_5 : ((((((tb_c146.drop 24).drop 24).drop 24).drop 24).drop 24).take 24).all (tb_okc tb_m146) = true := by decide +kernel
set_option maxRecDepth 100000 in
theorem tb_ok146_6 : (((((((tb_c146.drop 24).drop 24).drop 24).drop 24).drop 24).drop 24).take 24).all (tb_okc tb_m146) = true := by decide +kernel
set_option maxRecDepth 100000 in
theorem tb_ok146_7 : ((((((((tb_c146.drop 24).drop 24).drop 24).drop 24).drop 24).drop 24).drop 24)).all (tb_okc tb_m146) = true := by decide +kernel
set_option maxRecDepth 100000 in
theorem tb_ok146_l0 : (tb_l146.take 6).all (tb_okl tb_m146) = true := by decide +kernel
set_option maxRecDepth 100000 in
theorem tb_ok146_l1 : ((tb_l146.drop 6).take 6).all (tb_okl tb_m146) = true := by decide +kernel
set_option maxRecDepth 100000 in
theorem tb_ok146_l2 : (((tb_l146.drop 6).drop 6)).all (tb_okl tb_m146) = true := by decide +kernel
set_option maxRecDepth 100000 in
theorem tb_ok146 : tb_okm tb_m146 := ⟨Or.inr (by decide +kernel), tb_cut 24 tb_ok146_0 (tb_cut 24 tb_ok146_1 (tb_cut 24 tb_ok146_2 (tb_cut 24 tb_ok146_3 (tb_cut 24 tb_ok146_4 (tb_cut 24 tb_ok146_5 (tb_cut 24 tb_ok146_6 (tb_ok146_7))))))), tb_cut 6 tb_ok146_l0 (tb_cut 6 tb_ok146_l1 (tb_ok146_l2)), by decide +kernel⟩
/-! CountedActorsModel.named(IIIII)Z -/
set_option maxRecDepth 100000 in
theorem tb_ok147_0 : (tb_c147.take 24).all (tb_okc tb_m147) = true := by decide +kernel
set_option maxRecDepth 100000 in
theorem tb_ok147_1 : ((tb_c147.drop 24).take 24).all (tb_okc tb_m147) = true := by decide +kernel
set_option maxRecDepth 100000 in
theorem tb_ok147_2 : (((tb_c147.drop 24).drop 24).take 24).all (tb_okc tb_m147) = true := by decide +kernel
set_option maxRecDepth 100000 in
theorem tb_ok147_3 : ((((tb_c147.drop 24).drop 24).drop 24)).all (tb_okc tb_m147) = true := by decide +kernel
set_option maxRecDepth 100000 in
theorem tb_ok147_l0 : (tb_l147).all (tb_okl tb_m147) = true := by decide +kernel
set_option maxRecDepth 100000 in
theorem tb_ok147 : tb_okm tb_m147 := ⟨Or.inr (by decide +kernel), tb_cut 24 tb_ok147_0 (tb_cut 24 tb_ok147_1 (tb_cut 24 tb_ok147_2 (tb_ok147_3))), tb_ok147_l0, by decide +kernel⟩
/-! CountedActorsModel.below(II)Z -/
set_option maxRecDepth 100000 in
theorem tb_ok148_0 : (tb_c148).all (tb_okc tb_m148) = true := by decide +kernel
set_option maxRecDepth 100000 in
theorem tb_ok148_l0 : (tb_l148).all (tb_okl tb_m148) = true := by decide +kernel
set_option maxRecDepth 100000 in
theorem tb_ok148 : tb_okm tb_m148 := ⟨Or.inr (by decide +kernel), tb_ok148_0, tb_ok148_l0, by decide +kernel⟩
/-! CountedActorsModel.usesZ(I)Z -/
set_option maxRecDepth 100000 in
theorem tb_ok149_0 : (tb_c149).all (tb_okc tb_m149) = true := by decide +kernel
set_option maxRecDepth 100000 in
theorem tb_ok149_l0 : (tb_l149).all (tb_okl tb_m149) = true := by decide +kernel
set_option maxRecDepth 100000 in
theorem tb_ok149 : tb_okm tb_m149 := ⟨Or.inr (by decide +kernel), tb_ok149_0, tb_ok149_l0, by decide +kernel⟩
/-! CountedActorsModel.usesY(I)Z -/
set_option maxRecDepth 100000 in
theorem tb_ok150_0 : (tb_c150).all (tb_okc tb_m150) = true := by decide +kernel
set_option maxRecDepth 100000 in
theorem tb_ok150_l0 : (tb_l150).all (tb_okl tb_m150) = true := by decide +kernel
set_option maxRecDepth 100000 in
theorem tb_ok150 : tb_okm tb_m150 := ⟨Or.inr (by decide +kernel), tb_ok150_0, tb_ok150_l0, by decide +kernel⟩
/-! CountedActorsModel.safe(II)Z -/
set_option maxRecDepth 100000 in
theorem tb_ok151_0 : (tb_c151).all (tb_okc tb_m151) = true := by decide +kernel
set_option maxRecDepth 100000 in
theorem tb_ok151_l0 : (tb_l151).all (tb_okl tb_m151) = true := by decide +kernel
set_option maxRecDepth 100000 in
theorem tb_ok151 : tb_okm tb_m151 := ⟨Or.inr (by decide +kernel), tb_ok151_0, tb_ok151_l0, by decide +kernel⟩
/-! CountedActorsModel.suits(II)Z -/
set_option maxRecDepth 100000 in
theorem tb_ok152_0 : (tb_c152.take 24).all (tb_okc tb_m152) = true := by decide +kernel
set_option maxRecDepth 100000 in
theorem tb_ok152_1 : ((tb_c152.drop 24).take 24).all (tb_okc tb_m152) = true := by decide +kernel
set_option maxRecDepth 100000 in
theorem tb_ok152_2 : (((tb_c152.drop 24).drop 24)).all (tb_okc tb_m152) = true := by decide +kernel
set_option maxRecDepth 100000 in
theorem tb_ok152_l0 : (tb_l152).all (tb_okl tb_m152) = true := by decide +kernel
set_option maxRecDepth 100000 in
theorem tb_ok152 : tb_okm tb_m152 := ⟨Or.inr (by decide +kernel), tb_cut 24 tb_ok152_0 (tb_cut 24 tb_ok152_1 (tb_ok152_2)), tb_ok152_l0, by decide +kernel⟩
/-! CountedActorsModel.holds(I)I -/
set_option maxRecDepth 100000 in
theorem tb_ok153_0 : (tb_c153).all (tb_okc tb_m153) = true := by decide +kernel
set_option maxRecDepth 100000 in
theorem tb_ok153_l0 : (tb_l153).all (tb_okl tb_m153) = true := by decide +kernel
set_option maxRecDepth 100000 in
theorem tb_ok153 : tb_okm tb_m153 := ⟨Or.inr (by decide +kernel), tb_ok153_0, tb_ok153_l0, by decide +kernel⟩
/-! CountedActorsModel.post(II)Z -/
set_option maxRecDepth 100000 in
theorem tb_ok154_0 : (tb_c154.take 24).all (tb_okc tb_m154) = true := by decide +kernel
set_option maxRecDepth 100000 in
theorem tb_ok154_1 : ((tb_c154.drop 24)).all (tb_okc tb_m154) = true := by decide +kernel
set_option maxRecDepth 100000 in
theorem tb_ok154_l0 : (tb_l154).all (tb_okl tb_m154) = true := by decide +kernel
set_option maxRecDepth 100000 in
theorem tb_ok154 : tb_okm tb_m154 := ⟨Or.inr (by decide +kernel), tb_cut 24 tb_ok154_0 (tb_ok154_1), tb_ok154_l0, by decide +kernel⟩
/-! CountedActorsModel.say(IIII)V -/
set_option maxRecDepth 100000 in
theorem tb_ok155_0 : (tb_c155.take 24).all (tb_okc tb_m155) = true := by decide +kernel
set_option maxRecDepth 100000 in
theorem tb_ok155_1 : ((tb_c155.drop 24)).all (tb_okc tb_m155) = true := by decide +kernel
set_option maxRecDepth 100000 in
theorem tb_ok155_l0 : (tb_l155).all (tb_okl tb_m155) = true := by decide +kernel
set_option maxRecDepth 100000 in
theorem tb_ok155 : tb_okm tb_m155 := ⟨Or.inr (by decide +kernel), tb_cut 24 tb_ok155_0 (tb_ok155_1), tb_ok155_l0, by decide +kernel⟩
/-! CountedActorsModel.step(I)I -/
set_option maxRecDepth 100000 in
theorem tb_ok156_0 : (tb_c156.take 24).all (tb_okc tb_m156) = true := by decide +kernel
set_option maxRecDepth 100000 in
theorem tb_ok156_1 : ((tb_c156.drop 24).take 24).all (tb_okc tb_m156) = true := by decide +kernel
set_option maxRecDepth 100000 in
theorem tb_ok156_2 : (((tb_c156.drop 24).drop 24).take 24).all (tb_okc tb_m156) = true := by decide +kernel
set_option maxRecDepth 100000 in
theorem tb_ok156_3 : ((((tb_c156.drop 24).drop 24).drop 24).take 24).all (tb_okc tb_m156) = true := by decide +kernel
set_option maxRecDepth 100000 in
theorem tb_ok156_4 : (((((tb_c156.drop 24).drop 24).drop 24).drop 24).take 24).all (tb_okc tb_m156) = true := by decide +kernel
set_option maxRecDepth 100000 in
theorem tb_ok156_5 : ((((((tb_c156.drop 24).drop 24).drop 24).drop 24).drop 24).take 24).all (tb_okc tb_m156) = true := by decide +kernel
set_option maxRecDepth 100000 in
theorem tb_ok156_6 : (((((((tb_c156.drop 24).drop 24).drop 24).drop 24).drop 24).drop 24)).all (tb_okc tb_m156) = true := by decide +kernel
set_option maxRecDepth 100000 in
theorem tb_ok156_l0 : (tb_l156.take 6).all (tb_okl tb_m156) = true := by decide +kernel
set_option maxRecDepth 100000 in
theorem tb_ok156_l1 : ((tb_l156.drop 6).take 6).all (tb_okl tb_m156) = true := by decide +kernel
set_option maxRecDepth 100000 in
theorem tb_ok156_l2 : (((tb_l156.drop 6).drop 6)).all (tb_okl tb_m156) = true := by decide +kernel
set_option maxRecDepth 100000 in
theorem tb_ok156 : tb_okm tb_m156 := ⟨Or.inr (by decide +kernel), tb_cut 24 tb_ok156_0 (tb_cut 24 tb_ok156_1 (tb_cut 24 tb_ok156_2 (tb_cut 24 tb_ok156_3 (tb_cut 24 tb_ok156_4 (tb_cut 24 tb_ok156_5 (tb_ok156_6)))))), tb_cut 6 tb_ok156_l0 (tb_cut 6 tb_ok156_l1 (tb_ok156_l2)), by decide +kernel⟩
/-! CountedActorsModel.forget(I)V -/
set_option maxRecDepth 100000 in
theorem tb_ok157_0 : (tb_c157.take 24).all (tb_okc tb_m157) = true := by decide +kernel
set_option maxRecDepth 100000 in
theorem tb_ok157_1 : ((tb_c157.drop 24).take 24).all (tb_okc tb_m157) = true := by decide +kernel
set_option maxRecDepth 100000 in
theorem tb_ok157_2 : (((tb_c157.drop 24).drop 24)).all (tb_okc tb_m157) = true := by decide +kernel
set_option maxRecDepth 100000 in
theorem tb_ok157_l0 : (tb_l157).all (tb_okl tb_m157) = true := by decide +kernel
set_option maxRecDepth 100000 in
theorem tb_ok157 : tb_okm tb_m157 := ⟨Or.inr (by decide +kernel), tb_cut 24 tb_ok157_0 (tb_cut 24 tb_ok157_1 (tb_ok157_2)), tb_ok157_l0, by decide +kernel⟩
/-! CountedActorsModel.clear()V -/
set_option maxRecDepth 100000 in
theorem tb_ok158_0 : (tb_c158).all (tb_okc tb_m158) = true := by decide +kernel
set_option maxRecDepth 100000 in
theorem tb_ok158_l0 : (tb_l158).all (tb_okl tb_m158) = true := by decide +kernel
set_option maxRecDepth 100000 in
theorem tb_ok158 : tb_okm tb_m158 := ⟨Or.inr (by decide +kernel), tb_ok158_0, tb_ok158_l0, by decide +kernel⟩
/-! CountedActorsModel.root(II)V -/
set_option maxRecDepth 100000 in
theorem tb_ok159_0 : (tb_c159.take 24).all (tb_okc tb_m159) = true := by decide +kernel
set_option maxRecDepth 100000 in
theorem tb_ok159_1 : ((tb_c159.drop 24)).all (tb_okc tb_m159) = true := by decide +kernel
set_option maxRecDepth 100000 in
theorem tb_ok159_l0 : (tb_l159).all (tb_okl tb_m159) = true := by decide +kernel
set_option maxRecDepth 100000 in
theorem tb_ok159 : tb_okm tb_m159 := ⟨Or.inr (by decide +kernel), tb_cut 24 tb_ok159_0 (tb_ok159_1), tb_ok159_l0, by decide +kernel⟩
/-! CountedActorsModel.spread()V -/
set_option maxRecDepth 100000 in
theorem tb_ok160_0 : (tb_c160.take 24).all (tb_okc tb_m160) = true := by decide +kernel
set_option maxRecDepth 100000 in
theorem tb_ok160_1 : ((tb_c160.drop 24)).all (tb_okc tb_m160) = true := by decide +kernel
set_option maxRecDepth 100000 in
theorem tb_ok160_l0 : (tb_l160).all (tb_okl tb_m160) = true := by decide +kernel
set_option maxRecDepth 100000 in
theorem tb_ok160 : tb_okm tb_m160 := ⟨Or.inr (by decide +kernel), tb_cut 24 tb_ok160_0 (tb_ok160_1), tb_ok160_l0, by decide +kernel⟩
/-! CountedActorsModel.act(II)V -/
set_option maxRecDepth 100000 in
theorem tb_ok161_0 : (tb_c161.take 24).all (tb_okc tb_m161) = true := by decide +kernel
set_option maxRecDepth 100000 in
theorem tb_ok161_1 : ((tb_c161.drop 24).take 24).all (tb_okc tb_m161) = true := by decide +kernel
set_option maxRecDepth 100000 in
theorem tb_ok161_2 : (((tb_c161.drop 24).drop 24).take 24).all (tb_okc tb_m161) = true := by decide +kernel
set_option maxRecDepth 100000 in
theorem tb_ok161_3 : ((((tb_c161.drop 24).drop 24).drop 24).take 24).all (tb_okc tb_m161) = true := by decide +kernel
set_option maxRecDepth 100000 in
theorem tb_ok161_4 : (((((tb_c161.drop 24).drop 24).drop 24).drop 24).take 24).all (tb_okc tb_m161) = true := by decide +kernel
set_option maxRecDepth 100000 in
theorem tb_ok161_5 : ((((((tb_c161.drop 24).drop 24).drop 24).drop 24).drop 24).take 24).all (tb_okc tb_m161) = true := by decide +kernel
set_option maxRecDepth 100000 in
theorem tb_ok161_6 : (((((((tb_c161.drop 24).drop 24).drop 24).drop 24).drop 24).drop 24).take 24).all (tb_okc tb_m161) = true := by decide +kernel
set_option maxRecDepth 100000 in
theorem tb_ok161_7 : ((((((((tb_c161.drop 24).drop 24).drop 24).drop 24).drop 24).drop 24).drop 24)).all (tb_okc tb_m161) = true := by decide +kernel
set_option maxRecDepth 100000 in
theorem tb_ok161_l0 : (tb_l161.take 6).all (tb_okl tb_m161) = true := by decide +kernel
set_option maxRecDepth 100000 in
theorem tb_ok161_l1 : ((tb_l161.drop 6)).all (tb_okl tb_m161) = true := by decide +kernel
set_option maxRecDepth 100000 in
theorem tb_ok161 : tb_okm tb_m161 := ⟨Or.inr (by decide +kernel), tb_cut 24 tb_ok161_0 (tb_cut 24 tb_ok161_1 (tb_cut 24 tb_ok161_2 (tb_cut 24 tb_ok161_3 (tb_cut 24 tb_ok161_4 (tb_cut 24 tb_ok161_5 (tb_cut 24 tb_ok161_6 (tb_ok161_7))))))), tb_cut 6 tb_ok161_l0 (tb_ok161_l1), by decide +kernel⟩
