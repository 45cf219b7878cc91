/-! CountedActorsLaw.law([I)Z -/
set_option maxRecDepth 100000 in
theorem tb_ok0_0 : (tb_c0.take 24).all (tb_okc tb_m0) = true := by decide +kernel
set_option maxRecDepth 100000 in
theorem tb_ok0_1 : ((tb_c0.drop 24).take 24).all (tb_okc tb_m0) = true := by decide +kernel
set_option maxRecDepth 100000 in
theorem tb_ok0_2 : (((tb_c0.drop 24).drop 24).take 24).all (tb_okc tb_m0) = true := by decide +kernel
set_option maxRecDepth 100000 in
theorem tb_ok0_3 : ((((tb_c0.drop 24).drop 24).drop 24).take 24).all (tb_okc tb_m0) = true := by decide +kernel
set_option maxRecDepth 100000 in
theorem tb_ok0_4 : (((((tb_c0.drop 24).drop 24).drop 24).drop 24).take 24).all (tb_okc tb_m0) = true := by decide +kernel
set_option maxRecDepth 100000 in
theorem tb_ok0_5 : ((((((tb_c0.drop 24).drop 24).drop 24).drop 24).drop 24).take 24).all (tb_okc tb_m0) = true := by decide +kernel
set_option maxRecDepth 100000 in
theorem tb_ok0_6 : (((((((tb_c0.drop 24).drop 24).drop 24).drop 24).drop 24).drop 24).take 24).all (tb_okc tb_m0) = true := by decide +kernel
set_option maxRecDepth 100000 in
theorem tb_ok0_7 : ((((((((tb_c0.drop 24).drop 24).drop 24).drop 24).drop 24).drop 24).drop 24).take 24).all (tb_okc tb_m0) = true := by decide +kernel
set_option maxRecDepth 100000 in
theorem tb_ok0_8 : (((((((((tb_c0.drop 24).drop 24).drop 24).drop 24).drop 24).drop 24).drop 24).drop 24).take 24).all (tb_okc tb_m0) = true := by decide +kernel
set_option maxRecDepth 100000 in
theorem tb_ok0_9 : ((((((((((tb_c0.drop 24).drop 24).drop 24).drop 24).drop 24).drop 24).drop 24).drop 24).drop 24).take 24).all (tb_okc tb_m0) = true := by decide +kernel
set_option maxRecDepth 100000 in
theorem tb_ok0_10 : (((((((((((tb_c0.drop 24).drop 24).drop 24).drop 24).drop 24).drop 24).drop 24).drop 24).drop 24).drop 24).take 24).all (tb_okc tb_m0) = true := by decide +kernel
set_option maxRecDepth 100000 in
theorem tb_ok0_11 : ((((((((((((tb_c0.drop 24).drop 24).drop 24).drop 24).drop 24).drop 24).drop 24).drop 24).drop 24).drop 24).drop 24).take 24).all (tb_okc tb_m0) = true := by decide +kernel
set_option maxRecDepth 100000 in
theorem tb_ok0_12 : (((((((((((((tb_c0.drop 24).drop 24).drop 24).drop 24).drop 24).drop 24).drop 24).drop 24).drop 24).drop 24).drop 24).drop 24).take 24).all (tb_okc tb_m0) = true := by decide +kernel
set_option maxRecDepth 100000 in
theorem tb_ok0_13 : ((((((((((((((tb_c0.drop 24).drop 24).drop 24).drop 24).drop 24).drop 24).drop 24).drop 24).drop 24).drop 24).drop 24).drop 24).drop 24).take 24).all (tb_okc tb_m0) = true := by decide +kernel
set_option maxRecDepth 100000 in
theorem tb_ok0_14 : (((((((((((((((tb_c0.drop 24).drop 24).drop 24).drop 24).drop 24).drop 24).drop 24).drop 24).drop 24).drop 24).drop 24).drop 24).drop 24).drop 24).take 24).all (tb_okc tb_m0) = true := by decide +kernel
set_option maxRecDepth 100000 in
theorem tb_ok0_15 : ((((((((((((((((tb_c0.drop 24).drop 24).drop 24).drop 24).drop 24).drop 24).drop 24).drop 24).drop 24).drop 24).drop 24).drop 24).drop 24).drop 24).drop 24).take 24).all (tb_okc tb_m0) = true := by decide +kernel
set_option maxRecDepth 100000 in
theorem tb_ok0_16 : (((((((((((((((((tb_c0.drop 24).drop 24).drop 24).drop 24).drop 24).drop 24).drop 24).drop 24).drop 24).drop 24).drop 24).drop 24).drop 24).drop 24).drop 24).drop 24)).all (tb_okc tb_m0) = true := by decide +kernel
set_option maxRecDepth 100000 in
theorem tb_ok0_l0 : (tb_l0.take 6).all (tb_okl tb_m0) = true := by decide +kernel
set_option maxRecDepth 100000 in
theorem tb_ok0_l1 : ((tb_l0.drop 6).take 6).all (tb_okl tb_m0) = true := by decide +kernel
set_option maxRecDepth 100000 in
theorem tb_ok0_l2 : (((tb_l0.drop 6).drop 6).take 6).all (tb_okl tb_m0) = true := by decide +kernel
set_option maxRecDepth 100000 in
theorem tb_ok0_l3 : ((((tb_l0.drop 6).drop 6).drop 6).take 6).all (tb_okl tb_m0) = true := by decide +kernel
set_option maxRecDepth 100000 in
theorem tb_ok0_l4 : (((((tb_l0.drop 6).drop 6).drop 6).drop 6).take 6).all (tb_okl tb_m0) = true := by decide +kernel
set_option maxRecDepth 100000 in
theorem tb_ok0_l5 : ((((((tb_l0.drop 6).drop 6).drop 6).drop 6).drop 6).take 6).all (tb_okl tb_m0) = true := by decide +kernel
set_option maxRecDepth 100000 in
theorem tb_ok0_l6 : (((((((tb_l0.drop 6).drop 6).drop 6).drop 6).drop 6).drop 6)).all (tb_okl tb_m0) = true := by decide +kernel
set_option maxRecDepth 100000 in
theorem tb_ok0 : tb_okm tb_m0 := ⟨Or.inl rfl, tb_cut 24 tb_ok0_0 (tb_cut 24 tb_ok0_1 (tb_cut 24 tb_ok0_2 (tb_cut 24 tb_ok0_3 (tb_cut 24 tb_ok0_4 (tb_cut 24 tb_ok0_5 (tb_cut 24 tb_ok0_6 (tb_cut 24 tb_ok0_7 (tb_cut 24 tb_ok0_8 (tb_cut 24 tb_ok0_9 (tb_cut 24 tb_ok0_10 (tb_cut 24 tb_ok0_11 (tb_cut 24 tb_ok0_12 (tb_cut 24 tb_ok0_13 (tb_cut 24 tb_ok0_14 (tb_cut 24 tb_ok0_15 (tb_ok0_16)))))))))))))))), tb_cut 6 tb_ok0_l0 (tb_cut 6 tb_ok0_l1 (tb_cut 6 tb_ok0_l2 (tb_cut 6 tb_ok0_l3 (tb_cut 6 tb_ok0_l4 (tb_cut 6 tb_ok0_l5 (tb_ok0_l6)))))), by decide +kernel⟩
/-! CountedActors.<init>(I)V -/
set_option maxRecDepth 100000 in
theorem tb_ok1_0 : (tb_c1.take 24).all (tb_okc tb_m1) = true := by decide +kernel
set_option maxRecDepth 100000 in
theorem tb_ok1_1 : ((tb_c1.drop 24).take 24).all (tb_okc tb_m1) = true := by decide +kernel
set_option maxRecDepth 100000 in
theorem tb_ok1_2 : (((tb_c1.drop 24).drop 24)).all (tb_okc tb_m1) = true := by decide +kernel
set_option maxRecDepth 100000 in
theorem tb_ok1_l0 : (tb_l1.take 6).all (tb_okl tb_m1) = true := by decide +kernel
set_option maxRecDepth 100000 in
theorem tb_ok1_l1 : ((tb_l1.drop 6).take 6).all (tb_okl tb_m1) = true := by decide +kernel
set_option maxRecDepth 100000 in
theorem tb_ok1_l2 : (((tb_l1.drop 6).drop 6).take 6).all (tb_okl tb_m1) = true := by decide +kernel
set_option maxRecDepth 100000 in
theorem tb_ok1_l3 : ((((tb_l1.drop 6).drop 6).drop 6)).all (tb_okl tb_m1) = true := by decide +kernel
set_option maxRecDepth 100000 in
theorem tb_ok1 : tb_okm tb_m1 := ⟨Or.inr (by decide +kernel), tb_cut 24 tb_ok1_0 (tb_cut 24 tb_ok1_1 (tb_ok1_2)), tb_cut 6 tb_ok1_l0 (tb_cut 6 tb_ok1_l1 (tb_cut 6 tb_ok1_l2 (tb_ok1_l3))), by decide +kernel⟩
/-! CountedActors$Program.<init>()V -/
set_option maxRecDepth 100000 in
theorem tb_ok2_0 : (tb_c2.take 24).all (tb_okc tb_m2) = true := by decide +kernel
set_option maxRecDepth 100000 in
theorem tb_ok2_1 : ((tb_c2.drop 24)).all (tb_okc tb_m2) = true := by decide +kernel
set_option maxRecDepth 100000 in
theorem tb_ok2_l0 : (tb_l2.take 6).all (tb_okl tb_m2) = true := by decide +kernel
set_option maxRecDepth 100000 in
theorem tb_ok2_l1 : ((tb_l2.drop 6)).all (tb_okl tb_m2) = true := by decide +kernel
set_option maxRecDepth 100000 in
theorem tb_ok2 : tb_okm tb_m2 := ⟨Or.inr (by decide +kernel), tb_cut 24 tb_ok2_0 (tb_ok2_1), tb_cut 6 tb_ok2_l0 (tb_ok2_l1), by decide +kernel⟩
/-! CountedActors$Draft.<init>()V -/
set_option maxRecDepth 100000 in
theorem tb_ok3_0 : (tb_c3).all (tb_okc tb_m3) = true := by decide +kernel
set_option maxRecDepth 100000 in
theorem tb_ok3_l0 : (tb_l3).all (tb_okl tb_m3) = true := by decide +kernel
set_option maxRecDepth 100000 in
theorem tb_ok3 : tb_okm tb_m3 := ⟨Or.inr (by decide +kernel), tb_ok3_0, tb_ok3_l0, by decide +kernel⟩
/-! CountedActors$Behaviour.<init>()V -/
set_option maxRecDepth 100000 in
theorem tb_ok4_0 : (tb_c4).all (tb_okc tb_m4) = true := by decide +kernel
set_option maxRecDepth 100000 in
theorem tb_ok4_l0 : (tb_l4).all (tb_okl tb_m4) = true := by decide +kernel
set_option maxRecDepth 100000 in
theorem tb_ok4 : tb_okm tb_m4 := ⟨Or.inr (by decide +kernel), tb_ok4_0, tb_ok4_l0, by decide +kernel⟩
/-! CountedActors$Statement.<init>()V -/
set_option maxRecDepth 100000 in
theorem tb_ok5_0 : (tb_c5).all (tb_okc tb_m5) = true := by decide +kernel
set_option maxRecDepth 100000 in
theorem tb_ok5_l0 : (tb_l5).all (tb_okl tb_m5) = true := by decide +kernel
set_option maxRecDepth 100000 in
theorem tb_ok5 : tb_okm tb_m5 := ⟨Or.inr (by decide +kernel), tb_ok5_0, tb_ok5_l0, by decide +kernel⟩
/-! CountedActors$Heap.<init>()V -/
set_option maxRecDepth 100000 in
theorem tb_ok6_0 : (tb_c6.take 24).all (tb_okc tb_m6) = true := by decide +kernel
set_option maxRecDepth 100000 in
theorem tb_ok6_1 : ((tb_c6.drop 24)).all (tb_okc tb_m6) = true := by decide +kernel
set_option maxRecDepth 100000 in
theorem tb_ok6_l0 : (tb_l6).all (tb_okl tb_m6) = true := by decide +kernel
set_option maxRecDepth 100000 in
theorem tb_ok6 : tb_okm tb_m6 := ⟨Or.inr (by decide +kernel), tb_cut 24 tb_ok6_0 (tb_ok6_1), tb_ok6_l0, by decide +kernel⟩
/-! java/util/Arrays.fill([II)V -/
set_option maxRecDepth 100000 in
theorem tb_ok7_0 : (tb_c7).all (tb_okc tb_m7) = true := by decide +kernel
set_option maxRecDepth 100000 in
theorem tb_ok7_l0 : (tb_l7).all (tb_okl tb_m7) = true := by decide +kernel
set_option maxRecDepth 100000 in
theorem tb_ok7 : tb_okm tb_m7 := ⟨Or.inr (by decide +kernel), tb_ok7_0, tb_ok7_l0, by decide +kernel⟩
/-! CountedActors$Mail.<init>()V -/
set_option maxRecDepth 100000 in
theorem tb_ok8_0 : (tb_c8).all (tb_okc tb_m8) = true := by decide +kernel
set_option maxRecDepth 100000 in
theorem tb_ok8_l0 : (tb_l8).all (tb_okl tb_m8) = true := by decide +kernel
set_option maxRecDepth 100000 in
theorem tb_ok8 : tb_okm tb_m8 := ⟨Or.inr (by decide +kernel), tb_ok8_0, tb_ok8_l0, by decide +kernel⟩
/-! CountedActors$Walk.<init>(LCountedActors$Heap;)V -/
set_option maxRecDepth 100000 in
theorem tb_ok9_0 : (tb_c9).all (tb_okc tb_m9) = true := by decide +kernel
set_option maxRecDepth 100000 in
theorem tb_ok9_l0 : (tb_l9).all (tb_okl tb_m9) = true := by decide +kernel
set_option maxRecDepth 100000 in
theorem tb_ok9 : tb_okm tb_m9 := ⟨Or.inr (by decide +kernel), tb_ok9_0, tb_ok9_l0, by decide +kernel⟩
/-! CountedActors$Display.<init>()V -/
set_option maxRecDepth 100000 in
theorem tb_ok10_0 : (tb_c10).all (tb_okc tb_m10) = true := by decide +kernel
set_option maxRecDepth 100000 in
theorem tb_ok10_l0 : (tb_l10).all (tb_okl tb_m10) = true := by decide +kernel
set_option maxRecDepth 100000 in
theorem tb_ok10 : tb_okm tb_m10 := ⟨Or.inr (by decide +kernel), tb_ok10_0, tb_ok10_l0, by decide +kernel⟩
/-! CountedActors$Machine.<init>(ILCountedActors$Program;LCountedActors$Heap;LCountedActors$Mail;LCountedActors$Walk;LCountedActors$Display;)V -/
set_option maxRecDepth 100000 in
theorem tb_ok11_0 : (tb_c11.take 24).all (tb_okc tb_m11) = true := by decide +kernel
set_option maxRecDepth 100000 in
theorem tb_ok11_1 : ((tb_c11.drop 24)).all (tb_okc tb_m11) = true := by decide +kernel
set_option maxRecDepth 100000 in
theorem tb_ok11_l0 : (tb_l11.take 6).all (tb_okl tb_m11) = true := by decide +kernel
set_option maxRecDepth 100000 in
theorem tb_ok11_l1 : ((tb_l11.drop 6)).all (tb_okl tb_m11) = true := by decide +kernel
set_option maxRecDepth 100000 in
theorem tb_ok11 : tb_okm tb_m11 := ⟨Or.inr (by decide +kernel), tb_cut 24 tb_ok11_0 (tb_ok11_1), tb_cut 6 tb_ok11_l0 (tb_ok11_l1), by decide +kernel⟩
/-! CountedActors.begin(I)I -/
set_option maxRecDepth 100000 in
theorem tb_ok12_0 : (tb_c12).all (tb_okc tb_m12) = true := by decide +kernel
set_option maxRecDepth 100000 in
theorem tb_ok12_l0 : (tb_l12).all (tb_okl tb_m12) = true := by decide +kernel
set_option maxRecDepth 100000 in
theorem tb_ok12 : tb_okm tb_m12 := ⟨Or.inr (by decide +kernel), tb_ok12_0, tb_ok12_l0, by decide +kernel⟩
/-! CountedActors$Program.open(I)I -/
set_option maxRecDepth 100000 in
theorem tb_ok13_0 : (tb_c13.take 24).all (tb_okc tb_m13) = true := by decide +kernel
set_option maxRecDepth 100000 in
theorem tb_ok13_1 : ((tb_c13.drop 24)).all (tb_okc tb_m13) = true := by decide +kernel
set_option maxRecDepth 100000 in
theorem tb_ok13_l0 : (tb_l13.take 6).all (tb_okl tb_m13) = true := by decide +kernel
set_option maxRecDepth 100000 in
theorem tb_ok13_l1 : ((tb_l13.drop 6)).all (tb_okl tb_m13) = true := by decide +kernel
set_option maxRecDepth 100000 in
theorem tb_ok13 : tb_okm tb_m13 := ⟨Or.inr (by decide +kernel), tb_cut 24 tb_ok13_0 (tb_ok13_1), tb_cut 6 tb_ok13_l0 (tb_ok13_l1), by decide +kernel⟩
/-! CountedActors$Program.isParameter(I)Z -/
set_option maxRecDepth 100000 in
theorem tb_ok14_0 : (tb_c14).all (tb_okc tb_m14) = true := by decide +kernel
set_option maxRecDepth 100000 in
theorem tb_ok14_l0 : (tb_l14).all (tb_okl tb_m14) = true := by decide +kernel
set_option maxRecDepth 100000 in
theorem tb_ok14 : tb_okm tb_m14 := ⟨Or.inr (by decide +kernel), tb_ok14_0, tb_ok14_l0, by decide +kernel⟩
/-! CountedActors$Capability.isOne(I)Z -/
set_option maxRecDepth 100000 in
theorem tb_ok15_0 : (tb_c15).all (tb_okc tb_m15) = true := by decide +kernel
set_option maxRecDepth 100000 in
theorem tb_ok15_l0 : (tb_l15).all (tb_okl tb_m15) = true := by decide +kernel
set_option maxRecDepth 100000 in
theorem tb_ok15 : tb_okm tb_m15 := ⟨Or.inr (by decide +kernel), tb_ok15_0, tb_ok15_l0, by decide +kernel⟩
/-! CountedActors$Capability.isSendable(I)Z -/
set_option maxRecDepth 100000 in
theorem tb_ok16_0 : (tb_c16).all (tb_okc tb_m16) = true := by decide +kernel
set_option maxRecDepth 100000 in
theorem tb_ok16_l0 : (tb_l16).all (tb_okl tb_m16) = true := by decide +kernel
set_option maxRecDepth 100000 in
theorem tb_ok16 : tb_okm tb_m16 := ⟨Or.inr (by decide +kernel), tb_ok16_0, tb_ok16_l0, by decide +kernel⟩
/-! CountedActors$Capability.isIn(II)Z -/
set_option maxRecDepth 100000 in
theorem tb_ok17_0 : (tb_c17).all (tb_okc tb_m17) = true := by decide +kernel
set_option maxRecDepth 100000 in
theorem tb_ok17_l0 : (tb_l17).all (tb_okl tb_m17) = true := by decide +kernel
set_option maxRecDepth 100000 in
theorem tb_ok17 : tb_okm tb_m17 := ⟨Or.inr (by decide +kernel), tb_ok17_0, tb_ok17_l0, by decide +kernel⟩
/-! CountedActors$Behaviour.restart(I)V -/
set_option maxRecDepth 100000 in
theorem tb_ok18_0 : (tb_c18).all (tb_okc tb_m18) = true := by decide +kernel
set_option maxRecDepth 100000 in
theorem tb_ok18_l0 : (tb_l18).all (tb_okl tb_m18) = true := by decide +kernel
set_option maxRecDepth 100000 in
theorem tb_ok18 : tb_okm tb_m18 := ⟨Or.inr (by decide +kernel), tb_ok18_0, tb_ok18_l0, by decide +kernel⟩
/-! CountedActors$Draft.restart(I)V -/
set_option maxRecDepth 100000 in
theorem tb_ok19_0 : (tb_c19.take 24).all (tb_okc tb_m19) = true := by decide +kernel
set_option maxRecDepth 100000 in
theorem tb_ok19_1 : ((tb_c19.drop 24)).all (tb_okc tb_m19) = true := by decide +kernel
set_option maxRecDepth 100000 in
theorem tb_ok19_l0 : (tb_l19).all (tb_okl tb_m19) = true := by decide +kernel
set_option maxRecDepth 100000 in
theorem tb_ok19 : tb_okm tb_m19 := ⟨Or.inr (by decide +kernel), tb_cut 24 tb_ok19_0 (tb_ok19_1), tb_ok19_l0, by decide +kernel⟩
/-! CountedActors$Draft.leaveBlock()V -/
set_option maxRecDepth 100000 in
theorem tb_ok20_0 : (tb_c20.take 24).all (tb_okc tb_m20) = true := by decide +kernel
set_option maxRecDepth 100000 in
theorem tb_ok20_1 : ((tb_c20.drop 24)).all (tb_okc tb_m20) = true := by decide +kernel
set_option maxRecDepth 100000 in
theorem tb_ok20_l0 : (tb_l20).all (tb_okl tb_m20) = true := by decide +kernel
set_option maxRecDepth 100000 in
theorem tb_ok20 : tb_okm tb_m20 := ⟨Or.inr (by decide +kernel), tb_cut 24 tb_ok20_0 (tb_ok20_1), tb_ok20_l0, by decide +kernel⟩
/-! CountedActors.add(IIIII)I -/
set_option maxRecDepth 100000 in
theorem tb_ok21_0 : (tb_c21).all (tb_okc tb_m21) = true := by decide +kernel
set_option maxRecDepth 100000 in
theorem tb_ok21_l0 : (tb_l21).all (tb_okl tb_m21) = true := by decide +kernel
set_option maxRecDepth 100000 in
theorem tb_ok21 : tb_okm tb_m21 := ⟨Or.inr (by decide +kernel), tb_ok21_0, tb_ok21_l0, by decide +kernel⟩
/-! CountedActors$Program.write(IIIII)I -/
set_option maxRecDepth 100000 in
theorem tb_ok22_0 : (tb_c22.take 24).all (tb_okc tb_m22) = true := by decide +kernel
set_option maxRecDepth 100000 in
theorem tb_ok22_1 : ((tb_c22.drop 24)).all (tb_okc tb_m22) = true := by decide +kernel
set_option maxRecDepth 100000 in
theorem tb_ok22_l0 : (tb_l22.take 6).all (tb_okl tb_m22) = true := by decide +kernel
set_option maxRecDepth 100000 in
theorem tb_ok22_l1 : ((tb_l22.drop 6)).all (tb_okl tb_m22) = true := by decide +kernel
set_option maxRecDepth 100000 in
theorem tb_ok22 : tb_okm tb_m22 := ⟨Or.inr (by decide +kernel), tb_cut 24 tb_ok22_0 (tb_ok22_1), tb_cut 6 tb_ok22_l0 (tb_ok22_l1), by decide +kernel⟩
/-! CountedActors$Behaviour.isFull()Z -/
set_option maxRecDepth 100000 in
theorem tb_ok23_0 : (tb_c23).all (tb_okc tb_m23) = true := by decide +kernel
set_option maxRecDepth 100000 in
theorem tb_ok23_l0 : (tb_l23).all (tb_okl tb_m23) = true := by decide +kernel
set_option maxRecDepth 100000 in
theorem tb_ok23 : tb_okm tb_m23 := ⟨Or.inr (by decide +kernel), tb_ok23_0, tb_ok23_l0, by decide +kernel⟩
/-! CountedActors$Behaviour.size()I -/
set_option maxRecDepth 100000 in
theorem tb_ok24_0 : (tb_c24).all (tb_okc tb_m24) = true := by decide +kernel
set_option maxRecDepth 100000 in
theorem tb_ok24_l0 : (tb_l24).all (tb_okl tb_m24) = true := by decide +kernel
set_option maxRecDepth 100000 in
theorem tb_ok24 : tb_okm tb_m24 := ⟨Or.inr (by decide +kernel), tb_ok24_0, tb_ok24_l0, by decide +kernel⟩
/-! CountedActors$Behaviour.at(I)LCountedActors$Statement; -/
set_option maxRecDepth 100000 in
theorem tb_ok25_0 : (tb_c25).all (tb_okc tb_m25) = true := by decide +kernel
set_option maxRecDepth 100000 in
theorem tb_ok25_l0 : (tb_l25).all (tb_okl tb_m25) = true := by decide +kernel
set_option maxRecDepth 100000 in
theorem tb_ok25 : tb_okm tb_m25 := ⟨Or.inr (by decide +kernel), tb_ok25_0, tb_ok25_l0, by decide +kernel⟩
/-! CountedActors$Statement.set(IIIII)V -/
set_option maxRecDepth 100000 in
theorem tb_ok26_0 : (tb_c26).all (tb_okc tb_m26) = true := by decide +kernel
set_option maxRecDepth 100000 in
theorem tb_ok26_l0 : (tb_l26).all (tb_okl tb_m26) = true := by decide +kernel
set_option maxRecDepth 100000 in
theorem tb_ok26 : tb_okm tb_m26 := ⟨Or.inr (by decide +kernel), tb_ok26_0, tb_ok26_l0, by decide +kernel⟩
/-! CountedActors$Program.refusal(LCountedActors$Statement;)I -/
set_option maxRecDepth 100000 in
theorem tb_ok27_0 : (tb_c27.take 24).all (tb_okc tb_m27) = true := by decide +kernel
set_option maxRecDepth 100000 in
theorem tb_ok27_1 : ((tb_c27.drop 24)).all (tb_okc tb_m27) = true := by decide +kernel
set_option maxRecDepth 100000 in
theorem tb_ok27_l0 : (tb_l27.take 6).all (tb_okl tb_m27) = true := by decide +kernel
set_option maxRecDepth 100000 in
theorem tb_ok27_l1 : ((tb_l27.drop 6)).all (tb_okl tb_m27) = true := by decide +kernel
set_option maxRecDepth 100000 in
theorem tb_ok27 : tb_okm tb_m27 := ⟨Or.inr (by decide +kernel), tb_cut 24 tb_ok27_0 (tb_ok27_1), tb_cut 6 tb_ok27_l0 (tb_ok27_l1), by decide +kernel⟩
/-! CountedActors$Statement.namesOnlyWhatIs(I)Z -/
set_option maxRecDepth 100000 in
theorem tb_ok28_0 : (tb_c28.take 24).all (tb_okc tb_m28) = true := by decide +kernel
set_option maxRecDepth 100000 in
theorem tb_ok28_1 : ((tb_c28.drop 24).take 24).all (tb_okc tb_m28) = true := by decide +kernel
set_option maxRecDepth 100000 in
theorem tb_ok28_2 : (((tb_c28.drop 24).drop 24).take 24).all (tb_okc tb_m28) = true := by decide +kernel
set_option maxRecDepth 100000 in
theorem tb_ok28_3 : ((((tb_c28.drop 24).drop 24).drop 24).take 24).all (tb_okc tb_m28) = true := by decide +kernel
set_option maxRecDepth 100000 in
theorem tb_ok28_4 : (((((tb_c28.drop 24).drop 24).drop 24).drop 24)).all (tb_okc tb_m28) = true := by decide +kernel
set_option maxRecDepth 100000 in
theorem tb_ok28_l0 : (tb_l28.take 6).all (tb_okl tb_m28) = true := by decide +kernel
set_option maxRecDepth 100000 in
theorem tb_ok28_l1 : ((tb_l28.drop 6)).all (tb_okl tb_m28) = true := by decide +kernel
set_option maxRecDepth 100000 in
theorem tb_ok28 : tb_okm tb_m28 := ⟨Or.inr (by decide +kernel), tb_cut 24 tb_ok28_0 (tb_cut 24 tb_ok28_1 (tb_cut 24 tb_ok28_2 (tb_cut 24 tb_ok28_3 (tb_ok28_4)))), tb_cut 6 tb_ok28_l0 (tb_ok28_l1), by decide +kernel⟩
/-! CountedActors$Statement.isLocal(I)Z -/
set_option maxRecDepth 100000 in
theorem tb_ok29_0 : (tb_c29).all (tb_okc tb_m29) = true := by decide +kernel
set_option maxRecDepth 100000 in
theorem tb_ok29_l0 : (tb_l29).all (tb_okl tb_m29) = true := by decide +kernel
set_option maxRecDepth 100000 in
theorem tb_ok29 : tb_okm tb_m29 := ⟨Or.inr (by decide +kernel), tb_ok29_0, tb_ok29_l0, by decide +kernel⟩
/-! CountedActors$Statement.isLocalOrThis(I)Z -/
set_option maxRecDepth 100000 in
theorem tb_ok30_0 : (tb_c30).all (tb_okc tb_m30) = true := by decide +kernel
set_option maxRecDepth 100000 in
theorem tb_ok30_l0 : (tb_l30).all (tb_okl tb_m30) = true := by decide +kernel
set_option maxRecDepth 100000 in
theorem tb_ok30 : tb_okm tb_m30 := ⟨Or.inr (by decide +kernel), tb_ok30_0, tb_ok30_l0, by decide +kernel⟩
/-! CountedActors.isField(I)Z -/
set_option maxRecDepth 100000 in
theorem tb_ok31_0 : (tb_c31).all (tb_okc tb_m31) = true := by decide +kernel
set_option maxRecDepth 100000 in
theorem tb_ok31_l0 : (tb_l31).all (tb_okl tb_m31) = true := by decide +kernel
set_option maxRecDepth 100000 in
theorem tb_ok31 : tb_okm tb_m31 := ⟨Or.inr (by decide +kernel), tb_ok31_0, tb_ok31_l0, by decide +kernel⟩
/-! CountedActors$Draft.refusal(LCountedActors$Statement;)I -/
set_option maxRecDepth 100000 in
theorem tb_ok32_0 : (tb_c32.take 24).all (tb_okc tb_m32) = true := by decide +kernel
set_option maxRecDepth 100000 in
theorem tb_ok32_1 : ((tb_c32.drop 24).take 24).all (tb_okc tb_m32) = true := by decide +kernel
set_option maxRecDepth 100000 in
theorem tb_ok32_2 : (((tb_c32.drop 24).drop 24).take 24).all (tb_okc tb_m32) = true := by decide +kernel
set_option maxRecDepth 100000 in
theorem tb_ok32_3 : ((((tb_c32.drop 24).drop 24).drop 24).take 24).all (tb_okc tb_m32) = true := by decide +kernel
set_option maxRecDepth 100000 in
theorem tb_ok32_4 : (((((tb_c32.drop 24).drop 24).drop 24).drop 24)).all (tb_okc tb_m32) = true := by decide +kernel
set_option maxRecDepth 100000 in
theorem tb_ok32_l0 : (tb_l32.take 6).all (tb_okl tb_m32) = true := by decide +kernel
set_option maxRecDepth 100000 in
theorem tb_ok32_l1 : ((tb_l32.drop 6).take 6).all (tb_okl tb_m32) = true := by decide +kernel
set_option maxRecDepth 100000 in
theorem tb_ok32_l2 : (((tb_l32.drop 6).drop 6)).all (tb_okl tb_m32) = true := by decide +kernel
set_option maxRecDepth 100000 in
theorem tb_ok32 : tb_okm tb_m32 := ⟨Or.inr (by decide +kernel), tb_cut 24 tb_ok32_0 (tb_cut 24 tb_ok32_1 (tb_cut 24 tb_ok32_2 (tb_cut 24 tb_ok32_3 (tb_ok32_4)))), tb_cut 6 tb_ok32_l0 (tb_cut 6 tb_ok32_l1 (tb_ok32_l2)), by decide +kernel⟩
