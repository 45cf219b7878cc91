/-! CountedActors$Statement.looksIntoY()Z -/
set_option maxRecDepth 100000 in
theorem tb_ok33_0 : (tb_c33).all (tb_okc tb_m33) = true := by decide +kernel
set_option maxRecDepth 100000 in
theorem tb_ok33_l0 : (tb_l33).all (tb_okl tb_m33) = true := by decide +kernel
set_option maxRecDepth 100000 in
theorem tb_ok33 : tb_okm tb_m33 := ⟨Or.inr (by decide +kernel), tb_ok33_0, tb_ok33_l0, by decide +kernel⟩
/-! CountedActors$Statement.looksIntoZ()Z -/
set_option maxRecDepth 100000 in
theorem tb_ok34_0 : (tb_c34).all (tb_okc tb_m34) = true := by decide +kernel
set_option maxRecDepth 100000 in
theorem tb_ok34_l0 : (tb_l34).all (tb_okl tb_m34) = true := by decide +kernel
set_option maxRecDepth 100000 in
theorem tb_ok34 : tb_okm tb_m34 := ⟨Or.inr (by decide +kernel), tb_ok34_0, tb_ok34_l0, by decide +kernel⟩
/-! CountedActors$Draft.isEmpty(I)Z -/
set_option maxRecDepth 100000 in
theorem tb_ok35_0 : (tb_c35).all (tb_okc tb_m35) = true := by decide +kernel
set_option maxRecDepth 100000 in
theorem tb_ok35_l0 : (tb_l35).all (tb_okl tb_m35) = true := by decide +kernel
set_option maxRecDepth 100000 in
theorem tb_ok35 : tb_okm tb_m35 := ⟨Or.inr (by decide +kernel), tb_ok35_0, tb_ok35_l0, by decide +kernel⟩
/-! CountedActors$Capability.isReadable(I)Z -/
set_option maxRecDepth 100000 in
theorem tb_ok36_0 : (tb_c36).all (tb_okc tb_m36) = true := by decide +kernel
set_option maxRecDepth 100000 in
theorem tb_ok36_l0 : (tb_l36).all (tb_okl tb_m36) = true := by decide +kernel
set_option maxRecDepth 100000 in
theorem tb_ok36 : tb_okm tb_m36 := ⟨Or.inr (by decide +kernel), tb_ok36_0, tb_ok36_l0, by decide +kernel⟩
/-! CountedActors$Capability.isWritable(I)Z -/
set_option maxRecDepth 100000 in
theorem tb_ok37_0 : (tb_c37).all (tb_okc tb_m37) = true := by decide +kernel
set_option maxRecDepth 100000 in
theorem tb_ok37_l0 : (tb_l37).all (tb_okl tb_m37) = true := by decide +kernel
set_option maxRecDepth 100000 in
theorem tb_ok37 : tb_okm tb_m37 := ⟨Or.inr (by decide +kernel), tb_ok37_0, tb_ok37_l0, by decide +kernel⟩
/-! CountedActors$Capability.alias(I)I -/
set_option maxRecDepth 100000 in
theorem tb_ok38_0 : (tb_c38).all (tb_okc tb_m38) = true := by decide +kernel
set_option maxRecDepth 100000 in
theorem tb_ok38_l0 : (tb_l38).all (tb_okl tb_m38) = true := by decide +kernel
set_option maxRecDepth 100000 in
theorem tb_ok38 : tb_okm tb_m38 := ⟨Or.inr (by decide +kernel), tb_ok38_0, tb_ok38_l0, by decide +kernel⟩
/-! CountedActors$Draft.refusalOfStoring(LCountedActors$Statement;I)I -/
set_option maxRecDepth 100000 in
theorem tb_ok39_0 : (tb_c39.take 24).all (tb_okc tb_m39) = true := by decide +kernel
set_option maxRecDepth 100000 in
theorem tb_ok39_1 : ((tb_c39.drop 24)).all (tb_okc tb_m39) = true := by decide +kernel
set_option maxRecDepth 100000 in
theorem tb_ok39_l0 : (tb_l39).all (tb_okl tb_m39) = true := by decide +kernel
set_option maxRecDepth 100000 in
theorem tb_ok39 : tb_okm tb_m39 := ⟨Or.inr (by decide +kernel), tb_cut 24 tb_ok39_0 (tb_ok39_1), tb_ok39_l0, by decide +kernel⟩
/-! CountedActors$Capability.isSafe(II)Z -/
set_option maxRecDepth 100000 in
theorem tb_ok40_0 : (tb_c40).all (tb_okc tb_m40) = true := by decide +kernel
set_option maxRecDepth 100000 in
theorem tb_ok40_l0 : (tb_l40).all (tb_okl tb_m40) = true := by decide +kernel
set_option maxRecDepth 100000 in
theorem tb_ok40 : tb_okm tb_m40 := ⟨Or.inr (by decide +kernel), tb_ok40_0, tb_ok40_l0, by decide +kernel⟩
/-! CountedActors$Capability.fits(II)Z -/
set_option maxRecDepth 100000 in
theorem tb_ok41_0 : (tb_c41).all (tb_okc tb_m41) = true := by decide +kernel
set_option maxRecDepth 100000 in
theorem tb_ok41_l0 : (tb_l41).all (tb_okl tb_m41) = true := by decide +kernel
set_option maxRecDepth 100000 in
theorem tb_ok41 : tb_okm tb_m41 := ⟨Or.inr (by decide +kernel), tb_ok41_0, tb_ok41_l0, by decide +kernel⟩
/-! CountedActors$Draft.capabilityOf(I)I -/
set_option maxRecDepth 100000 in
theorem tb_ok42_0 : (tb_c42).all (tb_okc tb_m42) = true := by decide +kernel
set_option maxRecDepth 100000 in
theorem tb_ok42_l0 : (tb_l42).all (tb_okl tb_m42) = true := by decide +kernel
set_option maxRecDepth 100000 in
theorem tb_ok42 : tb_okm tb_m42 := ⟨Or.inr (by decide +kernel), tb_ok42_0, tb_ok42_l0, by decide +kernel⟩
/-! CountedActors$Program.parameterOf(I)I -/
set_option maxRecDepth 100000 in
theorem tb_ok43_0 : (tb_c43).all (tb_okc tb_m43) = true := by decide +kernel
set_option maxRecDepth 100000 in
theorem tb_ok43_l0 : (tb_l43).all (tb_okl tb_m43) = true := by decide +kernel
set_option maxRecDepth 100000 in
theorem tb_ok43 : tb_okm tb_m43 := ⟨Or.inr (by decide +kernel), tb_ok43_0, tb_ok43_l0, by decide +kernel⟩
/-! CountedActors$Behaviour.parameter()I -/
set_option maxRecDepth 100000 in
theorem tb_ok44_0 : (tb_c44).all (tb_okc tb_m44) = true := by decide +kernel
set_option maxRecDepth 100000 in
theorem tb_ok44_l0 : (tb_l44).all (tb_okl tb_m44) = true := by decide +kernel
set_option maxRecDepth 100000 in
theorem tb_ok44 : tb_okm tb_m44 := ⟨Or.inr (by decide +kernel), tb_ok44_0, tb_ok44_l0, by decide +kernel⟩
/-! CountedActors$Draft.follow(LCountedActors$Statement;)V -/
set_option maxRecDepth 100000 in
theorem tb_ok45_0 : (tb_c45.take 24).all (tb_okc tb_m45) = true := by decide +kernel
set_option maxRecDepth 100000 in
theorem tb_ok45_1 : ((tb_c45.drop 24).take 24).all (tb_okc tb_m45) = true := by decide +kernel
set_option maxRecDepth 100000 in
theorem tb_ok45_2 : (((tb_c45.drop 24).drop 24).take 24).all (tb_okc tb_m45) = true := by decide +kernel
set_option maxRecDepth 100000 in
theorem tb_ok45_3 : ((((tb_c45.drop 24).drop 24).drop 24)).all (tb_okc tb_m45) = true := by decide +kernel
set_option maxRecDepth 100000 in
theorem tb_ok45_l0 : (tb_l45.take 6).all (tb_okl tb_m45) = true := by decide +kernel
set_option maxRecDepth 100000 in
theorem tb_ok45_l1 : ((tb_l45.drop 6).take 6).all (tb_okl tb_m45) = true := by decide +kernel
set_option maxRecDepth 100000 in
theorem tb_ok45_l2 : (((tb_l45.drop 6).drop 6)).all (tb_okl tb_m45) = true := by decide +kernel
set_option maxRecDepth 100000 in
theorem tb_ok45 : tb_okm tb_m45 := ⟨Or.inr (by decide +kernel), tb_cut 24 tb_ok45_0 (tb_cut 24 tb_ok45_1 (tb_cut 24 tb_ok45_2 (tb_ok45_3))), tb_cut 6 tb_ok45_l0 (tb_cut 6 tb_ok45_l1 (tb_ok45_l2)), by decide +kernel⟩
/-! CountedActors$Draft.become(II)V -/
set_option maxRecDepth 100000 in
theorem tb_ok46_0 : (tb_c46).all (tb_okc tb_m46) = true := by decide +kernel
set_option maxRecDepth 100000 in
theorem tb_ok46_l0 : (tb_l46).all (tb_okl tb_m46) = true := by decide +kernel
set_option maxRecDepth 100000 in
theorem tb_ok46 : tb_okm tb_m46 := ⟨Or.inr (by decide +kernel), tb_ok46_0, tb_ok46_l0, by decide +kernel⟩
/-! CountedActors$Draft.emptied(I)I -/
set_option maxRecDepth 100000 in
theorem tb_ok47_0 : (tb_c47).all (tb_okc tb_m47) = true := by decide +kernel
set_option maxRecDepth 100000 in
theorem tb_ok47_l0 : (tb_l47).all (tb_okl tb_m47) = true := by decide +kernel
set_option maxRecDepth 100000 in
theorem tb_ok47 : tb_okm tb_m47 := ⟨Or.inr (by decide +kernel), tb_ok47_0, tb_ok47_l0, by decide +kernel⟩
/-! CountedActors$Capability.view(II)I -/
set_option maxRecDepth 100000 in
theorem tb_ok48_0 : (tb_c48).all (tb_okc tb_m48) = true := by decide +kernel
set_option maxRecDepth 100000 in
theorem tb_ok48_l0 : (tb_l48).all (tb_okl tb_m48) = true := by decide +kernel
set_option maxRecDepth 100000 in
theorem tb_ok48 : tb_okm tb_m48 := ⟨Or.inr (by decide +kernel), tb_ok48_0, tb_ok48_l0, by decide +kernel⟩
/-! CountedActors$Capability.drawn(II)I -/
set_option maxRecDepth 100000 in
theorem tb_ok49_0 : (tb_c49).all (tb_okc tb_m49) = true := by decide +kernel
set_option maxRecDepth 100000 in
theorem tb_ok49_l0 : (tb_l49).all (tb_okl tb_m49) = true := by decide +kernel
set_option maxRecDepth 100000 in
theorem tb_ok49 : tb_okm tb_m49 := ⟨Or.inr (by decide +kernel), tb_ok49_0, tb_ok49_l0, by decide +kernel⟩
/-! CountedActors$Draft.enterBlock()V -/
set_option maxRecDepth 100000 in
theorem tb_ok50_0 : (tb_c50.take 24).all (tb_okc tb_m50) = true := by decide +kernel
set_option maxRecDepth 100000 in
theorem tb_ok50_1 : ((tb_c50.drop 24)).all (tb_okc tb_m50) = true := by decide +kernel
set_option maxRecDepth 100000 in
theorem tb_ok50_l0 : (tb_l50).all (tb_okl tb_m50) = true := by decide +kernel
set_option maxRecDepth 100000 in
theorem tb_ok50 : tb_okm tb_m50 := ⟨Or.inr (by decide +kernel), tb_cut 24 tb_ok50_0 (tb_ok50_1), tb_ok50_l0, by decide +kernel⟩
/-! CountedActors$Draft.shut(II)V -/
set_option maxRecDepth 100000 in
theorem tb_ok51_0 : (tb_c51.take 24).all (tb_okc tb_m51) = true := by decide +kernel
set_option maxRecDepth 100000 in
theorem tb_ok51_1 : ((tb_c51.drop 24)).all (tb_okc tb_m51) = true := by decide +kernel
set_option maxRecDepth 100000 in
theorem tb_ok51_l0 : (tb_l51).all (tb_okl tb_m51) = true := by decide +kernel
set_option maxRecDepth 100000 in
theorem tb_ok51 : tb_okm tb_m51 := ⟨Or.inr (by decide +kernel), tb_cut 24 tb_ok51_0 (tb_ok51_1), tb_ok51_l0, by decide +kernel⟩
/-! CountedActors$Capability.outOfBlock(I)I -/
set_option maxRecDepth 100000 in
theorem tb_ok52_0 : (tb_c52).all (tb_okc tb_m52) = true := by decide +kernel
set_option maxRecDepth 100000 in
theorem tb_ok52_l0 : (tb_l52).all (tb_okl tb_m52) = true := by decide +kernel
set_option maxRecDepth 100000 in
theorem tb_ok52 : tb_okm tb_m52 := ⟨Or.inr (by decide +kernel), tb_ok52_0, tb_ok52_l0, by decide +kernel⟩
/-! CountedActors$Behaviour.keepNext()V -/
set_option maxRecDepth 100000 in
theorem tb_ok53_0 : (tb_c53).all (tb_okc tb_m53) = true := by decide +kernel
set_option maxRecDepth 100000 in
theorem tb_ok53_l0 : (tb_l53).all (tb_okl tb_m53) = true := by decide +kernel
set_option maxRecDepth 100000 in
theorem tb_ok53 : tb_okm tb_m53 := ⟨Or.inr (by decide +kernel), tb_ok53_0, tb_ok53_l0, by decide +kernel⟩
/-! CountedActors.end()Z -/
set_option maxRecDepth 100000 in
theorem tb_ok54_0 : (tb_c54).all (tb_okc tb_m54) = true := by decide +kernel
set_option maxRecDepth 100000 in
theorem tb_ok54_l0 : (tb_l54).all (tb_okl tb_m54) = true := by decide +kernel
set_option maxRecDepth 100000 in
theorem tb_ok54 : tb_okm tb_m54 := ⟨Or.inr (by decide +kernel), tb_ok54_0, tb_ok54_l0, by decide +kernel⟩
/-! CountedActors$Program.finish()Z -/
set_option maxRecDepth 100000 in
theorem tb_ok55_0 : (tb_c55).all (tb_okc tb_m55) = true := by decide +kernel
set_option maxRecDepth 100000 in
theorem tb_ok55_l0 : (tb_l55).all (tb_okl tb_m55) = true := by decide +kernel
set_option maxRecDepth 100000 in
theorem tb_ok55 : tb_okm tb_m55 := ⟨Or.inr (by decide +kernel), tb_ok55_0, tb_ok55_l0, by decide +kernel⟩
/-! CountedActors$Draft.isInBlock()Z -/
set_option maxRecDepth 100000 in
theorem tb_ok56_0 : (tb_c56).all (tb_okc tb_m56) = true := by decide +kernel
set_option maxRecDepth 100000 in
theorem tb_ok56_l0 : (tb_l56).all (tb_okl tb_m56) = true := by decide +kernel
set_option maxRecDepth 100000 in
theorem tb_ok56 : tb_okm tb_m56 := ⟨Or.inr (by decide +kernel), tb_ok56_0, tb_ok56_l0, by decide +kernel⟩
/-! CountedActors.drop()Z -/
set_option maxRecDepth 100000 in
theorem tb_ok57_0 : (tb_c57).all (tb_okc tb_m57) = true := by decide +kernel
set_option maxRecDepth 100000 in
theorem tb_ok57_l0 : (tb_l57).all (tb_okl tb_m57) = true := by decide +kernel
set_option maxRecDepth 100000 in
theorem tb_ok57 : tb_okm tb_m57 := ⟨Or.inr (by decide +kernel), tb_ok57_0, tb_ok57_l0, by decide +kernel⟩
/-! CountedActors$Program.giveUp()Z -/
set_option maxRecDepth 100000 in
theorem tb_ok58_0 : (tb_c58).all (tb_okc tb_m58) = true := by decide +kernel
set_option maxRecDepth 100000 in
theorem tb_ok58_l0 : (tb_l58).all (tb_okl tb_m58) = true := by decide +kernel
set_option maxRecDepth 100000 in
theorem tb_ok58 : tb_okm tb_m58 := ⟨Or.inr (by decide +kernel), tb_ok58_0, tb_ok58_l0, by decide +kernel⟩
/-! CountedActors.holds(I)I -/
set_option maxRecDepth 100000 in
theorem tb_ok59_0 : (tb_c59).all (tb_okc tb_m59) = true := by decide +kernel
set_option maxRecDepth 100000 in
theorem tb_ok59_l0 : (tb_l59).all (tb_okl tb_m59) = true := by decide +kernel
set_option maxRecDepth 100000 in
theorem tb_ok59 : tb_okm tb_m59 := ⟨Or.inr (by decide +kernel), tb_ok59_0, tb_ok59_l0, by decide +kernel⟩
/-! CountedActors$Program.capabilityShown(I)I -/
set_option maxRecDepth 100000 in
theorem tb_ok60_0 : (tb_c60).all (tb_okc tb_m60) = true := by decide +kernel
set_option maxRecDepth 100000 in
theorem tb_ok60_l0 : (tb_l60).all (tb_okl tb_m60) = true := by decide +kernel
set_option maxRecDepth 100000 in
theorem tb_ok60 : tb_okm tb_m60 := ⟨Or.inr (by decide +kernel), tb_ok60_0, tb_ok60_l0, by decide +kernel⟩
/-! CountedActors$Draft.isHidden(I)Z -/
set_option maxRecDepth 100000 in
theorem tb_ok61_0 : (tb_c61).all (tb_okc tb_m61) = true := by decide +kernel
set_option maxRecDepth 100000 in
theorem tb_ok61_l0 : (tb_l61).all (tb_okl tb_m61) = true := by decide +kernel
set_option maxRecDepth 100000 in
theorem tb_ok61 : tb_okm tb_m61 := ⟨Or.inr (by decide +kernel), tb_ok61_0, tb_ok61_l0, by decide +kernel⟩
/-! CountedActors.post(II)Z -/
set_option maxRecDepth 100000 in
theorem tb_ok62_0 : (tb_c62.take 24).all (tb_okc tb_m62) = true := by decide +kernel
set_option maxRecDepth 100000 in
theorem tb_ok62_1 : ((tb_c62.drop 24)).all (tb_okc tb_m62) = true := by decide +kernel
set_option maxRecDepth 100000 in
theorem tb_ok62_l0 : (tb_l62).all (tb_okl tb_m62) = true := by decide +kernel
set_option maxRecDepth 100000 in
theorem tb_ok62 : tb_okm tb_m62 := ⟨Or.inr (by decide +kernel), tb_cut 24 tb_ok62_0 (tb_ok62_1), tb_ok62_l0, by decide +kernel⟩
/-! CountedActors.isActor(I)Z -/
set_option maxRecDepth 100000 in
theorem tb_ok63_0 : (tb_c63).all (tb_okc tb_m63) = true := by decide +kernel
set_option maxRecDepth 100000 in
theorem tb_ok63_l0 : (tb_l63).all (tb_okl tb_m63) = true := by decide +kernel
set_option maxRecDepth 100000 in
theorem tb_ok63 : tb_okm tb_m63 := ⟨Or.inr (by decide +kernel), tb_ok63_0, tb_ok63_l0, by decide +kernel⟩
/-! CountedActors$Program.isFinished(I)Z -/
set_option maxRecDepth 100000 in
theorem tb_ok64_0 : (tb_c64).all (tb_okc tb_m64) = true := by decide +kernel
set_option maxRecDepth 100000 in
theorem tb_ok64_l0 : (tb_l64).all (tb_okl tb_m64) = true := by decide +kernel
set_option maxRecDepth 100000 in
theorem tb_ok64 : tb_okm tb_m64 := ⟨Or.inr (by decide +kernel), tb_ok64_0, tb_ok64_l0, by decide +kernel⟩
/-! CountedActors$Mail.room()I -/
set_option maxRecDepth 100000 in
theorem tb_ok65_0 : (tb_c65).all (tb_okc tb_m65) = true := by decide +kernel
set_option maxRecDepth 100000 in
theorem tb_ok65_l0 : (tb_l65).all (tb_okl tb_m65) = true := by decide +kernel
set_option maxRecDepth 100000 in
theorem tb_ok65 : tb_okm tb_m65 := ⟨Or.inr (by decide +kernel), tb_ok65_0, tb_ok65_l0, by decide +kernel⟩
/-! CountedActors$Mail.put(IIII)V -/
set_option maxRecDepth 100000 in
theorem tb_ok66_0 : (tb_c66.take 24).all (tb_okc tb_m66) = true := by decide +kernel
set_option maxRecDepth 100000 in
theorem tb_ok66_1 : ((tb_c66.drop 24)).all (tb_okc tb_m66) = true := by decide +kernel
set_option maxRecDepth 100000 in
theorem tb_ok66_l0 : (tb_l66).all (tb_okl tb_m66) = true := by decide +kernel
set_option maxRecDepth 100000 in
theorem tb_ok66 : tb_okm tb_m66 := ⟨Or.inr (by decide +kernel), tb_cut 24 tb_ok66_0 (tb_ok66_1), tb_ok66_l0, by decide +kernel⟩
/-! CountedActors.step(I)I -/
set_option maxRecDepth 100000 in
theorem tb_ok67_0 : (tb_c67).all (tb_okc tb_m67) = true := by decide +kernel
set_option maxRecDepth 100000 in
theorem tb_ok67_l0 : (tb_l67).all (tb_okl tb_m67) = true := by decide +kernel
set_option maxRecDepth 100000 in
theorem tb_ok67 : tb_okm tb_m67 := ⟨Or.inr (by decide +kernel), tb_ok67_0, tb_ok67_l0, by decide +kernel⟩
/-! CountedActors$Machine.takeMessage(I)I -/
set_option maxRecDepth 100000 in
theorem tb_ok68_0 : (tb_c68.take 24).all (tb_okc tb_m68) = true := by decide +kernel
set_option maxRecDepth 100000 in
theorem tb_ok68_1 : ((tb_c68.drop 24).take 24).all (tb_okc tb_m68) = true := by decide +kernel
set_option maxRecDepth 100000 in
theorem tb_ok68_2 : (((tb_c68.drop 24).drop 24)).all (tb_okc tb_m68) = true := by decide +kernel
set_option maxRecDepth 100000 in
theorem tb_ok68_l0 : (tb_l68.take 6).all (tb_okl tb_m68) = true := by decide +kernel
set_option maxRecDepth 100000 in
theorem tb_ok68_l1 : ((tb_l68.drop 6)).all (tb_okl tb_m68) = true := by decide +kernel
set_option maxRecDepth 100000 in
theorem tb_ok68 : tb_okm tb_m68 := ⟨Or.inr (by decide +kernel), tb_cut 24 tb_ok68_0 (tb_cut 24 tb_ok68_1 (tb_ok68_2)), tb_cut 6 tb_ok68_l0 (tb_ok68_l1), by decide +kernel⟩
/-! CountedActors$Mail.frontOf(I)I -/
set_option maxRecDepth 100000 in
theorem tb_ok69_0 : (tb_c69).all (tb_okc tb_m69) = true := by decide +kernel
set_option maxRecDepth 100000 in
theorem tb_ok69_l0 : (tb_l69).all (tb_okl tb_m69) = true := by decide +kernel
set_option maxRecDepth 100000 in
theorem tb_ok69 : tb_okm tb_m69 := ⟨Or.inr (by decide +kernel), tb_ok69_0, tb_ok69_l0, by decide +kernel⟩
/-! CountedActors$Mail.kindAt(I)I -/
set_option maxRecDepth 100000 in
theorem tb_ok70_0 : (tb_c70).all (tb_okc tb_m70) = true := by decide +kernel
set_option maxRecDepth 100000 in
theorem tb_ok70_l0 : (tb_l70).all (tb_okl tb_m70) = true := by decide +kernel
set_option maxRecDepth 100000 in
theorem tb_ok70 : tb_okm tb_m70 := ⟨Or.inr (by decide +kernel), tb_ok70_0, tb_ok70_l0, by decide +kernel⟩
/-! CountedActors$Mail.objectAt(I)I -/
set_option maxRecDepth 100000 in
theorem tb_ok71_0 : (tb_c71).all (tb_okc tb_m71) = true := by decide +kernel
set_option maxRecDepth 100000 in
theorem tb_ok71_l0 : (tb_l71).all (tb_okl tb_m71) = true := by decide +kernel
set_option maxRecDepth 100000 in
theorem tb_ok71 : tb_okm tb_m71 := ⟨Or.inr (by decide +kernel), tb_ok71_0, tb_ok71_l0, by decide +kernel⟩
/-! CountedActors$Mail.numberAt(I)I -/
set_option maxRecDepth 100000 in
theorem tb_ok72_0 : (tb_c72).all (tb_okc tb_m72) = true := by decide +kernel
set_option maxRecDepth 100000 in
theorem tb_ok72_l0 : (tb_l72).all (tb_okl tb_m72) = true := by decide +kernel
set_option maxRecDepth 100000 in
theorem tb_ok72 : tb_okm tb_m72 := ⟨Or.inr (by decide +kernel), tb_ok72_0, tb_ok72_l0, by decide +kernel⟩
/-! CountedActors$Mail.removeAt(I)V -/
set_option maxRecDepth 100000 in
theorem tb_ok73_0 : (tb_c73.take 24).all (tb_okc tb_m73) = true := by decide +kernel
set_option maxRecDepth 100000 in
theorem tb_ok73_1 : ((tb_c73.drop 24).take 24).all (tb_okc tb_m73) = true := by decide +kernel
set_option maxRecDepth 100000 in
theorem tb_ok73_2 : (((tb_c73.drop 24).drop 24)).all (tb_okc tb_m73) = true := by decide +kernel
set_option maxRecDepth 100000 in
theorem tb_ok73_l0 : (tb_l73).all (tb_okl tb_m73) = true := by decide +kernel
set_option maxRecDepth 100000 in
theorem tb_ok73 : tb_okm tb_m73 := ⟨Or.inr (by decide +kernel), tb_cut 24 tb_ok73_0 (tb_cut 24 tb_ok73_1 (tb_ok73_2)), tb_ok73_l0, by decide +kernel⟩
/-! CountedActors$Machine.countTaken(III)V -/
set_option maxRecDepth 100000 in
theorem tb_ok74_0 : (tb_c74.take 24).all (tb_okc tb_m74) = true := by decide +kernel
set_option maxRecDepth 100000 in
theorem tb_ok74_1 : ((tb_c74.drop 24)).all (tb_okc tb_m74) = true := by decide +kernel
set_option maxRecDepth 100000 in
theorem tb_ok74_l0 : (tb_l74.take 6).all (tb_okl tb_m74) = true := by decide +kernel
set_option maxRecDepth 100000 in
theorem tb_ok74_l1 : ((tb_l74.drop 6)).all (tb_okl tb_m74) = true := by decide +kernel
set_option maxRecDepth 100000 in
theorem tb_ok74 : tb_okm tb_m74 := ⟨Or.inr (by decide +kernel), tb_cut 24 tb_ok74_0 (tb_ok74_1), tb_cut 6 tb_ok74_l0 (tb_ok74_l1), by decide +kernel⟩
/-! CountedActors$Walk.startFrom(II)V -/
set_option maxRecDepth 100000 in
theorem tb_ok75_0 : (tb_c75).all (tb_okc tb_m75) = true := by decide +kernel
set_option maxRecDepth 100000 in
theorem tb_ok75_l0 : (tb_l75).all (tb_okl tb_m75) = true := by decide +kernel
set_option maxRecDepth 100000 in
theorem tb_ok75 : tb_okm tb_m75 := ⟨Or.inr (by decide +kernel), tb_ok75_0, tb_ok75_l0, by decide +kernel⟩
/-! CountedActors$Walk.start()V -/
set_option maxRecDepth 100000 in
theorem tb_ok76_0 : (tb_c76).all (tb_okc tb_m76) = true := by decide +kernel
set_option maxRecDepth 100000 in
theorem tb_ok76_l0 : (tb_l76).all (tb_okl tb_m76) = true := by decide +kernel
set_option maxRecDepth 100000 in
theorem tb_ok76 : tb_okm tb_m76 := ⟨Or.inr (by decide +kernel), tb_ok76_0, tb_ok76_l0, by decide +kernel⟩
/-! CountedActors$Walk.meet(II)V -/
set_option maxRecDepth 100000 in
theorem tb_ok77_0 : (tb_c77.take 24).all (tb_okc tb_m77) = true := by decide +kernel
set_option maxRecDepth 100000 in
theorem tb_ok77_1 : ((tb_c77.drop 24)).all (tb_okc tb_m77) = true := by decide +kernel
set_option maxRecDepth 100000 in
theorem tb_ok77_l0 : (tb_l77).all (tb_okl tb_m77) = true := by decide +kernel
set_option maxRecDepth 100000 in
theorem tb_ok77 : tb_okm tb_m77 := ⟨Or.inr (by decide +kernel), tb_cut 24 tb_ok77_0 (tb_ok77_1), tb_ok77_l0, by decide +kernel⟩
/-! CountedActors$Walk.followClosure()V -/
set_option maxRecDepth 100000 in
theorem tb_ok78_0 : (tb_c78.take 24).all (tb_okc tb_m78) = true := by decide +kernel
set_option maxRecDepth 100000 in
theorem tb_ok78_1 : ((tb_c78.drop 24)).all (tb_okc tb_m78) = true := by decide +kernel
set_option maxRecDepth 100000 in
theorem tb_ok78_l0 : (tb_l78).all (tb_okl tb_m78) = true := by decide +kernel
set_option maxRecDepth 100000 in
theorem tb_ok78 : tb_okm tb_m78 := ⟨Or.inr (by decide +kernel), tb_cut 24 tb_ok78_0 (tb_ok78_1), tb_ok78_l0, by decide +kernel⟩
/-! CountedActors$Heap.heldBy(II)I -/
set_option maxRecDepth 100000 in
theorem tb_ok79_0 : (tb_c79).all (tb_okc tb_m79) = true := by decide +kernel
set_option maxRecDepth 100000 in
theorem tb_ok79_l0 : (tb_l79).all (tb_okl tb_m79) = true := by decide +kernel
set_option maxRecDepth 100000 in
theorem tb_ok79 : tb_okm tb_m79 := ⟨Or.inr (by decide +kernel), tb_ok79_0, tb_ok79_l0, by decide +kernel⟩
/-! CountedActors$Walk.hasMet(I)Z -/
set_option maxRecDepth 100000 in
theorem tb_ok80_0 : (tb_c80).all (tb_okc tb_m80) = true := by decide +kernel
set_option maxRecDepth 100000 in
theorem tb_ok80_l0 : (tb_l80).all (tb_okl tb_m80) = true := by decide +kernel
set_option maxRecDepth 100000 in
theorem tb_ok80 : tb_okm tb_m80 := ⟨Or.inr (by decide +kernel), tb_ok80_0, tb_ok80_l0, by decide +kernel⟩
/-! CountedActors$Heap.ownerOf(I)I -/
set_option maxRecDepth 100000 in
theorem tb_ok81_0 : (tb_c81).all (tb_okc tb_m81) = true := by decide +kernel
set_option maxRecDepth 100000 in
theorem tb_ok81_l0 : (tb_l81).all (tb_okl tb_m81) = true := by decide +kernel
set_option maxRecDepth 100000 in
theorem tb_ok81 : tb_okm tb_m81 := ⟨Or.inr (by decide +kernel), tb_ok81_0, tb_ok81_l0, by decide +kernel⟩
/-! CountedActors$Heap.growCount(III)V -/
set_option maxRecDepth 100000 in
theorem tb_ok82_0 : (tb_c82).all (tb_okc tb_m82) = true := by decide +kernel
set_option maxRecDepth 100000 in
theorem tb_ok82_l0 : (tb_l82).all (tb_okl tb_m82) = true := by decide +kernel
set_option maxRecDepth 100000 in
theorem tb_ok82 : tb_okm tb_m82 := ⟨Or.inr (by decide +kernel), tb_ok82_0, tb_ok82_l0, by decide +kernel⟩
/-! CountedActors$Program.behaviour(I)LCountedActors$Behaviour; -/
set_option maxRecDepth 100000 in
theorem tb_ok83_0 : (tb_c83).all (tb_okc tb_m83) = true := by decide +kernel
set_option maxRecDepth 100000 in
theorem tb_ok83_l0 : (tb_l83).all (tb_okl tb_m83) = true := by decide +kernel
set_option maxRecDepth 100000 in
theorem tb_ok83 : tb_okm tb_m83 := ⟨Or.inr (by decide +kernel), tb_ok83_0, tb_ok83_l0, by decide +kernel⟩
/-! CountedActors$Machine.run(IILCountedActors$Behaviour;)V -/
set_option maxRecDepth 100000 in
theorem tb_ok84_0 : (tb_c84).all (tb_okc tb_m84) = true := by decide +kernel
set_option maxRecDepth 100000 in
theorem tb_ok84_l0 : (tb_l84).all (tb_okl tb_m84) = true := by decide +kernel
set_option maxRecDepth 100000 in
theorem tb_ok84 : tb_okm tb_m84 := ⟨Or.inr (by decide +kernel), tb_ok84_0, tb_ok84_l0, by decide +kernel⟩
/-! CountedActors$Machine.perform(ILCountedActors$Statement;)V -/
set_option maxRecDepth 100000 in
theorem tb_ok85_0 : (tb_c85.take 24).all (tb_okc tb_m85) = true := by decide +kernel
set_option maxRecDepth 100000 in
theorem tb_ok85_1 : ((tb_c85.drop 24).take 24).all (tb_okc tb_m85) = true := by decide +kernel
set_option maxRecDepth 100000 in
theorem tb_ok85_2 : (((tb_c85.drop 24).drop 24).take 24).all (tb_okc tb_m85) = true := by decide +kernel
set_option maxRecDepth 100000 in
theorem tb_ok85_3 : ((((tb_c85.drop 24).drop 24).drop 24).take 24).all (tb_okc tb_m85) = true := by decide +kernel
set_option maxRecDepth 100000 in
theorem tb_ok85_4 : (((((tb_c85.drop 24).drop 24).drop 24).drop 24)).all (tb_okc tb_m85) = true := by decide +kernel
set_option maxRecDepth 100000 in
theorem tb_ok85_l0 : (tb_l85.take 6).all (tb_okl tb_m85) = true := by decide +kernel
set_option maxRecDepth 100000 in
theorem tb_ok85_l1 : ((tb_l85.drop 6).take 6).all (tb_okl tb_m85) = true := by decide +kernel
set_option maxRecDepth 100000 in
theorem tb_ok85_l2 : (((tb_l85.drop 6).drop 6)).all (tb_okl tb_m85) = true := by decide +kernel
set_option maxRecDepth 100000 in
theorem tb_ok85 : tb_okm tb_m85 := ⟨Or.inr (by decide +kernel), tb_cut 24 tb_ok85_0 (tb_cut 24 tb_ok85_1 (tb_cut 24 tb_ok85_2 (tb_cut 24 tb_ok85_3 (tb_ok85_4)))), tb_cut 6 tb_ok85_l0 (tb_cut 6 tb_ok85_l1 (tb_ok85_l2)), by decide +kernel⟩
/-! CountedActors$Machine.makeObject(I)I -/
set_option maxRecDepth 100000 in
theorem tb_ok86_0 : (tb_c86).all (tb_okc tb_m86) = true := by decide +kernel
set_option maxRecDepth 100000 in
theorem tb_ok86_l0 : (tb_l86).all (tb_okl tb_m86) = true := by decide +kernel
set_option maxRecDepth 100000 in
theorem tb_ok86 : tb_okm tb_m86 := ⟨Or.inr (by decide +kernel), tb_ok86_0, tb_ok86_l0, by decide +kernel⟩
/-! CountedActors$Heap.make(I)I -/
set_option maxRecDepth 100000 in
theorem tb_ok87_0 : (tb_c87.take 24).all (tb_okc tb_m87) = true := by decide +kernel
set_option maxRecDepth 100000 in
theorem tb_ok87_1 : ((tb_c87.drop 24)).all (tb_okc tb_m87) = true := by decide +kernel
set_option maxRecDepth 100000 in
theorem tb_ok87_l0 : (tb_l87).all (tb_okl tb_m87) = true := by decide +kernel
set_option maxRecDepth 100000 in
theorem tb_ok87 : tb_okm tb_m87 := ⟨Or.inr (by decide +kernel), tb_cut 24 tb_ok87_0 (tb_ok87_1), tb_ok87_l0, by decide +kernel⟩
/-! CountedActors$Heap.clear(I)V -/
set_option maxRecDepth 100000 in
theorem tb_ok88_0 : (tb_c88.take 24).all (tb_okc tb_m88) = true := by decide +kernel
set_option maxRecDepth 100000 in
theorem tb_ok88_1 : ((tb_c88.drop 24)).all (tb_okc tb_m88) = true := by decide +kernel
set_option maxRecDepth 100000 in
theorem tb_ok88_l0 : (tb_l88).all (tb_okl tb_m88) = true := by decide +kernel
set_option maxRecDepth 100000 in
theorem tb_ok88 : tb_okm tb_m88 := ⟨Or.inr (by decide +kernel), tb_cut 24 tb_ok88_0 (tb_ok88_1), tb_ok88_l0, by decide +kernel⟩
/-! CountedActors$Heap.hold(III)V -/
set_option maxRecDepth 100000 in
theorem tb_ok89_0 : (tb_c89).all (tb_okc tb_m89) = true := by decide +kernel
set_option maxRecDepth 100000 in
theorem tb_ok89_l0 : (tb_l89).all (tb_okl tb_m89) = true := by decide +kernel
set_option maxRecDepth 100000 in
theorem tb_ok89 : tb_okm tb_m89 := ⟨Or.inr (by decide +kernel), tb_ok89_0, tb_ok89_l0, by decide +kernel⟩
/-! CountedActors$Machine.holderOf(II)I -/
set_option maxRecDepth 100000 in
theorem tb_ok90_0 : (tb_c90).all (tb_okc tb_m90) = true := by decide +kernel
set_option maxRecDepth 100000 in
theorem tb_ok90_l0 : (tb_l90).all (tb_okl tb_m90) = true := by decide +kernel
set_option maxRecDepth 100000 in
theorem tb_ok90 : tb_okm tb_m90 := ⟨Or.inr (by decide +kernel), tb_ok90_0, tb_ok90_l0, by decide +kernel⟩
/-! CountedActors$Heap.holderOfActor(I)I -/
set_option maxRecDepth 100000 in
theorem tb_ok91_0 : (tb_c91).all (tb_okc tb_m91) = true := by decide +kernel
set_option maxRecDepth 100000 in
theorem tb_ok91_l0 : (tb_l91).all (tb_okl tb_m91) = true := by decide +kernel
set_option maxRecDepth 100000 in
theorem tb_ok91 : tb_okm tb_m91 := ⟨Or.inr (by decide +kernel), tb_ok91_0, tb_ok91_l0, by decide +kernel⟩
/-! CountedActors$Machine.read(II)I -/
set_option maxRecDepth 100000 in
theorem tb_ok92_0 : (tb_c92).all (tb_okc tb_m92) = true := by decide +kernel
set_option maxRecDepth 100000 in
theorem tb_ok92_l0 : (tb_l92).all (tb_okl tb_m92) = true := by decide +kernel
set_option maxRecDepth 100000 in
theorem tb_ok92 : tb_okm tb_m92 := ⟨Or.inr (by decide +kernel), tb_ok92_0, tb_ok92_l0, by decide +kernel⟩
/-! CountedActors$Machine.replace(III)I -/
set_option maxRecDepth 100000 in
theorem tb_ok93_0 : (tb_c93).all (tb_okc tb_m93) = true := by decide +kernel
set_option maxRecDepth 100000 in
theorem tb_ok93_l0 : (tb_l93).all (tb_okl tb_m93) = true := by decide +kernel
set_option maxRecDepth 100000 in
theorem tb_ok93 : tb_okm tb_m93 := ⟨Or.inr (by decide +kernel), tb_ok93_0, tb_ok93_l0, by decide +kernel⟩
/-! CountedActors$Machine.growCell(II)V -/
set_option maxRecDepth 100000 in
theorem tb_ok94_0 : (tb_c94).all (tb_okc tb_m94) = true := by decide +kernel
set_option maxRecDepth 100000 in
theorem tb_ok94_l0 : (tb_l94).all (tb_okl tb_m94) = true := by decide +kernel
set_option maxRecDepth 100000 in
theorem tb_ok94 : tb_okm tb_m94 := ⟨Or.inr (by decide +kernel), tb_ok94_0, tb_ok94_l0, by decide +kernel⟩
/-! CountedActors$Heap.growCell(II)V -/
set_option maxRecDepth 100000 in
theorem tb_ok95_0 : (tb_c95).all (tb_okc tb_m95) = true := by decide +kernel
set_option maxRecDepth 100000 in
theorem tb_ok95_l0 : (tb_l95).all (tb_okl tb_m95) = true := by decide +kernel
set_option maxRecDepth 100000 in
theorem tb_ok95 : tb_okm tb_m95 := ⟨Or.inr (by decide +kernel), tb_ok95_0, tb_ok95_l0, by decide +kernel⟩
/-! CountedActors$Machine.showCell(I)V -/
set_option maxRecDepth 100000 in
theorem tb_ok96_0 : (tb_c96).all (tb_okc tb_m96) = true := by decide +kernel
set_option maxRecDepth 100000 in
theorem tb_ok96_l0 : (tb_l96).all (tb_okl tb_m96) = true := by decide +kernel
set_option maxRecDepth 100000 in
theorem tb_ok96 : tb_okm tb_m96 := ⟨Or.inr (by decide +kernel), tb_ok96_0, tb_ok96_l0, by decide +kernel⟩
/-! CountedActors$Heap.cellOf(I)I -/
set_option maxRecDepth 100000 in
theorem tb_ok97_0 : (tb_c97).all (tb_okc tb_m97) = true := by decide +kernel
set_option maxRecDepth 100000 in
theorem tb_ok97_l0 : (tb_l97).all (tb_okl tb_m97) = true := by decide +kernel
set_option maxRecDepth 100000 in
theorem tb_ok97 : tb_okm tb_m97 := ⟨Or.inr (by decide +kernel), tb_ok97_0, tb_ok97_l0, by decide +kernel⟩
/-! CountedActors$Display.put(I)V -/
set_option maxRecDepth 100000 in
theorem tb_ok98_0 : (tb_c98).all (tb_okc tb_m98) = true := by decide +kernel
set_option maxRecDepth 100000 in
theorem tb_ok98_l0 : (tb_l98).all (tb_okl tb_m98) = true := by decide +kernel
set_option maxRecDepth 100000 in
theorem tb_ok98 : tb_okm tb_m98 := ⟨Or.inr (by decide +kernel), tb_ok98_0, tb_ok98_l0, by decide +kernel⟩
