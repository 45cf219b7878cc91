section
-- ===== PART A: goes FIRST, ahead of the names: the tables' words, and 'selects' of the private methods out of them =====
/-- a private method of a class that the tables say can be made, by its rows of tables_1 -/
def lw_okq (q : MethodName × Nat) : Prop := (q.1.cls ≠ "java/lang/invoke/MethodHandle" ∧ q.1.cls ≠ "java/lang/invoke/VarHandle") ∧ Cond.instantiable q.1.cls q.2 ∈ tables_1 ∧ Cond.privateMethod q.1 ∈ tables_1 ∧ Cond.instanceMethod q.1 ∈ tables_1
theorem lw_p0 : lw_okq (⟨"CountedActors$Draft", "leaveBlock", "()V"⟩, 4) := ⟨⟨by decide +kernel, by decide +kernel⟩, List.mem_of_getElem? (i := 39) (by decide +kernel), List.mem_of_getElem? (i := 281) (by decide +kernel), List.mem_of_getElem? (i := 282) (by decide +kernel)⟩
theorem lw_p1 : lw_okq (⟨"CountedActors$Program", "refusal", "(LCountedActors$Statement;)I"⟩, 4) := ⟨⟨by decide +kernel, by decide +kernel⟩, List.mem_of_getElem? (i := 31) (by decide +kernel), List.mem_of_getElem? (i := 309) (by decide +kernel), List.mem_of_getElem? (i := 310) (by decide +kernel)⟩
theorem lw_p2 : lw_okq (⟨"CountedActors$Draft", "isEmpty", "(I)Z"⟩, 4) := ⟨⟨by decide +kernel, by decide +kernel⟩, List.mem_of_getElem? (i := 39) (by decide +kernel), List.mem_of_getElem? (i := 339) (by decide +kernel), List.mem_of_getElem? (i := 340) (by decide +kernel)⟩
theorem lw_p3 : lw_okq (⟨"CountedActors$Draft", "refusalOfStoring", "(LCountedActors$Statement;I)I"⟩, 4) := ⟨⟨by decide +kernel, by decide +kernel⟩, List.mem_of_getElem? (i := 39) (by decide +kernel), List.mem_of_getElem? (i := 354) (by decide +kernel), List.mem_of_getElem? (i := 355) (by decide +kernel)⟩
theorem lw_p4 : lw_okq (⟨"CountedActors$Draft", "become", "(II)V"⟩, 4) := ⟨⟨by decide +kernel, by decide +kernel⟩, List.mem_of_getElem? (i := 39) (by decide +kernel), List.mem_of_getElem? (i := 385) (by decide +kernel), List.mem_of_getElem? (i := 386) (by decide +kernel)⟩
theorem lw_p5 : lw_okq (⟨"CountedActors$Draft", "emptied", "(I)I"⟩, 4) := ⟨⟨by decide +kernel, by decide +kernel⟩, List.mem_of_getElem? (i := 39) (by decide +kernel), List.mem_of_getElem? (i := 389) (by decide +kernel), List.mem_of_getElem? (i := 390) (by decide +kernel)⟩
theorem lw_p6 : lw_okq (⟨"CountedActors$Draft", "enterBlock", "()V"⟩, 4) := ⟨⟨by decide +kernel, by decide +kernel⟩, List.mem_of_getElem? (i := 39) (by decide +kernel), List.mem_of_getElem? (i := 403) (by decide +kernel), List.mem_of_getElem? (i := 404) (by decide +kernel)⟩
theorem lw_p7 : lw_okq (⟨"CountedActors$Draft", "shut", "(II)V"⟩, 4) := ⟨⟨by decide +kernel, by decide +kernel⟩, List.mem_of_getElem? (i := 39) (by decide +kernel), List.mem_of_getElem? (i := 408) (by decide +kernel), List.mem_of_getElem? (i := 409) (by decide +kernel)⟩
theorem lw_p8 : lw_okq (⟨"CountedActors", "isActor", "(I)Z"⟩, 7) := ⟨⟨by decide +kernel, by decide +kernel⟩, List.mem_of_getElem? (i := 17) (by decide +kernel), List.mem_of_getElem? (i := 458) (by decide +kernel), List.mem_of_getElem? (i := 459) (by decide +kernel)⟩
theorem lw_p9 : lw_okq (⟨"CountedActors$Machine", "countTaken", "(III)V"⟩, 8) := ⟨⟨by decide +kernel, by decide +kernel⟩, List.mem_of_getElem? (i := 200) (by decide +kernel), List.mem_of_getElem? (i := 505) (by decide +kernel), List.mem_of_getElem? (i := 506) (by decide +kernel)⟩
theorem lw_p10 : lw_okq (⟨"CountedActors$Machine", "run", "(IILCountedActors$Behaviour;)V"⟩, 8) := ⟨⟨by decide +kernel, by decide +kernel⟩, List.mem_of_getElem? (i := 200) (by decide +kernel), List.mem_of_getElem? (i := 547) (by decide +kernel), List.mem_of_getElem? (i := 548) (by decide +kernel)⟩
theorem lw_p11 : lw_okq (⟨"CountedActors$Machine", "perform", "(ILCountedActors$Statement;)V"⟩, 8) := ⟨⟨by decide +kernel, by decide +kernel⟩, List.mem_of_getElem? (i := 200) (by decide +kernel), List.mem_of_getElem? (i := 554) (by decide +kernel), List.mem_of_getElem? (i := 555) (by decide +kernel)⟩
theorem lw_p12 : lw_okq (⟨"CountedActors$Machine", "makeObject", "(I)I"⟩, 8) := ⟨⟨by decide +kernel, by decide +kernel⟩, List.mem_of_getElem? (i := 200) (by decide +kernel), List.mem_of_getElem? (i := 558) (by decide +kernel), List.mem_of_getElem? (i := 559) (by decide +kernel)⟩
theorem lw_p13 : lw_okq (⟨"CountedActors$Heap", "clear", "(I)V"⟩, 4) := ⟨⟨by decide +kernel, by decide +kernel⟩, List.mem_of_getElem? (i := 124) (by decide +kernel), List.mem_of_getElem? (i := 566) (by decide +kernel), List.mem_of_getElem? (i := 567) (by decide +kernel)⟩
theorem lw_p14 : lw_okq (⟨"CountedActors$Machine", "holderOf", "(II)I"⟩, 8) := ⟨⟨by decide +kernel, by decide +kernel⟩, List.mem_of_getElem? (i := 200) (by decide +kernel), List.mem_of_getElem? (i := 574) (by decide +kernel), List.mem_of_getElem? (i := 575) (by decide +kernel)⟩
theorem lw_p15 : lw_okq (⟨"CountedActors$Machine", "read", "(II)I"⟩, 8) := ⟨⟨by decide +kernel, by decide +kernel⟩, List.mem_of_getElem? (i := 200) (by decide +kernel), List.mem_of_getElem? (i := 581) (by decide +kernel), List.mem_of_getElem? (i := 582) (by decide +kernel)⟩
def lw_privs_1 : List (MethodName × Nat) := [(⟨"CountedActors$Draft", "leaveBlock", "()V"⟩, 4), (⟨"CountedActors$Program", "refusal", "(LCountedActors$Statement;)I"⟩, 4), (⟨"CountedActors$Draft", "isEmpty", "(I)Z"⟩, 4), (⟨"CountedActors$Draft", "refusalOfStoring", "(LCountedActors$Statement;I)I"⟩, 4), (⟨"CountedActors$Draft", "become", "(II)V"⟩, 4), (⟨"CountedActors$Draft", "emptied", "(I)I"⟩, 4), (⟨"CountedActors$Draft", "enterBlock", "()V"⟩, 4), (⟨"CountedActors$Draft", "shut", "(II)V"⟩, 4), (⟨"CountedActors", "isActor", "(I)Z"⟩, 7), (⟨"CountedActors$Machine", "countTaken", "(III)V"⟩, 8), (⟨"CountedActors$Machine", "run", "(IILCountedActors$Behaviour;)V"⟩, 8), (⟨"CountedActors$Machine", "perform", "(ILCountedActors$Statement;)V"⟩, 8), (⟨"CountedActors$Machine", "makeObject", "(I)I"⟩, 8), (⟨"CountedActors$Heap", "clear", "(I)V"⟩, 4), (⟨"CountedActors$Machine", "holderOf", "(II)I"⟩, 8), (⟨"CountedActors$Machine", "read", "(II)I"⟩, 8)]
theorem lw_r1 : ∀ q ∈ lw_privs_1, lw_okq q := List.forall_mem_cons.mpr ⟨lw_p0, List.forall_mem_cons.mpr ⟨lw_p1, List.forall_mem_cons.mpr ⟨lw_p2, List.forall_mem_cons.mpr ⟨lw_p3, List.forall_mem_cons.mpr ⟨lw_p4, List.forall_mem_cons.mpr ⟨lw_p5, List.forall_mem_cons.mpr ⟨lw_p6, List.forall_mem_cons.mpr ⟨lw_p7, List.forall_mem_cons.mpr ⟨lw_p8, List.forall_mem_cons.mpr ⟨lw_p9, List.forall_mem_cons.mpr ⟨lw_p10, List.forall_mem_cons.mpr ⟨lw_p11, List.forall_mem_cons.mpr ⟨lw_p12, List.forall_mem_cons.mpr ⟨lw_p13, List.forall_mem_cons.mpr ⟨lw_p14, List.forall_mem_cons.mpr ⟨lw_p15, fun _ h => absurd h List.not_mem_nil⟩⟩⟩⟩⟩⟩⟩⟩⟩⟩⟩⟩⟩⟩⟩⟩
theorem lw_p16 : lw_okq (⟨"CountedActors$Machine", "replace", "(III)I"⟩, 8) := ⟨⟨by decide +kernel, by decide +kernel⟩, List.mem_of_getElem? (i := 200) (by decide +kernel), List.mem_of_getElem? (i := 586) (by decide +kernel), List.mem_of_getElem? (i := 587) (by decide +kernel)⟩
theorem lw_p17 : lw_okq (⟨"CountedActors$Machine", "growCell", "(II)V"⟩, 8) := ⟨⟨by decide +kernel, by decide +kernel⟩, List.mem_of_getElem? (i := 200) (by decide +kernel), List.mem_of_getElem? (i := 591) (by decide +kernel), List.mem_of_getElem? (i := 592) (by decide +kernel)⟩
theorem lw_p18 : lw_okq (⟨"CountedActors$Machine", "showCell", "(I)V"⟩, 8) := ⟨⟨by decide +kernel, by decide +kernel⟩, List.mem_of_getElem? (i := 200) (by decide +kernel), List.mem_of_getElem? (i := 599) (by decide +kernel), List.mem_of_getElem? (i := 600) (by decide +kernel)⟩
theorem lw_p19 : lw_okq (⟨"CountedActors$Machine", "send", "(IIII)V"⟩, 8) := ⟨⟨by decide +kernel, by decide +kernel⟩, List.mem_of_getElem? (i := 200) (by decide +kernel), List.mem_of_getElem? (i := 614) (by decide +kernel), List.mem_of_getElem? (i := 615) (by decide +kernel)⟩
theorem lw_p20 : lw_okq (⟨"CountedActors$Machine", "raisesNeeded", "(I)I"⟩, 8) := ⟨⟨by decide +kernel, by decide +kernel⟩, List.mem_of_getElem? (i := 200) (by decide +kernel), List.mem_of_getElem? (i := 619) (by decide +kernel), List.mem_of_getElem? (i := 620) (by decide +kernel)⟩
theorem lw_p21 : lw_okq (⟨"CountedActors$Machine", "countSent", "(II)V"⟩, 8) := ⟨⟨by decide +kernel, by decide +kernel⟩, List.mem_of_getElem? (i := 200) (by decide +kernel), List.mem_of_getElem? (i := 627) (by decide +kernel), List.mem_of_getElem? (i := 628) (by decide +kernel)⟩
theorem lw_p22 : lw_okq (⟨"CountedActors$Machine", "isUnkept", "(I)Z"⟩, 8) := ⟨⟨by decide +kernel, by decide +kernel⟩, List.mem_of_getElem? (i := 200) (by decide +kernel), List.mem_of_getElem? (i := 646) (by decide +kernel), List.mem_of_getElem? (i := 647) (by decide +kernel)⟩
theorem lw_p23 : lw_okq (⟨"CountedActors$Machine", "giveBack", "(II)V"⟩, 8) := ⟨⟨by decide +kernel, by decide +kernel⟩, List.mem_of_getElem? (i := 200) (by decide +kernel), List.mem_of_getElem? (i := 658) (by decide +kernel), List.mem_of_getElem? (i := 659) (by decide +kernel)⟩
theorem lw_p24 : lw_okq (⟨"CountedActorsModel", "replay", "()V"⟩, 27) := ⟨⟨by decide +kernel, by decide +kernel⟩, List.mem_of_getElem? (i := 754) (by decide +kernel), List.mem_of_getElem? (i := 857) (by decide +kernel), List.mem_of_getElem? (i := 858) (by decide +kernel)⟩
theorem lw_p25 : lw_okq (⟨"CountedActorsModel", "effect", "(I)V"⟩, 27) := ⟨⟨by decide +kernel, by decide +kernel⟩, List.mem_of_getElem? (i := 754) (by decide +kernel), List.mem_of_getElem? (i := 861) (by decide +kernel), List.mem_of_getElem? (i := 862) (by decide +kernel)⟩
theorem lw_p26 : lw_okq (⟨"CountedActorsModel", "become", "(II)V"⟩, 27) := ⟨⟨by decide +kernel, by decide +kernel⟩, List.mem_of_getElem? (i := 754) (by decide +kernel), List.mem_of_getElem? (i := 865) (by decide +kernel), List.mem_of_getElem? (i := 866) (by decide +kernel)⟩
theorem lw_p27 : lw_okq (⟨"CountedActorsModel", "has", "(I)I"⟩, 27) := ⟨⟨by decide +kernel, by decide +kernel⟩, List.mem_of_getElem? (i := 754) (by decide +kernel), List.mem_of_getElem? (i := 872) (by decide +kernel), List.mem_of_getElem? (i := 873) (by decide +kernel)⟩
theorem lw_p28 : lw_okq (⟨"CountedActorsModel", "leave", "(II)V"⟩, 27) := ⟨⟨by decide +kernel, by decide +kernel⟩, List.mem_of_getElem? (i := 754) (by decide +kernel), List.mem_of_getElem? (i := 892) (by decide +kernel), List.mem_of_getElem? (i := 893) (by decide +kernel)⟩
theorem lw_p29 : lw_okq (⟨"CountedActorsModel", "refusal", "(IIIII)I"⟩, 27) := ⟨⟨by decide +kernel, by decide +kernel⟩, List.mem_of_getElem? (i := 754) (by decide +kernel), List.mem_of_getElem? (i := 903) (by decide +kernel), List.mem_of_getElem? (i := 904) (by decide +kernel)⟩
theorem lw_p30 : lw_okq (⟨"CountedActorsModel", "named", "(IIIII)Z"⟩, 27) := ⟨⟨by decide +kernel, by decide +kernel⟩, List.mem_of_getElem? (i := 754) (by decide +kernel), List.mem_of_getElem? (i := 907) (by decide +kernel), List.mem_of_getElem? (i := 908) (by decide +kernel)⟩
theorem lw_p31 : lw_okq (⟨"CountedActorsModel", "say", "(IIII)V"⟩, 27) := ⟨⟨by decide +kernel, by decide +kernel⟩, List.mem_of_getElem? (i := 754) (by decide +kernel), List.mem_of_getElem? (i := 934) (by decide +kernel), List.mem_of_getElem? (i := 935) (by decide +kernel)⟩
def lw_privs_2 : List (MethodName × Nat) := [(⟨"CountedActors$Machine", "replace", "(III)I"⟩, 8), (⟨"CountedActors$Machine", "growCell", "(II)V"⟩, 8), (⟨"CountedActors$Machine", "showCell", "(I)V"⟩, 8), (⟨"CountedActors$Machine", "send", "(IIII)V"⟩, 8), (⟨"CountedActors$Machine", "raisesNeeded", "(I)I"⟩, 8), (⟨"CountedActors$Machine", "countSent", "(II)V"⟩, 8), (⟨"CountedActors$Machine", "isUnkept", "(I)Z"⟩, 8), (⟨"CountedActors$Machine", "giveBack", "(II)V"⟩, 8), (⟨"CountedActorsModel", "replay", "()V"⟩, 27), (⟨"CountedActorsModel", "effect", "(I)V"⟩, 27), (⟨"CountedActorsModel", "become", "(II)V"⟩, 27), (⟨"CountedActorsModel", "has", "(I)I"⟩, 27), (⟨"CountedActorsModel", "leave", "(II)V"⟩, 27), (⟨"CountedActorsModel", "refusal", "(IIIII)I"⟩, 27), (⟨"CountedActorsModel", "named", "(IIIII)Z"⟩, 27), (⟨"CountedActorsModel", "say", "(IIII)V"⟩, 27)]
theorem lw_r2 : ∀ q ∈ lw_privs_2, lw_okq q := List.forall_mem_cons.mpr ⟨lw_p16, List.forall_mem_cons.mpr ⟨lw_p17, List.forall_mem_cons.mpr ⟨lw_p18, List.forall_mem_cons.mpr ⟨lw_p19, List.forall_mem_cons.mpr ⟨lw_p20, List.forall_mem_cons.mpr ⟨lw_p21, List.forall_mem_cons.mpr ⟨lw_p22, List.forall_mem_cons.mpr ⟨lw_p23, List.forall_mem_cons.mpr ⟨lw_p24, List.forall_mem_cons.mpr ⟨lw_p25, List.forall_mem_cons.mpr ⟨lw_p26, List.forall_mem_cons.mpr ⟨lw_p27, List.forall_mem_cons.mpr ⟨lw_p28, List.forall_mem_cons.mpr ⟨lw_p29, List.forall_mem_cons.mpr ⟨lw_p30, List.forall_mem_cons.mpr ⟨lw_p31, fun _ h => absurd h List.not_mem_nil⟩⟩⟩⟩⟩⟩⟩⟩⟩⟩⟩⟩⟩⟩⟩⟩
theorem lw_p32 : lw_okq (⟨"CountedActorsModel", "forget", "(I)V"⟩, 27) := ⟨⟨by decide +kernel, by decide +kernel⟩, List.mem_of_getElem? (i := 754) (by decide +kernel), List.mem_of_getElem? (i := 942) (by decide +kernel), List.mem_of_getElem? (i := 943) (by decide +kernel)⟩
theorem lw_p33 : lw_okq (⟨"CountedActorsModel", "clear", "()V"⟩, 27) := ⟨⟨by decide +kernel, by decide +kernel⟩, List.mem_of_getElem? (i := 754) (by decide +kernel), List.mem_of_getElem? (i := 946) (by decide +kernel), List.mem_of_getElem? (i := 947) (by decide +kernel)⟩
theorem lw_p34 : lw_okq (⟨"CountedActorsModel", "root", "(II)V"⟩, 27) := ⟨⟨by decide +kernel, by decide +kernel⟩, List.mem_of_getElem? (i := 754) (by decide +kernel), List.mem_of_getElem? (i := 950) (by decide +kernel), List.mem_of_getElem? (i := 951) (by decide +kernel)⟩
theorem lw_p35 : lw_okq (⟨"CountedActorsModel", "spread", "()V"⟩, 27) := ⟨⟨by decide +kernel, by decide +kernel⟩, List.mem_of_getElem? (i := 754) (by decide +kernel), List.mem_of_getElem? (i := 954) (by decide +kernel), List.mem_of_getElem? (i := 955) (by decide +kernel)⟩
theorem lw_p36 : lw_okq (⟨"CountedActorsModel", "act", "(II)V"⟩, 27) := ⟨⟨by decide +kernel, by decide +kernel⟩, List.mem_of_getElem? (i := 754) (by decide +kernel), List.mem_of_getElem? (i := 958) (by decide +kernel), List.mem_of_getElem? (i := 959) (by decide +kernel)⟩
theorem lw_p37 : lw_okq (⟨"CountedActorsModel", "made", "(I)I"⟩, 27) := ⟨⟨by decide +kernel, by decide +kernel⟩, List.mem_of_getElem? (i := 754) (by decide +kernel), List.mem_of_getElem? (i := 962) (by decide +kernel), List.mem_of_getElem? (i := 963) (by decide +kernel)⟩
theorem lw_p38 : lw_okq (⟨"CountedActorsModel", "read", "(III)I"⟩, 27) := ⟨⟨by decide +kernel, by decide +kernel⟩, List.mem_of_getElem? (i := 754) (by decide +kernel), List.mem_of_getElem? (i := 966) (by decide +kernel), List.mem_of_getElem? (i := 967) (by decide +kernel)⟩
theorem lw_p39 : lw_okq (⟨"CountedActorsModel", "write", "(IIII)V"⟩, 27) := ⟨⟨by decide +kernel, by decide +kernel⟩, List.mem_of_getElem? (i := 754) (by decide +kernel), List.mem_of_getElem? (i := 970) (by decide +kernel), List.mem_of_getElem? (i := 971) (by decide +kernel)⟩
theorem lw_p40 : lw_okq (⟨"CountedActorsModel", "show", "(I)V"⟩, 27) := ⟨⟨by decide +kernel, by decide +kernel⟩, List.mem_of_getElem? (i := 754) (by decide +kernel), List.mem_of_getElem? (i := 974) (by decide +kernel), List.mem_of_getElem? (i := 975) (by decide +kernel)⟩
theorem lw_p41 : lw_okq (⟨"CountedActorsModel", "send", "(IIII)V"⟩, 27) := ⟨⟨by decide +kernel, by decide +kernel⟩, List.mem_of_getElem? (i := 754) (by decide +kernel), List.mem_of_getElem? (i := 978) (by decide +kernel), List.mem_of_getElem? (i := 979) (by decide +kernel)⟩
theorem lw_p42 : lw_okq (⟨"CountedActorsModel", "pay", "(II)V"⟩, 27) := ⟨⟨by decide +kernel, by decide +kernel⟩, List.mem_of_getElem? (i := 754) (by decide +kernel), List.mem_of_getElem? (i := 982) (by decide +kernel), List.mem_of_getElem? (i := 983) (by decide +kernel)⟩
theorem lw_p43 : lw_okq (⟨"CountedActorsModel", "ownRoots", "(I)V"⟩, 27) := ⟨⟨by decide +kernel, by decide +kernel⟩, List.mem_of_getElem? (i := 754) (by decide +kernel), List.mem_of_getElem? (i := 990) (by decide +kernel), List.mem_of_getElem? (i := 991) (by decide +kernel)⟩
theorem lw_p44 : lw_okq (⟨"CountedActorsModel", "remove", "(I)V"⟩, 27) := ⟨⟨by decide +kernel, by decide +kernel⟩, List.mem_of_getElem? (i := 754) (by decide +kernel), List.mem_of_getElem? (i := 994) (by decide +kernel), List.mem_of_getElem? (i := 995) (by decide +kernel)⟩
theorem lw_p45 : lw_okq (⟨"CountedActorsModel", "there", "(I)Z"⟩, 27) := ⟨⟨by decide +kernel, by decide +kernel⟩, List.mem_of_getElem? (i := 754) (by decide +kernel), List.mem_of_getElem? (i := 1006) (by decide +kernel), List.mem_of_getElem? (i := 1007) (by decide +kernel)⟩
theorem lw_p46 : lw_okq (⟨"CountedActorsModel", "look", "()V"⟩, 27) := ⟨⟨by decide +kernel, by decide +kernel⟩, List.mem_of_getElem? (i := 754) (by decide +kernel), List.mem_of_getElem? (i := 1030) (by decide +kernel), List.mem_of_getElem? (i := 1031) (by decide +kernel)⟩
def lw_privs_3 : List (MethodName × Nat) := [(⟨"CountedActorsModel", "forget", "(I)V"⟩, 27), (⟨"CountedActorsModel", "clear", "()V"⟩, 27), (⟨"CountedActorsModel", "root", "(II)V"⟩, 27), (⟨"CountedActorsModel", "spread", "()V"⟩, 27), (⟨"CountedActorsModel", "act", "(II)V"⟩, 27), (⟨"CountedActorsModel", "made", "(I)I"⟩, 27), (⟨"CountedActorsModel", "read", "(III)I"⟩, 27), (⟨"CountedActorsModel", "write", "(IIII)V"⟩, 27), (⟨"CountedActorsModel", "show", "(I)V"⟩, 27), (⟨"CountedActorsModel", "send", "(IIII)V"⟩, 27), (⟨"CountedActorsModel", "pay", "(II)V"⟩, 27), (⟨"CountedActorsModel", "ownRoots", "(I)V"⟩, 27), (⟨"CountedActorsModel", "remove", "(I)V"⟩, 27), (⟨"CountedActorsModel", "there", "(I)Z"⟩, 27), (⟨"CountedActorsModel", "look", "()V"⟩, 27)]
theorem lw_r3 : ∀ q ∈ lw_privs_3, lw_okq q := List.forall_mem_cons.mpr ⟨lw_p32, List.forall_mem_cons.mpr ⟨lw_p33, List.forall_mem_cons.mpr ⟨lw_p34, List.forall_mem_cons.mpr ⟨lw_p35, List.forall_mem_cons.mpr ⟨lw_p36, List.forall_mem_cons.mpr ⟨lw_p37, List.forall_mem_cons.mpr ⟨lw_p38, List.forall_mem_cons.mpr ⟨lw_p39, List.forall_mem_cons.mpr ⟨lw_p40, List.forall_mem_cons.mpr ⟨lw_p41, List.forall_mem_cons.mpr ⟨lw_p42, List.forall_mem_cons.mpr ⟨lw_p43, List.forall_mem_cons.mpr ⟨lw_p44, List.forall_mem_cons.mpr ⟨lw_p45, List.forall_mem_cons.mpr ⟨lw_p46, fun _ h => absurd h List.not_mem_nil⟩⟩⟩⟩⟩⟩⟩⟩⟩⟩⟩⟩⟩⟩⟩
def lw_privs : List (MethodName × Nat) := lw_privs_1 ++ (lw_privs_2 ++ (lw_privs_3))
def lw_tbl : List Cond := k2_sels lw_privs ++ tables_1
theorem lw_privs_ok : ∀ q ∈ lw_privs, lw_okq q := by
  show ∀ q ∈ lw_privs_1 ++ (lw_privs_2 ++ (lw_privs_3)), lw_okq q
  exact List.forall_mem_append.mpr ⟨lw_r1, List.forall_mem_append.mpr ⟨lw_r2, lw_r3⟩⟩
-- ===== end of PART A; then your names; then what follows =====
end
section
/-! Math.floorMod of a number that isn't negative, by 16: its contract, and a row for its call -/
def fm_y : MethodName := ⟨"java/lang/Math", "floorMod", "(II)I"⟩
theorem fm_0 : decode prog_14_method_50_code 0 = .ok (.iload_n 0, 1) := by decide +kernel
theorem fm_1 : decode prog_14_method_50_code 1 = .ok (.iload_n 1, 1) := by decide +kernel
theorem fm_2 : decode prog_14_method_50_code 2 = .ok (.irem, 1) := by decide +kernel
theorem fm_3 : decode prog_14_method_50_code 3 = .ok (.istore_n 2, 1) := by decide +kernel
theorem fm_4 : decode prog_14_method_50_code 4 = .ok (.iload_n 0, 1) := by decide +kernel
theorem fm_5 : decode prog_14_method_50_code 5 = .ok (.iload_n 1, 1) := by decide +kernel
theorem fm_6 : decode prog_14_method_50_code 6 = .ok (.ixor, 1) := by decide +kernel
theorem fm_7 : decode prog_14_method_50_code 7 = .ok (.ifCond .ge 11, 3) := by decide +kernel
theorem fm_18 : decode prog_14_method_50_code 18 = .ok (.iload_n 2, 1) := by decide +kernel
theorem fm_19 : decode prog_14_method_50_code 19 = .ok (.ireturn, 1) := by decide +kernel
theorem fm_row0 : (NativeRow.find? natives fm_y.cls fm_y.name fm_y.desc).isNone = true := by decide +kernel
theorem fm_row (p : Program) : NativeRow.find? p.tables.natives fm_y.cls fm_y.name fm_y.desc = none := by
  cases p <;> exact Option.isNone_iff_eq_none.mp fm_row0
theorem fm_sg {x : Int32} (h : 0 ≤ x) : 0 ≤ x ^^^ 16 := by
  rw [Int32.le_iff_toInt_le] at h ⊢
  have h1 : x.toBitVec.msb = false := by
    rw [BitVec.msb_eq_toInt]
    exact decide_eq_false (Int.not_lt.mpr h)
  have h2 : (x ^^^ 16).toBitVec.msb = false := by
    rw [Int32.toBitVec_xor, BitVec.msb_xor, h1]
    rfl
  rw [BitVec.msb_eq_toInt] at h2
  exact Int.not_lt.mp (of_decide_eq_false h2)
def fm_spec : Spec where
  pre := .and (.code fm_y prog_14_method_50_code 3 (some .int)) (.and (.count 2) (.and (.isInt (.arg 0)) (.and (.isInt (.arg 1)) (.and (.eq (.arg 1) (.int 16)) (.le (.int 0) (.arg 0))))))
  post := .and .returned (.eq .result (.sub (.arg 0) (.mul (.div (.arg 0) (.arg 1)) (.arg 1))))
  changes := some []
set_option maxHeartbeats 4000000 in
theorem fm_meets (l : Launch) : MeetsLoose l fm_y fm_spec := by
  refine MeetsLoose.of_body_ov (code := prog_14_method_50_code) (maxLocals := 3) (ret := some .int) fm_row ?_ ?_
  · intro args s h
    simp only [fm_spec, Cond.before_and, Bool.and_eq_true] at h
    exact h.1
  · intro p e s m args below meth c s₁ B
    have hpre := B.pre
    simp only [fm_spec, Cond.before_and, Bool.and_eq_true] at hpre
    obtain ⟨a, b, rfl⟩ := Cond.two_ints hpre.2.1 hpre.2.2.1 hpre.2.2.2.1
    have hb : b = 16 := by
      have := hpre.2.2.2.2.1
      simp [Cond.before, Cond.holds, Cond.value, Term.eval] at this
      exact this
    have ha : 0 ≤ a := by
      have := hpre.2.2.2.2.2
      simp [Cond.before, Cond.holds, Cond.value, Term.eval] at this
      exact this
    subst hb
    have hx := fm_sg ha
    have hloc : argsToLocals #[.int a, .int 16] 3 = #[.val (.int a), .val (.int 16), .unset] := rfl
    obtain ⟨fs, hfs⟩ := handOver_isSome (s := s₁) (some (.int (a - a / 16 * 16))) B.hears₁
    refine ⟨s₁.setFrames fs, .returned (some (.int (a - a / 16 * 16))), ?_, B.here.running, B.ended hfs (by intro h; cases h), ?_, State.sameBut_nil.mpr ?_⟩
    · unfold entryFrame; rw [hloc]
      refine Steps.instrAtOv (c := _) (by simpa using B.here) ?_
      simp [jvm, wpRun, exec, B.here.top, B.exec, B.bytes, fm_0]
      refine Steps.instrAtOv (c := _) (by simpa using B.here) ?_
      simp [jvm, wpRun, exec, B.here.top, B.exec, B.bytes, fm_1]
      refine Steps.instrAtOv (c := _) (by simpa using B.here) ?_
      simp [jvm, wpRun, exec, B.here.top, B.exec, B.bytes, fm_2]
      refine Steps.instrAtOv (c := _) (by simpa using B.here) ?_
      simp [jvm, wpRun, exec, B.here.top, B.exec, B.bytes, fm_3]
      refine ⟨#[.val (.int a), .val (.int 16), .val (.int (a - a / 16 * 16))], rfl, ?_⟩
      refine Steps.instrAtOv (c := _) (by simpa using B.here) ?_
      simp [jvm, wpRun, exec, B.here.top, B.exec, B.bytes, fm_4]
      refine Steps.instrAtOv (c := _) (by simpa using B.here) ?_
      simp [jvm, wpRun, exec, B.here.top, B.exec, B.bytes, fm_5]
      refine Steps.instrAtOv (c := _) (by simpa using B.here) ?_
      simp [jvm, wpRun, exec, B.here.top, B.exec, B.bytes, fm_6]
      refine Steps.instrAtOv (c := _) (by simpa using B.here) ?_
      simp [jvm, wpRun, exec, B.here.top, B.exec, B.bytes, fm_7, ifCond.holds, hx]
      refine Steps.instrAtOv (c := _) (by simpa using B.here) ?_
      simp [jvm, wpRun, exec, B.here.top, B.exec, B.bytes, fm_18]
      refine Steps.instrAtOv (c := _) (by simpa using B.here) ?_
      simp [jvm, wpRun, exec, B.here.top, B.exec, B.bytes, fm_19, B.method₁, B.returns]
      intro acts
      rw [show narrow FieldType.int (Value.int (a - a / 16 * 16)) = Value.int (a - a / 16 * 16) from rfl, ret_to B.frames₁ B.method₁ B.notSynchronized rfl rfl hfs]
      exact Steps.refl _
    · simp [fm_spec, Cond.after, Cond.holds, Cond.value, Term.eval]
    · rw [State.frames_setFrames _ B.cur₁, B.back]
section FM
variable {p : Program} {l : Launch} {e : Env} {R : Room} {s : State} {m : MethodId} {args : Array Value} {below : List Frame} {meth : Method} {c : Code} {T : State} {H : Heap} {locs : List Loc} {cells slots : Nat} {Q : State → Prop}
set_option maxHeartbeats 4000000 in
theorem fm_callV (X : Stand p l e R s m args below meth c T locs cells slots) (hexec : p.tables.exec = Jvm.exec) {own : String} {index : Nat} (hown : s.vm.findClass own = some m.cls)
    (hlink : (Cond.methodLink own index fm_y).before args s = true) (hstat : (Cond.static fm_y).before args s = true) (hinit : (Cond.initialized "java/lang/Math").before args s = true)
    (hcode : (Cond.code fm_y prog_14_method_50_code 3 (some .int)).before args s = true)
    {g : JFrame} (hg : g.method = m) (hsize : g.locals.size = c.maxLocals) {a : Int32} (ha : 0 ≤ a) {rest : List Value} (hstack : g.stack = .int 16 :: .int a :: rest) (hdg : decode c.code g.pc = .ok (.invokestatic index, 3))
    (hframes : 1 ≤ R.frames) (hlocals : 2 * g.monitorRoom + (rest.map fun v => v.category).sum + 14 ≤ R.locals) (hcells : cells ≤ R.cells) (hslots : slots ≤ R.slots) :
    ∃ vm', Stand p l e R s m args below meth c (T.setVm vm') locs cells slots ∧
      ∀ target, Steps p.tables e below ((T.setVm vm').setTop { g with pc := g.pc + 3, stack := .int (a - a / 16 * 16) :: rest }) target → Steps p.tables e below (T.setTop g) target := by
  obtain ⟨v, T', X', ⟨first, t, hpost⟩, hstep⟩ := X.staticByContractV hexec hown hlink hstat hinit hcode (by decide) (fm_meets l) rfl rfl rfl rfl
    (fun args' first o s₂ h => by
      simp only [fm_spec, Cond.after_and, Bool.and_eq_true] at h
      cases o with
      | returned r => exact ⟨r, rfl⟩
      | threw y => simp [Cond.after, Cond.holds, Cond.value] at h)
    hg hsize (argsL := [.int a, .int 16]) (rest := rest)
    (fun sig hs => by
      have h : parseMethodDescriptor "(II)I" = some { parameters := [.int, .int], returnType := some .int } := by decide +kernel
      rw [show fm_y.desc = "(II)I" from rfl, h] at hs
      rw [← Option.some.inj hs]; rfl)
    hstack hdg
    (fun vm' hW => by
      simp only [fm_spec, Cond.before_and, Bool.and_eq_true]
      refine ⟨?_, rfl, rfl, rfl, ?_, ?_⟩
      · have q := hcode
        rw [← Cond.code_setVm hW.alike] at q
        simp only [Cond.before, Cond.holds, Cond.value, State.methodNamed?, State.vm_setVm] at q ⊢
        exact q
      · simp [Cond.before, Cond.holds, Cond.value, Term.eval]
      · simp [Cond.before, Cond.holds, Cond.value, Term.eval]; exact ha)
    (by show 0 + 1 ≤ R.frames; omega) (by show 2 * g.monitorRoom + (rest.map fun v => v.category).sum + (3 + 11) + 0 ≤ R.locals; omega) (by show cells + 0 ≤ R.cells; omega) (by show slots + 0 ≤ R.slots; omega)
  refine ⟨T', X', fun target h => hstep target ?_⟩
  obtain rfl : v = some (.int (a - a / 16 * 16)) := by
    rcases v with _ | w
    · simp [fm_spec, Cond.after, Cond.holds, Cond.value, Term.eval] at hpost
    · cases w <;> simp [fm_spec, Cond.after, Cond.holds, Cond.value, Term.eval] at hpost
      rw [hpost]
  exact h
theorem fm_call {cc : ByteArray} {pc : Nat} {ls : Array Slot} {rest : List Value} (hexec : p.tables.exec = Jvm.exec) (hb : c.code = cc) (hml : c.maxLocals = ls.size) {own : String} {index : Nat} (hown : s.vm.findClass own = some m.cls) (hlink : (Cond.methodLink own index fm_y).before args s = true) (hstat : (Cond.static fm_y).before args s = true) (hini : (Cond.initialized "java/lang/Math").before args s = true) (hcode : (Cond.code fm_y prog_14_method_50_code 3 (some .int)).before args s = true)
    (hframes : 1 ≤ R.frames) (hlocals : (rest.map fun v => v.category).sum + 14 ≤ R.locals) (hc : cells ≤ R.cells) (hs : slots ≤ R.slots) {x : Int32} (hx : 0 ≤ x) (hdg : decode cc pc = .ok (.invokestatic index, 3))
    (kk : W p l e R s m args below meth c H locs cells slots Q (F0 m (pc + 3) ls (.int (x - x / 16 * 16) :: rest))) : W p l e R s m args below meth c H locs cells slots Q (F0 m pc ls (.int 16 :: .int x :: rest)) := by
  intro T hT X
  obtain ⟨vm', X', st⟩ := fm_callV X hexec hown hlink hstat hini hcode (g := F0 m pc ls (.int 16 :: .int x :: rest)) rfl (by rw [hml]) hx (rest := rest) rfl (by rw [hb]; exact hdg) hframes (by show 2 * 0 + _ + 14 ≤ _; omega) hc hs
  obtain ⟨t, a1, b1⟩ := kk (T.setVm vm') hT X'
  exact ⟨t, st t a1, b1⟩
end FM
end
section
/-! A small machine of our own, over handles instead of addresses: what a run of it answers, the real machine answers (am_sound). Tables: P = (code, links, constants, field types, return type, number of locals, read-only arrays). -/
abbrev am_I : Type := Jvm.ClassFile.Instr
/-- a cell: an object (class, fields: none = an int kept in the memory, some v = a reference), or an array (0 int, 1 boolean, n + 2 references to class n; length; references) -/
abbrev am_C : Type := (Nat × List (Option Value)) ⊕ (Nat × Nat × (Nat → Option Nat))
abbrev am_M : Type := Nat → Nat → Int32
abbrev am_R : Type := Option Value × List am_C × am_M
abbrev am_K : Type := Nat → Nat → List (Option Value) → List Value → List am_C → am_M → Option am_R
abbrev am_T : Type := (Nat → Nat → Option (am_I × Nat)) × (Nat → Nat → Option (Nat × Nat × Nat × Nat × Nat)) × (Nat → Nat → Option Int32) × (Nat → List FieldType) × (Nat → Option FieldType) × (Nat → Nat) × (Nat → Option (Nat × (Nat → Int32)))
def am_nth {α : Type} : List α → Nat → Option α
  | [], _ => none
  | a :: _, 0 => some a
  | _ :: r, n + 1 => am_nth r n
theorem am_nth_eq {α : Type} : ∀ (l : List α) (n : Nat), am_nth l n = l[n]?
  | [], n => by simp [am_nth]
  | a :: r, 0 => by simp [am_nth]
  | a :: r, n + 1 => by simp [am_nth, am_nth_eq r n]
def am_get (L : List (Option Value)) (i : Nat) : Option Value := match am_nth L i with
  | some o => o
  | none => none
/-- the memory's row k is f -/
def am_set (M : am_M) (k : Nat) (f : Nat → Int32) : am_M := fun j => if j = k then f else M j
theorem am_set_s (M : am_M) (k : Nat) (f : Nat → Int32) : am_set M k f k = f := by simp [am_set]
theorem am_set_n (M : am_M) {k j : Nat} (f : Nat → Int32) (h : j ≠ k) : am_set M k f j = M j := by simp [am_set, h]
def am_bin : am_I → Option (Int32 → Int32 → Option Int32)
  | .iadd => some fun x y => some (x + y)
  | .isub => some fun x y => some (x - y)
  | .imul => some fun x y => some (x * y)
  | .iand => some fun x y => some (x &&& y)
  | .ior => some fun x y => some (x ||| y)
  | .ixor => some fun x y => some (x ^^^ y)
  | .ishl => some fun x y => some (x <<< (y &&& 31))
  | .ishr => some fun x y => some (x >>> (y &&& 31))
  | .idiv => some fun x y => if y = 0 then none else some (x / y)
  | .irem => some fun x y => if y = 0 then none else some (x - x / y * y)
  | _ => none
def am_psh (cst : Nat → Option Int32) : am_I → Option Value
  | .iconst n => some (.int (Int32.ofInt n))
  | .bipush n => some (.int (Int8.ofInt n).toInt32)
  | .sipush n => some (.int (Int16.ofInt n).toInt32)
  | .ldc ix => (match cst ix with | some z => some (.int z) | none => none)
  | _ => none
def am_ldi : am_I → Option Nat
  | .iload i => some i
  | .iload_n k => some k.val
  | _ => none
def am_lda : am_I → Option Nat
  | .aload i => some i
  | .aload_n k => some k.val
  | _ => none
def am_sti : am_I → Option Nat
  | .istore i => some i
  | .istore_n k => some k.val
  | _ => none
def am_sta : am_I → Option Nat
  | .astore i => some i
  | .astore_n k => some k.val
  | _ => none
def am_len : am_I → Nat
  | .iadd => 1 | .isub => 1 | .imul => 1 | .iand => 1 | .ior => 1 | .ixor => 1 | .ishl => 1 | .ishr => 1 | .idiv => 1 | .irem => 1 | .ineg => 1
  | .iconst _ => 1 | .bipush _ => 2 | .sipush _ => 3 | .ldc _ => 2
  | .iload _ => 2 | .iload_n _ => 1 | .aload _ => 2 | .aload_n _ => 1 | .istore _ => 2 | .istore_n _ => 1 | .astore _ => 2 | .astore_n _ => 1
  | .iinc _ _ => 3 | .dup => 1 | .pop => 1 | .dup_x1 => 1 | .dup_x2 => 1 | .dup2 => 1
  | .ifCond _ _ => 3 | .if_icmp _ _ => 3 | .goto _ => 3
  | .getfield _ => 3 | .putfield _ => 3 | .getstatic _ => 3
  | .iaload => 1 | .iastore => 1 | .baload => 1 | .bastore => 1 | .aaload => 1 | .aastore => 1 | .arraylength => 1
  | .newarray _ => 2 | .anewarray _ => 3 | .new _ => 3
  | .invokespecial _ => 3 | .invokevirtual _ => 3 | .invokestatic _ => 3
  | .ireturn => 1 | .return_ => 1 | .areturn => 1
  | _ => 0
def am_dup : am_I → List Value → Option (List Value)
  | .dup, v :: r => some (v :: v :: r)
  | .pop, _ :: r => some r
  | .dup_x1, v :: w :: r => some (v :: w :: v :: r)
  | .dup_x2, v :: w :: u :: r => some (v :: w :: u :: v :: r)
  | .dup2, v :: w :: r => some (v :: w :: v :: w :: r)
  | _, _ => none
def am_tg (pc : Nat) (off : Int) : Option Nat := match (pc : Int) + off with
  | .ofNat t => some t
  | .negSucc _ => none
def am_br {α : Type} (c : Jvm.ClassFile.Cond) (x y : Int32) (a b : α) : α := match c with
  | .eq => if x = y then a else b
  | .ne => if x = y then b else a
  | .lt => if x < y then a else b
  | .ge => if y ≤ x then a else b
  | .gt => if y < x then a else b
  | .le => if x ≤ y then a else b
/-- where a switch goes -/
def am_sw (pc : Nat) (x : Int32) : am_I → Option Nat
  | .tableswitch dflt lo hi offs => if x.toInt < lo ∨ hi < x.toInt then am_tg pc dflt else (match offs[(x.toInt - lo).toNat]? with | some o => am_tg pc o | none => none)
  | .lookupswitch dflt ps => if (ps.toList.zip (ps.toList.drop 1)).all (fun (a, next) => a.1 < next.1) = true then am_tg pc (Op.lookupswitch.offset ps.toList dflt x.toInt) else none
  | _ => none
/-- may a field, a return of this type take this int as it is? -/
def am_fit (ty : FieldType) (x : Int32) : Bool := match ty with
  | .int => true
  | .boolean => x == 0 || x == 1
  | _ => false
def am_rty (ty : FieldType) : Bool := match ty with
  | .object _ => true
  | .array _ => true
  | _ => false
def am_new (ty : FieldType) : Option Value := match ty with
  | .int => none
  | .boolean => none
  | _ => some .null
/-- the heap's part of a step: what lies on the stack, the cells and the memory behind it -/
def am_hp (P : am_T) (mi : Nat) (i : am_I) (st : List Value) (sh : List am_C) (M : am_M) : Option (List Value × List am_C × am_M) := match i with
  | .getfield ix => (match P.2.1 mi ix, st with
    | some (0, ci, k, _, _), .ref a :: r => (match am_nth sh a with
      | some (.inl (cj, fs)) => if cj = ci then (match am_nth fs k with
        | some none => some (.int (M a k) :: r, sh, M)
        | some (some v) => some (v :: r, sh, M)
        | none => none) else none
      | _ => none)
    | _, _ => none)
  | .putfield ix => (match P.2.1 mi ix, st with
    | some (0, ci, k, _, 0), v :: .ref a :: r => (match am_nth sh a with
      | some (.inl (cj, fs)) => if cj = ci then (match am_nth fs k, v with
        | some none, .int x => (match am_nth (P.2.2.2.1 ci) k with
          | some ty => if am_fit ty x then some (r, sh, am_set M a (upd (M a) k x)) else none
          | none => none)
        | some (some _), .ref b => (match am_nth (P.2.2.2.1 ci) k with
          | some ty => if am_rty ty then some (r, sh.set a (.inl (cj, fs.set k (some (.ref b)))), M) else none
          | none => none)
        | _, _ => none) else none
      | _ => none)
    | _, _ => none)
  | .getstatic ix => (match P.2.1 mi ix with
    | some (1, j, _, _, _) => some (.ref (1048576 + j) :: st, sh, M)
    | _ => none)
  | .iaload => (match st with
    | .int x :: .ref a :: r => (match am_nth sh a with
      | some (.inr (t, n, _)) => if t = 0 then (if x < 0 ∨ n ≤ x.toNatClampNeg then none else some (.int (M a x.toNatClampNeg) :: r, sh, M)) else none
      | some (.inl _) => none
      | none => (match P.2.2.2.2.2.2 a with
        | some (n, f) => if x < 0 ∨ n ≤ x.toNatClampNeg then none else some (.int (f x.toNatClampNeg) :: r, sh, M)
        | none => none))
    | _ => none)
  | .baload => (match st with
    | .int x :: .ref a :: r => (match am_nth sh a with
      | some (.inr (t, n, _)) => if t = 1 then (if x < 0 ∨ n ≤ x.toNatClampNeg then none else some (.int (M a x.toNatClampNeg) :: r, sh, M)) else none
      | _ => none)
    | _ => none)
  | .aaload => (match st with
    | .int x :: .ref a :: r => (match am_nth sh a with
      | some (.inr (t, n, g)) => if 2 ≤ t then (if x < 0 ∨ n ≤ x.toNatClampNeg then none else (match g x.toNatClampNeg with
        | some b => some (.ref b :: r, sh, M)
        | none => none)) else none
      | _ => none)
    | _ => none)
  | .iastore => (match st with
    | .int v :: .int x :: .ref a :: r => (match am_nth sh a with
      | some (.inr (t, n, _)) => if t = 0 then (if x < 0 ∨ n ≤ x.toNatClampNeg then none else some (r, sh, am_set M a (upd (M a) x.toNatClampNeg v))) else none
      | _ => none)
    | _ => none)
  | .bastore => (match st with
    | .int v :: .int x :: .ref a :: r => (match am_nth sh a with
      | some (.inr (t, n, _)) => if t = 1 then (if x < 0 ∨ n ≤ x.toNatClampNeg then none else some (r, sh, am_set M a (upd (M a) x.toNatClampNeg (v &&& 1)))) else none
      | _ => none)
    | _ => none)
  | .aastore => (match st with
    | .ref v :: .int x :: .ref a :: r => (match am_nth sh a, am_nth sh v with
      | some (.inr (t, n, g)), some (.inl (ci, _)) => if t = ci + 2 then (if x < 0 ∨ n ≤ x.toNatClampNeg then none else some (r, sh.set a (.inr (t, n, va_up g x.toNatClampNeg (some v))), M)) else none
      | _, _ => none)
    | _ => none)
  | .arraylength => (match st with
    | .ref a :: r => (match am_nth sh a with
      | some (.inr (_, n, _)) => some (.int (Int32.ofNat n) :: r, sh, M)
      | some (.inl _) => none
      | none => (match P.2.2.2.2.2.2 a with
        | some (n, _) => some (.int (Int32.ofNat n) :: r, sh, M)
        | none => none))
    | _ => none)
  | .newarray at_ => (match st, at_ with
    | .int x :: r, .int => if x < 0 ∨ 100000 ≤ x.toNatClampNeg ∨ 1048576 ≤ sh.length + 1 then none else some (.ref sh.length :: r, sh ++ [.inr (0, x.toNatClampNeg, fun _ => none)], am_set M sh.length (fun _ => 0))
    | .int x :: r, .boolean => if x < 0 ∨ 100000 ≤ x.toNatClampNeg ∨ 1048576 ≤ sh.length + 1 then none else some (.ref sh.length :: r, sh ++ [.inr (1, x.toNatClampNeg, fun _ => none)], am_set M sh.length (fun _ => 0))
    | _, _ => none)
  | .anewarray ix => (match st, P.2.1 mi (ix + 100000) with
    | .int x :: r, some (6, ci, _, _, _) => if x < 0 ∨ 100000 ≤ x.toNatClampNeg ∨ 1048576 ≤ sh.length + 1 then none else some (.ref sh.length :: r, sh ++ [.inr (ci + 2, x.toNatClampNeg, fun _ => none)], am_set M sh.length (fun _ => 0))
    | _, _ => none)
  | .new ix => (match P.2.1 mi ix with
    | some (5, ci, _, _, _) => if 1048576 ≤ sh.length + 1 then none else some (.ref sh.length :: st, sh ++ [.inl (ci, (P.2.2.2.1 ci).map am_new)], am_set M sh.length (fun _ => 0))
    | _ => none)
  | _ => none
def am_ent (n : Nat) (as : List Value) : List (Option Value) := as.map some ++ List.replicate (n - as.length) none
/-- what a step does: the method's end; or it goes on at (pc, locals, stack, cells, memory); or a call: method, arguments, what else lies on the stack -/
abbrev am_N : Type := Nat × List (Option Value) × List Value × List am_C × am_M
abbrev am_A : Type := am_R ⊕ (am_N ⊕ (Nat × List Value × List Value))
def am_nx (pc : Nat) (L : List (Option Value)) (st : List Value) (sh : List am_C) (M : am_M) : Option am_A := some (.inr (.inl (pc, L, st, sh, M)))
/-- a call: the arguments lie on the stack; link (2, method, parameters, kind, class): kind 0 virtual, 1 static, 2 a constructor (3, 4, 5: of a nest mate); (3, ..): Object's constructor; (4, ..): System.arraycopy; (7, ..), (8, ..), (9, ..): Math.max, Math.min, Math.floorMod by 16 -/
def am_cal (P : am_T) (mi pc : Nat) (ix : Nat) (ik : Nat) (L : List (Option Value)) (st : List Value) (sh : List am_C) (M : am_M) : Option am_A := match P.2.1 mi ix with
  | some (2, mj, na, kd, ci) =>
    if st.length < na ∨ ¬ kd % 3 = ik then none else
    (match (if ik = 1 then some ((st.take na).reverse, st.drop na) else (match st.drop na with
      | .ref b :: r => (if ik = 0 then (match am_nth sh b with
        | some (.inl (cj, _)) => if cj = ci then some (.ref b :: (st.take na).reverse, r) else none
        | _ => none) else some (.ref b :: (st.take na).reverse, r))
      | _ => none)) with
    | some (as, r) => if 8 < r.length ∨ P.2.2.2.2.2.1 mj < as.length then none else some (.inr (.inr (mj, as, r)))
    | none => none)
  | some (3, _, _, _, _) => if ¬ ik = 2 then none else (match st with
    | .ref _ :: r => if 8 < r.length then none else am_nx (pc + 3) L r sh M
    | _ => none)
  | some (4, _, _, _, _) => if ¬ ik = 1 then none else (match st with
    | .int n :: .int dp :: .ref a :: .int sp :: .ref b :: r => (match am_nth sh a, am_nth sh b with
      | some (.inr (ta, na, _)), some (.inr (tb, nb, _)) => if 8 < r.length ∨ ¬ ta = 0 ∨ ¬ tb = 0 ∨ sp < 0 ∨ dp < 0 ∨ n < 0 ∨ nb < sp.toNatClampNeg + n.toNatClampNeg ∨ na < dp.toNatClampNeg + n.toNatClampNeg then none
        else am_nx (pc + 3) L r sh (am_set M a (va_cpy (M b) (M a) sp.toNatClampNeg dp.toNatClampNeg n.toNatClampNeg))
      | _, _ => none)
    | _ => none)
  | some (7, _, _, _, _) => if ¬ ik = 1 then none else (match st with
    | .int y :: .int x :: r => if 8 < r.length then none else am_nx (pc + 3) L (.int (if x < y then y else x) :: r) sh M
    | _ => none)
  | some (8, _, _, _, _) => if ¬ ik = 1 then none else (match st with
    | .int y :: .int x :: r => if 8 < r.length then none else am_nx (pc + 3) L (.int (if y < x then y else x) :: r) sh M
    | _ => none)
  | some (9, _, _, _, _) => if ¬ ik = 1 then none else (match st with
    | .int y :: .int x :: r => if 8 < r.length ∨ ¬ y = 16 ∨ x < 0 then none else am_nx (pc + 3) L (.int (x - x / 16 * 16) :: r) sh M
    | _ => none)
  | _ => none
/-- jumps, calls, returns -/
def am_oth (P : am_T) (mi pc : Nat) (i : am_I) (L : List (Option Value)) (st : List Value) (sh : List am_C) (M : am_M) : Option am_A := match i with
  | .ifCond c off => (match st, am_tg pc off with
    | .int x :: r, some t => am_nx (am_br c x 0 t (pc + 3)) L r sh M
    | _, _ => none)
  | .if_icmp c off => (match st, am_tg pc off with
    | .int y :: .int x :: r, some t => am_nx (am_br c x y t (pc + 3)) L r sh M
    | _, _ => none)
  | .goto off => (match am_tg pc off with
    | some t => am_nx t L st sh M
    | none => none)
  | .ineg => (match st with
    | .int x :: r => am_nx (pc + 1) L (.int (-x) :: r) sh M
    | _ => none)
  | .iinc j z => (match am_get L j with
    | some (.int x) => if j < L.length then am_nx (pc + 3) (L.set j (some (.int (x + Int32.ofInt z)))) st sh M else none
    | _ => none)
  | .tableswitch dflt lo hi offs => (match st with
    | .int x :: r => (match am_sw pc x (.tableswitch dflt lo hi offs) with
      | some t => am_nx t L r sh M
      | none => none)
    | _ => none)
  | .lookupswitch dflt ps => (match st with
    | .int x :: r => (match am_sw pc x (.lookupswitch dflt ps) with
      | some t => am_nx t L r sh M
      | none => none)
    | _ => none)
  | .invokevirtual ix => am_cal P mi pc ix 0 L st sh M
  | .invokestatic ix => am_cal P mi pc ix 1 L st sh M
  | .invokespecial ix => am_cal P mi pc ix 2 L st sh M
  | .ireturn => (match st, P.2.2.2.2.1 mi with
    | [.int x], some ty => if am_fit ty x then some (.inl (some (.int x), sh, M)) else none
    | _, _ => none)
  | .areturn => (match st, P.2.2.2.2.1 mi with
    | [.ref a], some (.object _) => some (.inl (some (.ref a), sh, M))
    | _, _ => none)
  | .return_ => (match st, P.2.2.2.2.1 mi with
    | [], none => some (.inl (none, sh, M))
    | _, _ => none)
  | _ => none
/-- one instruction i of n bytes -/
def am_ins (P : am_T) (mi pc : Nat) (i : am_I) (n : Nat) (L : List (Option Value)) (st : List Value) (sh : List am_C) (M : am_M) : Option am_A := match am_bin i with
  | some g => (match st with
    | .int y :: .int x :: r => (match g x y with
      | some z => am_nx (pc + 1) L (.int z :: r) sh M
      | none => none)
    | _ => none)
  | none => (match am_psh (P.2.2.1 mi) i with
  | some v => am_nx (pc + n) L (v :: st) sh M
  | none => (match am_ldi i with
  | some j => (match am_get L j with
    | some (.int x) => am_nx (pc + n) L (.int x :: st) sh M
    | _ => none)
  | none => (match am_lda i with
  | some j => (match am_get L j with
    | some (.ref a) => am_nx (pc + n) L (.ref a :: st) sh M
    | _ => none)
  | none => (match am_sti i with
  | some j => (match st with
    | .int x :: r => if j < L.length then am_nx (pc + n) (L.set j (some (.int x))) r sh M else none
    | _ => none)
  | none => (match am_sta i with
  | some j => (match st with
    | .ref a :: r => if j < L.length then am_nx (pc + n) (L.set j (some (.ref a))) r sh M else none
    | _ => none)
  | none => (match am_dup i st with
  | some st' => am_nx (pc + 1) L st' sh M
  | none => (match am_hp P mi i st sh M with
  | some (st', sh', M') => am_nx (pc + n) L st' sh' M'
  | none => am_oth P mi pc i L st sh M)))))))
def am_act (P : am_T) (mi pc : Nat) (L : List (Option Value)) (st : List Value) (sh : List am_C) (M : am_M) : Option am_A := match P.1 mi pc with
  | some (i, n) => am_ins P mi pc i n L st sh M
  | none => none
/-- one step; K goes on -/
def am_step (P : am_T) (K : am_K) : am_K := fun mi pc L st sh M => match am_act P mi pc L st sh M with
  | some (.inl r) => some r
  | some (.inr (.inl (pc', L', st', sh', M'))) => K mi pc' L' st' sh' M'
  | some (.inr (.inr (mj, as, rest))) => (match K mj 0 (am_ent (P.2.2.2.2.2.1 mj) as) [] sh M with
    | some (rv, sh', M') => K mi (pc + 3) L (rv.toList ++ rest) sh' M'
    | none => none)
  | none => none
def am_run (P : am_T) (f : Nat) : am_K := Nat.rec (fun _ _ _ _ _ _ => none) (fun _ ih => am_step P ih) f
theorem am_run_s (P : am_T) (f : Nat) : am_run P (f + 1) = am_step P (am_run P f) := rfl
theorem am_step_mono (P : am_T) {K K' : am_K} (h : ∀ mi pc L st sh M r, K mi pc L st sh M = some r → K' mi pc L st sh M = some r) (mi pc : Nat) (L : List (Option Value)) (st : List Value) (sh : List am_C) (M : am_M) (r : am_R) (hr : am_step P K mi pc L st sh M = some r) : am_step P K' mi pc L st sh M = some r := by
  unfold am_step at hr ⊢
  cases ha : am_act P mi pc L st sh M with
  | none => rw [ha] at hr; cases hr
  | some a =>
    rw [ha] at hr
    rcases a with r' | ⟨pc', L', st', sh', M'⟩ | ⟨mj, as, rest⟩
    · exact hr
    · exact h _ _ _ _ _ _ _ hr
    · dsimp only at hr ⊢
      cases hk : K mj 0 (am_ent (P.2.2.2.2.2.1 mj) as) [] sh M with
      | none => rw [hk] at hr; cases hr
      | some q =>
        rw [hk] at hr
        rw [h _ _ _ _ _ _ _ hk]
        exact h _ _ _ _ _ _ _ hr
theorem am_run_mono (P : am_T) : ∀ (f : Nat) (mi pc : Nat) (L : List (Option Value)) (st : List Value) (sh : List am_C) (M : am_M) (r : am_R), am_run P f mi pc L st sh M = some r → am_run P (f + 1) mi pc L st sh M = some r
  | 0, _, _, _, _, _, _, _, h => by cases h
  | f + 1, mi, pc, L, st, sh, M, r, h => am_step_mono P (am_run_mono P f) mi pc L st sh M r h
theorem am_run_le (P : am_T) {f f' : Nat} (hf : f ≤ f') {mi pc : Nat} {L : List (Option Value)} {st : List Value} {sh : List am_C} {M : am_M} {r : am_R} (h : am_run P f mi pc L st sh M = some r) : am_run P f' mi pc L st sh M = some r := by
  induction hf with
  | refl => exact h
  | step _ ih => exact am_run_mono P _ _ _ _ _ _ _ _ ih
/-- the small machine comes to the answer r -/
def am_ev (P : am_T) (mi pc : Nat) (L : List (Option Value)) (st : List Value) (sh : List am_C) (M : am_M) (r : am_R) : Prop := ∃ f, am_run P f mi pc L st sh M = some r
theorem am_ev_ret {P : am_T} {mi pc : Nat} {L : List (Option Value)} {st : List Value} {sh : List am_C} {M : am_M} {r : am_R} (h : am_act P mi pc L st sh M = some (.inl r)) : am_ev P mi pc L st sh M r := by
  refine ⟨1, ?_⟩
  show am_step P _ mi pc L st sh M = _
  unfold am_step
  rw [h]
theorem am_ev_nx {P : am_T} {mi pc pc' : Nat} {L L' : List (Option Value)} {st st' : List Value} {sh sh' : List am_C} {M M' : am_M} {r : am_R} (h : am_act P mi pc L st sh M = some (.inr (.inl (pc', L', st', sh', M')))) (k : am_ev P mi pc' L' st' sh' M' r) : am_ev P mi pc L st sh M r := by
  obtain ⟨f, k⟩ := k
  refine ⟨f + 1, ?_⟩
  show am_step P _ mi pc L st sh M = _
  unfold am_step
  rw [h]
  exact k
theorem am_ev_call {P : am_T} {mi pc mj : Nat} {L : List (Option Value)} {st as rest : List Value} {sh sh' : List am_C} {M M' : am_M} {rv : Option Value} {r : am_R} (h : am_act P mi pc L st sh M = some (.inr (.inr (mj, as, rest)))) (k1 : am_ev P mj 0 (am_ent (P.2.2.2.2.2.1 mj) as) [] sh M (rv, sh', M')) (k : am_ev P mi (pc + 3) L (rv.toList ++ rest) sh' M' r) : am_ev P mi pc L st sh M r := by
  obtain ⟨f1, k1⟩ := k1
  obtain ⟨f, k⟩ := k
  refine ⟨max f1 f + 1, ?_⟩
  show am_step P _ mi pc L st sh M = _
  unfold am_step
  rw [h]
  show (match am_run P (max f1 f) mj 0 (am_ent (P.2.2.2.2.2.1 mj) as) [] sh M with
    | some (rv, sh', M') => am_run P (max f1 f) mi (pc + 3) L (rv.toList ++ rest) sh' M'
    | none => none) = some r
  rw [am_run_le P (Nat.le_max_left f1 f) k1]
  exact am_run_le P (Nat.le_max_right f1 f) k
/-- several instructions that go straight on -/
def am_go (P : am_T) (mi : Nat) : Nat → am_N → Option am_N
  | 0, q => some q
  | n + 1, q => (match am_act P mi q.1 q.2.1 q.2.2.1 q.2.2.2.1 q.2.2.2.2 with
    | some (.inr (.inl q')) => am_go P mi n q'
    | _ => none)
theorem am_ev_go {P : am_T} {mi : Nat} : ∀ (n : Nat) {pc pc' : Nat} {L L' : List (Option Value)} {st st' : List Value} {sh sh' : List am_C} {M M' : am_M} {r : am_R}, am_go P mi n (pc, L, st, sh, M) = some (pc', L', st', sh', M') → am_ev P mi pc' L' st' sh' M' r → am_ev P mi pc L st sh M r
  | 0, _, _, _, _, _, _, _, _, _, _, _, h, k => by cases h; exact k
  | n + 1, pc, pc', L, L', st, st', sh, sh', M, M', r, h, k => by
    unfold am_go at h
    dsimp only at h
    split at h
    case h_2 => cases h
    case h_1 q' hq => exact am_ev_nx hq (am_ev_go n h k)
end
section
/-! The world of the small machine: handles, addresses, cells -/
def am_ad (ra : Nat → Nat) (ws : va_W) (k : Nat) : Nat := match ws[k]? with
  | some q => q.1
  | none => ra k
def am_tv (ra : Nat → Nat) (ws : va_W) (v : Value) : Value := match v with
  | .ref k => .ref (am_ad ra ws k)
  | w => w
def am_ok (n : Nat) (v : Value) : Prop := match v with
  | .int _ => True
  | .null => True
  | .ref k => k < n ∨ 1048576 ≤ k
  | _ => False
theorem am_ok.mono {n n' : Nat} (h : n ≤ n') {v : Value} (hv : am_ok n v) : am_ok n' v := by
  cases v with
  | ref k => exact hv.elim (fun q => Or.inl (Nat.lt_of_lt_of_le q h)) Or.inr
  | _ => exact hv
theorem am_ok.cat {n : Nat} {v : Value} (hv : am_ok n v) : v.category = 1 := by
  cases v <;> simp only [am_ok] at hv <;> rfl
theorem am_tv_cat {ra : Nat → Nat} {ws : va_W} {v : Value} : (am_tv ra ws v).category = v.category := by
  cases v <;> rfl
def am_ex (ra : Nat → Nat) (ws ws' : va_W) : Prop := ws.length ≤ ws'.length ∧ ws'.length ≤ 1048576 ∧ ∀ k, k < ws.length → am_ad ra ws' k = am_ad ra ws k
theorem am_ex.rf {ra : Nat → Nat} {ws : va_W} (h : ws.length ≤ 1048576) : am_ex ra ws ws := ⟨Nat.le_refl _, h, fun _ _ => rfl⟩
theorem am_ex.tr {ra : Nat → Nat} {w1 w2 w3 : va_W} (h : am_ex ra w1 w2) (h' : am_ex ra w2 w3) : am_ex ra w1 w3 :=
  ⟨Nat.le_trans h.1 h'.1, h'.2.1, fun k hk => (h'.2.2 k (Nat.lt_of_lt_of_le hk h.1)).trans (h.2.2 k hk)⟩
theorem am_ad_big {ra : Nat → Nat} {ws : va_W} {k : Nat} (h : ws.length ≤ k) : am_ad ra ws k = ra k := by
  unfold am_ad
  rw [List.getElem?_eq_none h]
theorem am_ad_at {ra : Nat → Nat} {ws : va_W} {k a : Nat} {e : va_E} (h : ws[k]? = some (a, e)) : am_ad ra ws k = a := by
  unfold am_ad
  rw [h]
theorem am_ex.tv {ra : Nat → Nat} {ws ws' : va_W} (h : am_ex ra ws ws') {v : Value} (hv : am_ok ws.length v) : am_tv ra ws' v = am_tv ra ws v := by
  cases v with
  | ref k =>
    simp only [am_tv]
    rcases hv with hk | hk
    · rw [h.2.2 k hk]
    · rw [am_ad_big (Nat.le_trans h.2.1 hk), am_ad_big (Nat.le_trans h.1 (Nat.le_trans h.2.1 hk))]
  | _ => rfl
theorem am_ex.tvs {ra : Nat → Nat} {ws ws' : va_W} (h : am_ex ra ws ws') : ∀ {st : List Value}, (∀ v ∈ st, am_ok ws.length v) → st.map (am_tv ra ws') = st.map (am_tv ra ws)
  | [], _ => rfl
  | v :: r, hv => by
    rw [List.map_cons, List.map_cons, h.tv (hv v List.mem_cons_self), h.tvs (fun w hw => hv w (List.mem_cons_of_mem _ hw))]
theorem am_ad_set {ra : Nat → Nat} {ws : va_W} {q a : Nat} {e0 e : va_E} (h : ws[q]? = some (a, e0)) (k : Nat) : am_ad ra (ws.set q (a, e)) k = am_ad ra ws k := by
  unfold am_ad
  by_cases hk : q = k
  · subst hk
    rw [List.getElem?_set_self (List.getElem?_eq_some_iff.mp h).1, h]
  · rw [List.getElem?_set_ne hk]
theorem am_ad_push {ra : Nat → Nat} {ws : va_W} {x : Nat × va_E} {k : Nat} (h : k < ws.length) : am_ad ra (ws ++ [x]) k = am_ad ra ws k := by
  unfold am_ad
  rw [List.getElem?_append_left h]
theorem am_ad_new {ra : Nat → Nat} {ws : va_W} {x : Nat × va_E} : am_ad ra (ws ++ [x]) ws.length = x.1 := by
  unfold am_ad
  rw [List.getElem?_append_right (Nat.le_refl _), Nat.sub_self]
  rfl
/-- a cell of the small machine, whose ints are f, and a cell of the kit's world -/
def am_ce (cl : List vw_C) (ra : Nat → Nat) (ws : va_W) (tys : List (ClassId × FieldType)) (f : Nat → Int32) (c : am_C) (e : va_E) : Prop := match c with
  | .inl o => ∃ vs : List Value, e = .inr (o.1, vs) ∧ vs.length = o.2.length ∧ (∀ j : Nat, o.2[j]? = some none → vs[j]? = some (.int (f j))) ∧ ∀ (j : Nat) (v : Value), o.2[j]? = some (some v) → vs[j]? = some (am_tv ra ws v) ∧ am_ok ws.length v
  | .inr a => ∃ (cA : ClassId) (t0 : Nat), (a.1 = 0 ∧ tys[t0]? = some (cA, FieldType.int) ∧ e = .inl (cA, a.2.1, .inl f)) ∨ (a.1 = 1 ∧ tys[t0]? = some (cA, FieldType.boolean) ∧ e = .inl (cA, a.2.1, .inl f)) ∨
    ∃ (ci : Nat) (r : vw_C), a.1 = ci + 2 ∧ cl[ci]? = some r ∧ tys[t0]? = some (cA, FieldType.object r.1) ∧ e = .inl (cA, a.2.1, .inr (.inr (.inr (.inr (fun j => (a.2.2 j).map (am_ad ra ws)))))) ∧ ∀ (j b : Nat), a.2.2 j = some b → b < ws.length
theorem am_ce.ex {cl : List vw_C} {ra : Nat → Nat} {ws ws' : va_W} {tys tys' : List (ClassId × FieldType)} {f : Nat → Int32} {c : am_C} {e : va_E} (h : am_ce cl ra ws tys f c e) (hx : am_ex ra ws ws') (ht : ∀ (k : Nat) (x : ClassId × FieldType), tys[k]? = some x → tys'[k]? = some x) : am_ce cl ra ws' tys' f c e := by
  cases c with
  | inl o =>
    obtain ⟨vs, h1, h2, h3, h4⟩ := h
    refine ⟨vs, h1, h2, h3, fun j v hj => ?_⟩
    obtain ⟨h5, h6⟩ := h4 j v hj
    exact ⟨by rw [hx.tv h6]; exact h5, h6.mono hx.1⟩
  | inr a =>
    obtain ⟨cA, t0, h⟩ := h
    refine ⟨cA, t0, ?_⟩
    rcases h with ⟨h1, h2, h3⟩ | ⟨h1, h2, h3⟩ | ⟨ci, r, h1, h2, h3, h4, h5⟩
    · exact Or.inl ⟨h1, ht _ _ h2, h3⟩
    · exact Or.inr (Or.inl ⟨h1, ht _ _ h2, h3⟩)
    · refine Or.inr (Or.inr ⟨ci, r, h1, h2, ht _ _ h3, ?_, fun j b hb => Nat.lt_of_lt_of_le (h5 j b hb) hx.1⟩)
      rw [h4]
      congr 7
      funext j
      cases hj : a.2.2 j with
      | none => rfl
      | some b =>
        show some (am_ad ra ws b) = some (am_ad ra ws' b)
        rw [hx.2.2 b (h5 j b hj)]
def am_W (cl : List vw_C) (ra : Nat → Nat) (ws : va_W) (tys : List (ClassId × FieldType)) (sh : List am_C) (M : am_M) : Prop :=
  ws.length = sh.length ∧ sh.length ≤ 1048576 ∧ ∀ (k : Nat) (c : am_C), sh[k]? = some c → ∃ (a : Nat) (e : va_E), ws[k]? = some (a, e) ∧ am_ce cl ra ws tys (M k) c e
theorem am_W.set {cl : List vw_C} {ra : Nat → Nat} {ws : va_W} {tys : List (ClassId × FieldType)} {sh : List am_C} {M M' : am_M} {q a : Nat} {e0 e : va_E} {c : am_C} (h : am_W cl ra ws tys sh M) (hq : ws[q]? = some (a, e0)) (hce : am_ce cl ra ws tys (M' q) c e) (hM : ∀ k, k ≠ q → M' k = M k) :
    am_W cl ra (ws.set q (a, e)) tys (sh.set q c) M' ∧ am_ex ra ws (ws.set q (a, e)) := by
  have hx : am_ex ra ws (ws.set q (a, e)) := ⟨by rw [List.length_set]; exact Nat.le_refl _, by rw [List.length_set, h.1]; exact h.2.1, fun k _ => am_ad_set hq k⟩
  refine ⟨⟨by rw [List.length_set, List.length_set]; exact h.1, by rw [List.length_set]; exact h.2.1, fun k c' hk => ?_⟩, hx⟩
  have hl := (List.getElem?_eq_some_iff.mp hq).1
  by_cases hkq : q = k
  · subst hkq
    rw [List.getElem?_set_self (by rw [← h.1]; exact hl)] at hk
    cases hk
    exact ⟨a, e, List.getElem?_set_self hl, hce.ex hx (fun _ _ z => z)⟩
  · rw [List.getElem?_set_ne hkq] at hk
    obtain ⟨a', e', h1, h2⟩ := h.2.2 k c' hk
    exact ⟨a', e', by rw [List.getElem?_set_ne hkq]; exact h1, by rw [hM k (Ne.symm hkq)]; exact h2.ex hx (fun _ _ z => z)⟩
theorem am_set_same {α : Type} {l : List α} {q : Nat} {c : α} (h : l[q]? = some c) : l.set q c = l := by
  apply List.ext_getElem?
  intro k
  by_cases hk : q = k
  · subst hk
    rw [List.getElem?_set_self (List.getElem?_eq_some_iff.mp h).1, h]
  · rw [List.getElem?_set_ne hk]
theorem am_W.put {cl : List vw_C} {ra : Nat → Nat} {ws : va_W} {tys : List (ClassId × FieldType)} {sh : List am_C} {M M' : am_M} {q a : Nat} {e0 e : va_E} {c : am_C} (h : am_W cl ra ws tys sh M) (hc : sh[q]? = some c) (hq : ws[q]? = some (a, e0)) (hce : am_ce cl ra ws tys (M' q) c e) (hM : ∀ k, k ≠ q → M' k = M k) :
    am_W cl ra (ws.set q (a, e)) tys sh M' ∧ am_ex ra ws (ws.set q (a, e)) := by
  have := am_W.set h hq hce hM
  rwa [am_set_same hc] at this
theorem am_W.push {cl : List vw_C} {ra : Nat → Nat} {ws : va_W} {tys tl : List (ClassId × FieldType)} {sh : List am_C} {M M' : am_M} {a : Nat} {e : va_E} {c : am_C} (h : am_W cl ra ws tys sh M) (hlen : ¬ 1048576 ≤ sh.length + 1) (hM : ∀ k, k ≠ sh.length → M' k = M k)
    (hce : am_ex ra ws (ws ++ [(a, e)]) → am_ce cl ra (ws ++ [(a, e)]) (tys ++ tl) (M' sh.length) c e) :
    am_W cl ra (ws ++ [(a, e)]) (tys ++ tl) (sh ++ [c]) M' ∧ am_ex ra ws (ws ++ [(a, e)]) := by
  have hx : am_ex ra ws (ws ++ [(a, e)]) := ⟨by rw [List.length_append]; omega, by rw [List.length_append, h.1]; show sh.length + 1 ≤ _; omega, fun k hk => am_ad_push hk⟩
  refine ⟨⟨by rw [List.length_append, List.length_append, h.1]; rfl, by rw [List.length_append]; show sh.length + 1 ≤ _; omega, fun k c' hk => ?_⟩, hx⟩
  by_cases hkl : k < sh.length
  · rw [List.getElem?_append_left hkl] at hk
    obtain ⟨a', e', h1, h2⟩ := h.2.2 k c' hk
    refine ⟨a', e', by rw [List.getElem?_append_left (by rw [h.1]; exact hkl)]; exact h1, ?_⟩
    rw [hM k (by omega)]
    refine h2.ex hx (fun t x ht => ?_)
    rw [List.getElem?_append_left (List.getElem?_eq_some_iff.mp ht).1]
    exact ht
  · rw [List.getElem?_append_right (by omega)] at hk
    have hz : k - sh.length < 1 := (List.getElem?_eq_some_iff.mp hk).1
    have hk0 : k = sh.length := by omega
    subst hk0
    rw [Nat.sub_self] at hk
    cases hk
    refine ⟨a, e, ?_, hce hx⟩
    rw [List.getElem?_append_right (by rw [h.1]; exact Nat.le_refl _), h.1, Nat.sub_self]
    rfl
def am_sc (c : am_C) : Nat := match c with
  | .inl o => o.2.length
  | .inr a => a.2.1
def am_sz : List am_C → Nat
  | [] => 0
  | c :: r => am_sc c + am_sz r
theorem am_sz_push : ∀ (sh : List am_C) (c : am_C), am_sz (sh ++ [c]) = am_sz sh + am_sc c
  | [], c => by simp [am_sz]
  | a :: r, c => by
    show am_sc a + am_sz (r ++ [c]) = am_sc a + am_sz r + am_sc c
    rw [am_sz_push r c]
    omega
theorem am_sz_set : ∀ (sh : List am_C) (k : Nat) (c c' : am_C), sh[k]? = some c → am_sc c' = am_sc c → am_sz (sh.set k c') = am_sz sh
  | [], k, c, c', h, _ => by simp at h
  | a :: r, 0, c, c', h, hs => by
    simp at h
    subst h
    show am_sc c' + am_sz r = am_sc a + am_sz r
    rw [hs]
  | a :: r, k + 1, c, c', h, hs => by
    show am_sc a + am_sz (r.set k c') = am_sc a + am_sz r
    rw [am_sz_set r k c c' (by simpa using h) hs]
/-- the locals -/
def am_L (ra : Nat → Nat) (ws : va_W) (nL : Nat) (L : List (Option Value)) (ls : Array Slot) : Prop :=
  ls.size = nL ∧ lv_wf ls ∧ L.length = nL ∧ ∀ (j : Nat) (v : Value), L[j]? = some (some v) → ls[j]? = some (.val (am_tv ra ws v)) ∧ am_ok ws.length v
theorem am_L.ex {ra : Nat → Nat} {ws ws' : va_W} {nL : Nat} {L : List (Option Value)} {ls : Array Slot} (h : am_L ra ws nL L ls) (hx : am_ex ra ws ws') : am_L ra ws' nL L ls :=
  ⟨h.1, h.2.1, h.2.2.1, fun j v hj => ⟨by rw [hx.tv (h.2.2.2 j v hj).2]; exact (h.2.2.2 j v hj).1, (h.2.2.2 j v hj).2.mono hx.1⟩⟩
def am_pr (ra : Nat → Nat) (ws : va_W) : Nat → List (Option Value) → List (Nat × Value)
  | _, [] => []
  | i, none :: r => am_pr ra ws (i + 1) r
  | i, some v :: r => (i, am_tv ra ws v) :: am_pr ra ws (i + 1) r
theorem am_pr_mem {ra : Nat → Nat} {ws : va_W} : ∀ (L : List (Option Value)) (i : Nat) (q : Nat × Value), q ∈ am_pr ra ws i L ↔ ∃ (j : Nat) (v : Value), L[j]? = some (some v) ∧ q = (i + j, am_tv ra ws v)
  | [], i, q => by simp [am_pr]
  | none :: r, i, q => by
    rw [am_pr, am_pr_mem r (i + 1) q]
    constructor
    · rintro ⟨j, v, h1, h2⟩
      exact ⟨j + 1, v, by simpa using h1, by rw [h2]; congr 1; omega⟩
    · rintro ⟨j, v, h1, h2⟩
      cases j with
      | zero => simp at h1
      | succ j => exact ⟨j, v, by simpa using h1, by rw [h2]; congr 1; omega⟩
  | some w :: r, i, q => by
    rw [am_pr, List.mem_cons, am_pr_mem r (i + 1) q]
    constructor
    · rintro (h | ⟨j, v, h1, h2⟩)
      · exact ⟨0, w, by simp, by rw [h]; rfl⟩
      · exact ⟨j + 1, v, by simpa using h1, by rw [h2]; congr 1; omega⟩
    · rintro ⟨j, v, h1, h2⟩
      cases j with
      | zero =>
        simp at h1
        subst h1
        exact Or.inl h2
      | succ j => exact Or.inr ⟨j, v, by simpa using h1, by rw [h2]; congr 1; omega⟩
theorem am_L.has {ra : Nat → Nat} {ws : va_W} {nL : Nat} {L : List (Option Value)} {ls : Array Slot} (h : am_L ra ws nL L ls) : lv_has ls nL (am_pr ra ws 0 L) := by
  refine ⟨h.1, h.2.1, fun q hq => ?_⟩
  obtain ⟨j, v, h1, rfl⟩ := (am_pr_mem L 0 q).mp hq
  show ls[0 + j]? = _
  rw [Nat.zero_add]
  exact (h.2.2.2 j v h1).1
theorem am_L.store {ra : Nat → Nat} {ws : va_W} {nL i : Nat} {L : List (Option Value)} {ls ls' : Array Slot} {x : Value} (h : am_L ra ws nL L ls) (hx : am_ok ws.length x)
    (hh : lv_has ls' nL ((i, am_tv ra ws x) :: (am_pr ra ws 0 L).filter (fun q => !(q.1 == i) && !(q.1 + 1 == i && q.2.category == 2)))) : am_L ra ws nL (L.set i (some x)) ls' := by
  refine ⟨hh.1, hh.2.1, by rw [List.length_set]; exact h.2.2.1, fun j v hj => ?_⟩
  by_cases hij : i = j
  · subst hij
    have hl : i < L.length := by
      have := (List.getElem?_eq_some_iff.mp hj).1
      rwa [List.length_set] at this
    rw [List.getElem?_set_self hl] at hj
    cases hj
    exact ⟨hh.2.2 (i, am_tv ra ws x) List.mem_cons_self, hx⟩
  · rw [List.getElem?_set_ne hij] at hj
    have hv := (h.2.2.2 j v hj).2
    refine ⟨hh.2.2 (j, am_tv ra ws v) (List.mem_cons_of_mem _ (List.mem_filter.mpr ⟨(am_pr_mem L 0 _).mpr ⟨j, v, hj, by rw [Nat.zero_add]⟩, ?_⟩)), hv⟩
    have hc : (am_tv ra ws v).category = 1 := by rw [am_tv_cat]; exact hv.cat
    simp [hc, Ne.symm hij]
theorem am_L.get {ra : Nat → Nat} {ws : va_W} {nL j : Nat} {L : List (Option Value)} {ls : Array Slot} {v : Value} (h : am_L ra ws nL L ls) (hg : am_get L j = some v) : ls[j]? = some (.val (am_tv ra ws v)) ∧ am_ok ws.length v := by
  refine h.2.2.2 j v ?_
  unfold am_get at hg
  rw [am_nth_eq] at hg
  cases hj : L[j]? with
  | none => rw [hj] at hg; cases hg
  | some o => rw [hj] at hg; cases hg; rfl
theorem am_sl_len : ∀ (vs : List Value), (∀ v ∈ vs, v.category = 1) → (lg_sl vs).length = vs.length
  | [], _ => rfl
  | v :: r, h => by
    have h1 := h v List.mem_cons_self
    have h2 := am_sl_len r (fun w hw => h w (List.mem_cons_of_mem _ hw))
    simp only [lg_sl, List.flatMap_cons, h1] at h2 ⊢
    simp at h2 ⊢
    omega
theorem am_args_mem : ∀ (vs : List Value) (i j : Nat) (v : Value), (∀ v ∈ vs, v.category = 1) → vs[j]? = some v → (i + j, v) ∈ lv_args i vs
  | [], i, j, v, _, h => by simp at h
  | w :: r, i, 0, v, hc, h => by
    simp at h
    subst h
    exact List.mem_cons_self
  | w :: r, i, j + 1, v, hc, h => by
    rw [lv_args]
    refine List.mem_cons_of_mem _ ?_
    have h1 : ¬ w.category = 2 := by rw [hc w List.mem_cons_self]; decide
    rw [if_neg h1]
    have := am_args_mem r (i + 1) j v (fun u hu => hc u (List.mem_cons_of_mem _ hu)) (by simpa using h)
    rwa [show i + 1 + j = i + (j + 1) by omega] at this
theorem am_L.entry {ra : Nat → Nat} {ws : va_W} {n : Nat} {as : List Value} {ls : Array Slot} (hn : ¬ n < as.length) (ho : ∀ v ∈ as, am_ok ws.length v) (h : lv_has ls n (lv_args 0 (as.map (am_tv ra ws)))) : am_L ra ws n (am_ent n as) ls := by
  refine ⟨h.1, h.2.1, by simp [am_ent]; omega, fun j v hj => ?_⟩
  unfold am_ent at hj
  by_cases hjl : j < as.length
  · rw [List.getElem?_append_left (by simpa using hjl), List.getElem?_map] at hj
    cases hv : as[j]? with
    | none => rw [hv] at hj; cases hj
    | some w =>
      rw [hv] at hj
      cases hj
      refine ⟨?_, ho v (List.mem_of_getElem? hv)⟩
      have := h.2.2 (0 + j, am_tv ra ws v) (am_args_mem _ 0 j _ (fun u hu => ?_) (by rw [List.getElem?_map, hv]; rfl))
      · rwa [Nat.zero_add] at this
      · obtain ⟨u', hu', rfl⟩ := List.mem_map.mp hu
        rw [am_tv_cat]
        exact (ho u' hu').cat
  · rw [List.getElem?_append_right (by simpa using hjl)] at hj
    have := List.mem_of_getElem? hj
    simp at this
end
section
/-! The small machine's rows: each instruction, out of the kit's row of it -/
/-- names beside the tables: words of the tables, words of nest mates, code, method names, static fields, classes of reference arrays, the frames and the words of the stack that a method wants -/
abbrev am_X : Type := List Cond × List Cond × (Nat → ByteArray) × (Nat → MethodName) × (Nat → String × String × String) × List String × (Nat → Nat) × (Nat → Nat)
def am_gC (P : am_T) (X : am_X) : Prop := ∀ (mi pc : Nat) (i : am_I) (n : Nat), P.1 mi pc = some (i, n) → decode (X.2.2.1 mi) pc = .ok (i, n) ∧ (am_len i = 0 ∨ n = am_len i)
def am_gL (P : am_T) (X : am_X) (cl : List vw_C) : Prop := ∀ (ci : Nat) (C : String) (T : u_T) (N : Nat), cl[ci]? = some (C, T, N) → (P.2.2.2.1 ci).length = N ∧ (∀ k, k < N → parseFieldDescriptor (T k).2.2.1 = some ((P.2.2.2.1 ci).getD k .int)) ∧ (∀ a, a < N → ∀ b, b < N → a ≠ b → (T a).2.1 ≠ (T b).2.1) ∧ (∀ w ∈ u_ws C T N, w ∈ X.1) ∧ ∀ ty ∈ P.2.2.2.1 ci, ty = .int ∨ ty = .boolean ∨ am_rty ty = true
def am_gF (P : am_T) (X : am_X) (cl : List vw_C) : Prop := ∀ (mi ix ci k z u : Nat), P.2.1 mi ix = some (0, ci, k, z, u) → ∃ (C : String) (T : u_T) (N : Nat), cl[ci]? = some (C, T, N) ∧ k < N ∧
  (Cond.fieldLink (X.2.2.2.1 mi).cls ix (T k).1 (T k).2.1 (T k).2.2.1 ∈ X.1 ∨ ∃ host, Cond.fieldLinkNest (X.2.2.2.1 mi).cls ix (T k).1 (T k).2.1 (T k).2.2.1 host ∈ X.2.1) ∧
  (u = 0 → (T k).2.2.2 = false ∨ ((T k).2.2.2 = true ∧ Cond.fieldLink (X.2.2.2.1 mi).cls ix (T k).1 (T k).2.1 (T k).2.2.1 ∈ X.1 ∧ (X.2.2.2.1 mi).name = "<init>" ∧ (T k).1 = (X.2.2.2.1 mi).cls))
def am_gS (P : am_T) (X : am_X) : Prop := ∀ (mi ix j z u v : Nat), P.2.1 mi ix = some (1, j, z, u, v) → P.2.2.2.2.2.2 (1048576 + j) ≠ none ∧ (X.2.2.2.2.1 j).1 ≠ "" ∧
  (Cond.fieldLink (X.2.2.2.1 mi).cls ix (X.2.2.2.2.1 j).1 (X.2.2.2.2.1 j).2.1 (X.2.2.2.2.1 j).2.2 ∈ X.1 ∨ ∃ host, Cond.fieldLinkNest (X.2.2.2.1 mi).cls ix (X.2.2.2.2.1 j).1 (X.2.2.2.2.1 j).2.1 (X.2.2.2.2.1 j).2.2 host ∈ X.2.1)
def am_gN (P : am_T) (X : am_X) (cl : List vw_C) : Prop := (∀ (mi ix ci z u v : Nat), P.2.1 mi ix = some (5, ci, z, u, v) → ∃ (C : String) (T : u_T) (N : Nat), cl[ci]? = some (C, T, N) ∧ Cond.classLink (X.2.2.2.1 mi).cls ix C ∈ X.1 ∧ Cond.instantiable C N ∈ X.1 ∧ Cond.initialized C ∈ X.1) ∧
  (∀ (mi ix ci z u v : Nat), P.2.1 mi (ix + 100000) = some (6, ci, z, u, v) → ∃ (C : String) (T : u_T) (N : Nat), cl[ci]? = some (C, T, N) ∧ Cond.classLink (X.2.2.2.1 mi).cls ix C ∈ X.1 ∧ C ∈ X.2.2.2.2.2.1) ∧ Cond.arrayClass .int ∈ X.1 ∧ Cond.arrayClass .boolean ∈ X.1 ∧
  ∀ (mi ix : Nat) (z : Int32), P.2.2.1 mi ix = some z → Cond.constant (X.2.2.2.1 mi).cls ix z ∈ X.1
def am_gM (P : am_T) (X : am_X) (cl : List vw_C) : Prop := (∀ w ∈ X.1, (w.onTables && w.keeps) = true ∨ ∃ ty, w = .arrayClass ty) ∧
  (∀ w ∈ X.2.1, (∃ a i b n d h, w = Cond.fieldLinkNest a i b n d h) ∨ ∃ a i x h, w = Cond.methodLinkNest a i x h) ∧
  (∀ (mi ix mj na kd ci : Nat), P.2.1 mi ix = some (2, mj, na, kd, ci) → Cond.code (X.2.2.2.1 mj) (X.2.2.1 mj) (P.2.2.2.2.2.1 mj) (P.2.2.2.2.1 mj) ∈ X.1 ∧ plainName (X.2.2.2.1 mj).cls = true ∧ X.2.2.2.2.2.2.1 mj + 1 ≤ X.2.2.2.2.2.2.1 mi ∧ 8 + (P.2.2.2.2.2.1 mj + 11) + X.2.2.2.2.2.2.2 mj ≤ X.2.2.2.2.2.2.2 mi ∧ Cond.initialized (X.2.2.2.1 mj).cls ∈ X.1 ∧
    ((X.2.2.2.1 mj).cls ≠ "java/lang/invoke/MethodHandle" ∧ (X.2.2.2.1 mj).cls ≠ "java/lang/invoke/VarHandle" ∧ (parseMethodDescriptor (X.2.2.2.1 mj).desc).map (fun d => d.parameters.length) = some na) ∧
    (Cond.methodLink (X.2.2.2.1 mi).cls ix (X.2.2.2.1 mj) ∈ X.1 ∨ ∃ host, Cond.methodLinkNest (X.2.2.2.1 mi).cls ix (X.2.2.2.1 mj) host ∈ X.2.1) ∧
    (kd % 3 = 0 → Cond.instanceMethod (X.2.2.2.1 mj) ∈ X.1 ∧ Cond.selects (X.2.2.2.1 mj).cls (X.2.2.2.1 mj) (X.2.2.2.1 mj) ∈ X.1 ∧ ∃ (T : u_T) (N : Nat), cl[ci]? = some ((X.2.2.2.1 mj).cls, T, N)) ∧
    (kd % 3 = 1 → Cond.static (X.2.2.2.1 mj) ∈ X.1) ∧
    (kd % 3 = 2 → Cond.instanceMethod (X.2.2.2.1 mj) ∈ X.1 ∧ (X.2.2.2.1 mj).name = "<init>" ∧ P.2.2.2.2.1 mj = none)) ∧
  (∀ (mi ix z u v w : Nat), P.2.1 mi ix = some (3, z, u, v, w) → Cond.methodLink (X.2.2.2.1 mi).cls ix Lib.objectInit ∈ X.1 ∧ Cond.instanceMethod Lib.objectInit ∈ X.1 ∧ Cond.code Lib.objectInit ⟨#[0xb1]⟩ 1 none ∈ X.1 ∧ 1 ≤ X.2.2.2.2.2.2.1 mi ∧ 20 ≤ X.2.2.2.2.2.2.2 mi) ∧
  (∀ (mi ix z u v w : Nat), P.2.1 mi ix = some (4, z, u, v, w) → Cond.methodLink (X.2.2.2.1 mi).cls ix arraycopyName ∈ X.1 ∧ Cond.native arraycopyName ∈ X.1 ∧ Cond.static arraycopyName ∈ X.1 ∧ Cond.initialized "java/lang/System" ∈ X.1 ∧ 1 ≤ X.2.2.2.2.2.2.1 mi ∧ 8 + (nativeFrameWords "java/lang/System" "arraycopy" 5 + 11) ≤ X.2.2.2.2.2.2.2 mi) ∧
  (∀ (mi ix k z u v w : Nat), P.2.1 mi ix = some (k, z, u, v, w) → 7 ≤ k → k ≤ 9 → Cond.initialized "java/lang/Math" ∈ X.1 ∧ 1 ≤ X.2.2.2.2.2.2.1 mi ∧ 22 ≤ X.2.2.2.2.2.2.2 mi ∧
    (k = 7 → Cond.methodLink (X.2.2.2.1 mi).cls ix Lib.Math.max.name ∈ X.1 ∧ Cond.static Lib.Math.max.name ∈ X.1 ∧ Cond.code Lib.Math.max.name Lib.Math.max.code 2 (some .int) ∈ X.1) ∧
    (k = 8 → Cond.methodLink (X.2.2.2.1 mi).cls ix Lib.Math.min.name ∈ X.1 ∧ Cond.static Lib.Math.min.name ∈ X.1 ∧ Cond.code Lib.Math.min.name Lib.Math.min.code 2 (some .int) ∈ X.1) ∧
    (k = 9 → Cond.methodLink (X.2.2.2.1 mi).cls ix fm_y ∈ X.1 ∧ Cond.static fm_y ∈ X.1 ∧ Cond.code fm_y prog_14_method_50_code 3 (some .int) ∈ X.1))
def am_G (P : am_T) (X : am_X) (cl : List vw_C) : Prop := am_gC P X ∧ am_gL P X cl ∧ am_gF P X cl ∧ am_gS P X ∧ am_gN P X cl ∧ am_gM P X cl
/-- what holds at a method's entry beside its world -/
def am_E (P : am_T) (X : am_X) (ra : Nat → Nat) (A : Nat → Prop) (U : State) (H : Heap) : Prop := (∀ w ∈ X.2.1, va_Nw w U) ∧
  (∀ j, P.2.2.2.2.2.2 (1048576 + j) ≠ none → ∀ C n d, X.2.2.2.2.1 j = (C, n, d) → C ≠ "" → va_Z C n d (.ref (ra (1048576 + j))) A U H) ∧
  (∀ (k n : Nat) (f : Nat → Int32), P.2.2.2.2.2.2 k = some (n, f) → va_X (ra k) n f U H ∧ ra k < H.size ∧ ¬ A (ra k)) ∧ (∀ C ∈ X.2.2.2.2.2.1, va_AO C U)
/-- what holds in a method's frame -/
def am_F (P : am_T) (X : am_X) (mi : Nat) (p : Program) (R : Room) (s : State) (m : MethodId) (args : Array Value) (meth : Method) (c : Code) : Prop :=
  p.tables.exec = Jvm.exec ∧ c.code = X.2.2.1 mi ∧ c.maxLocals = P.2.2.2.2.2.1 mi ∧ meth.sig.returnType = P.2.2.2.2.1 mi ∧ meth.locks = false ∧ (∀ w ∈ X.1, w.before args s = true) ∧ s.vm.findClass (X.2.2.2.1 mi).cls = some m.cls ∧ meth.name = (X.2.2.2.1 mi).name ∧ X.2.2.2.2.2.2.1 mi ≤ R.frames ∧ X.2.2.2.2.2.2.2 mi ≤ R.locals
def am_Wo (D : va_G) (cl : List vw_C) (ra : Nat → Nat) (A : Nat → Prop) (s : State) (H : Heap) (locs : List Loc) (ws : va_W) (tys : List (ClassId × FieldType)) (sh : List am_C) (M : am_M) : Prop :=
  am_W cl ra ws tys sh M ∧ va_P D cl ws H ∧ va_D A ws ∧ va_K D cl tys s ∧ va_S A s.heap H locs ∧ ∀ q, s.heap.size ≤ q → A q
section AMR
variable {P : am_T} {X : am_X} {D : va_G} {cl : List vw_C} {ra : Nat → Nat} {A : Nat → Prop}
variable {p : Program} {l : Launch} {e : Env} {R : Room} {s : State} {m : MethodId} {args : Array Value} {below : List Frame} {meth : Method} {c : Code} {H : Heap} {locs : List Loc} {cells slots : Nat} {Q : State → Prop}
variable {mi pc n : Nat} {ls : Array Slot} {rest : List Value} {ws : va_W} {tys : List (ClassId × FieldType)} {sh : List am_C} {M : am_M} {i : am_I}
theorem am_w_bin {cc : ByteArray} {g : Int32 → Int32 → Option Int32} {x y z : Int32} (hx : p.tables.exec = Jvm.exec) (hb : c.code = cc) (hg : am_bin i = some g) (hz : g x y = some z) (hdg : decode cc pc = .ok (i, n)) (hn : am_len i = 0 ∨ n = am_len i)
    (kk : W p l e R s m args below meth c H locs cells slots Q (F0 m (pc + 1) ls (.int z :: rest))) : W p l e R s m args below meth c H locs cells slots Q (F0 m pc ls (.int y :: .int x :: rest)) := by
  cases i <;> simp only [am_bin, reduceCtorEq, Option.some.injEq] at hg <;> subst hg <;> simp only [am_len, Nat.one_ne_zero, false_or] at hn <;> subst hn
  all_goals first
    | (simp only [Option.some.injEq] at hz
       subst hz
       first
       | exact lv_iadd hx hb hdg kk
       | exact lv_isub hx hb hdg kk
       | exact lv_imul hx hb hdg kk
       | exact lv_iand hx hb hdg kk
       | exact lv_ior hx hb hdg kk
       | exact lv_ixor hx hb hdg kk
       | exact lv_ishl hx hb hdg kk
       | exact lv_ishr hx hb hdg kk)
    | (by_cases hy : y = 0
       · simp [hy] at hz
       · simp only [hy, if_false, Option.some.injEq] at hz
         subst hz
         first
         | exact lv_idiv hx hb hdg hy kk
         | exact lv_irem hx hb hdg hy kk)
theorem am_w_psh {cc : ByteArray} {own : String} {cst : Nat → Option Int32} {v : Value} (hx : p.tables.exec = Jvm.exec) (hb : c.code = cc) (hown : s.vm.findClass own = some m.cls) (hc : ∀ ix z, cst ix = some z → (Cond.constant own ix z).before args s = true) (hg : am_psh cst i = some v) (hdg : decode cc pc = .ok (i, n)) (hn : am_len i = 0 ∨ n = am_len i)
    (kk : W p l e R s m args below meth c H locs cells slots Q (F0 m (pc + n) ls (v :: rest))) : (∃ z, v = .int z) ∧ W p l e R s m args below meth c H locs cells slots Q (F0 m pc ls rest) := by
  cases i <;> simp only [am_psh, reduceCtorEq, Option.some.injEq] at hg
  case iconst z =>
    subst hg
    simp only [am_len, Nat.one_ne_zero, false_or] at hn
    subst hn
    exact ⟨⟨_, rfl⟩, lv_iconst hx hb hdg rfl kk⟩
  case bipush z =>
    subst hg
    simp only [am_len, false_or, reduceCtorEq] at hn
    subst hn
    exact ⟨⟨_, rfl⟩, lv_bipush hx hb hdg rfl kk⟩
  case sipush z =>
    subst hg
    simp only [am_len, false_or, reduceCtorEq] at hn
    subst hn
    exact ⟨⟨_, rfl⟩, lv_sipush hx hb hdg rfl kk⟩
  case ldc ix =>
    simp only [am_len, false_or, reduceCtorEq] at hn
    subst hn
    cases hz : cst ix with
    | none => rw [hz] at hg; cases hg
    | some z =>
      rw [hz] at hg
      cases hg
      exact ⟨⟨_, rfl⟩, lv_ldc hx hb hown (hc ix z hz) hdg kk⟩
theorem am_w_ldi {cc : ByteArray} {j : Nat} {x : Int32} (hx : p.tables.exec = Jvm.exec) (hb : c.code = cc) (hg : am_ldi i = some j) (hl : ls[j]? = some (.val (.int x))) (hdg : decode cc pc = .ok (i, n)) (hn : am_len i = 0 ∨ n = am_len i)
    (kk : W p l e R s m args below meth c H locs cells slots Q (F0 m (pc + n) ls (.int x :: rest))) : W p l e R s m args below meth c H locs cells slots Q (F0 m pc ls rest) := by
  cases i <;> simp only [am_ldi, reduceCtorEq, Option.some.injEq] at hg <;> subst hg
  case iload z =>
    simp only [am_len, false_or, reduceCtorEq] at hn
    subst hn
    exact lv_iload hx hb hdg hl kk
  case iload_n z =>
    simp only [am_len, Nat.one_ne_zero, false_or] at hn
    subst hn
    exact lv_iload_n hx hb hdg rfl hl kk
theorem am_w_lda {cc : ByteArray} {j : Nat} {x : Nat} (hx : p.tables.exec = Jvm.exec) (hb : c.code = cc) (hg : am_lda i = some j) (hl : ls[j]? = some (.val (.ref x))) (hdg : decode cc pc = .ok (i, n)) (hn : am_len i = 0 ∨ n = am_len i)
    (kk : W p l e R s m args below meth c H locs cells slots Q (F0 m (pc + n) ls (.ref x :: rest))) : W p l e R s m args below meth c H locs cells slots Q (F0 m pc ls rest) := by
  cases i <;> simp only [am_lda, reduceCtorEq, Option.some.injEq] at hg <;> subst hg
  case aload z =>
    simp only [am_len, false_or, reduceCtorEq] at hn
    subst hn
    exact lv_aload hx hb hdg hl kk
  case aload_n z =>
    simp only [am_len, Nat.one_ne_zero, false_or] at hn
    subst hn
    exact lv_aload_n hx hb hdg rfl hl kk
theorem am_w_sti {cc : ByteArray} {j nL : Nat} {x : Int32} {lv : List (Nat × Value)} (hx : p.tables.exec = Jvm.exec) (hb : c.code = cc) (hg : am_sti i = some j) (h : lv_has ls nL lv) (hj : j < nL) (hdg : decode cc pc = .ok (i, n)) (hn : am_len i = 0 ∨ n = am_len i)
    (kk : ∀ ls' : Array Slot, lv_has ls' nL ((j, Value.int x) :: lv.filter (fun q => !(q.1 == j) && !(q.1 + 1 == j && q.2.category == 2))) → W p l e R s m args below meth c H locs cells slots Q (F0 m (pc + n) ls' rest)) : W p l e R s m args below meth c H locs cells slots Q (F0 m pc ls (.int x :: rest)) := by
  cases i <;> simp only [am_sti, reduceCtorEq, Option.some.injEq] at hg <;> subst hg
  case istore z =>
    simp only [am_len, false_or, reduceCtorEq] at hn
    subst hn
    exact lv_istore hx hb hdg h hj rfl kk
  case istore_n z =>
    simp only [am_len, Nat.one_ne_zero, false_or] at hn
    subst hn
    exact lv_istore_n hx hb hdg rfl h hj rfl kk
theorem am_w_sta {cc : ByteArray} {j nL : Nat} {x : Nat} {lv : List (Nat × Value)} (hx : p.tables.exec = Jvm.exec) (hb : c.code = cc) (hg : am_sta i = some j) (h : lv_has ls nL lv) (hj : j < nL) (hdg : decode cc pc = .ok (i, n)) (hn : am_len i = 0 ∨ n = am_len i)
    (kk : ∀ ls' : Array Slot, lv_has ls' nL ((j, Value.ref x) :: lv.filter (fun q => !(q.1 == j) && !(q.1 + 1 == j && q.2.category == 2))) → W p l e R s m args below meth c H locs cells slots Q (F0 m (pc + n) ls' rest)) : W p l e R s m args below meth c H locs cells slots Q (F0 m pc ls (.ref x :: rest)) := by
  cases i <;> simp only [am_sta, reduceCtorEq, Option.some.injEq] at hg <;> subst hg
  case astore z =>
    simp only [am_len, false_or, reduceCtorEq] at hn
    subst hn
    exact lv_astore hx hb hdg h hj rfl kk
  case astore_n z =>
    simp only [am_len, Nat.one_ne_zero, false_or] at hn
    subst hn
    exact lv_astore_n hx hb hdg rfl h hj rfl kk
theorem am_w_dup {cc : ByteArray} {st st' : List Value} (hx : p.tables.exec = Jvm.exec) (hb : c.code = cc) (hg : am_dup i st = some st') (ho : ∀ v ∈ st, am_ok ws.length v) (hdg : decode cc pc = .ok (i, n)) (hn : am_len i = 0 ∨ n = am_len i)
    (kk : W p l e R s m args below meth c H locs cells slots Q (F0 m (pc + 1) ls (st'.map (am_tv ra ws)))) : (∀ v ∈ st', am_ok ws.length v) ∧ W p l e R s m args below meth c H locs cells slots Q (F0 m pc ls (st.map (am_tv ra ws))) := by
  have hc : ∀ v ∈ st, (am_tv ra ws v).category = 1 := fun v hv => by rw [am_tv_cat]; exact (ho v hv).cat
  cases i <;> simp only [am_dup, reduceCtorEq] at hg
  case dup =>
    simp only [am_len, Nat.one_ne_zero, false_or] at hn
    subst hn
    cases st with
    | nil => simp [am_dup] at hg
    | cons v r =>
      cases hg
      exact ⟨fun w hw => ho w (by simp at hw ⊢; exact hw), lv_dup hx hb hdg (hc v (by simp)) kk⟩
  case pop =>
    simp only [am_len, Nat.one_ne_zero, false_or] at hn
    subst hn
    cases st with
    | nil => simp [am_dup] at hg
    | cons v r =>
      cases hg
      exact ⟨fun w hw => ho w (by simp; exact Or.inr hw), lv_pop hx hb hdg (hc v (by simp)) kk⟩
  case dup_x1 =>
    simp only [am_len, Nat.one_ne_zero, false_or] at hn
    subst hn
    match st, hg with
    | v :: w :: r, hg =>
      cases hg
      exact ⟨fun u hu => ho u (by simp at hu ⊢; rcases hu with h | h | h | h <;> simp [h]), lv_dup_x1 hx hb hdg (hc v (by simp)) (hc w (by simp)) kk⟩
  case dup_x2 =>
    simp only [am_len, Nat.one_ne_zero, false_or] at hn
    subst hn
    match st, hg with
    | v :: w :: x :: r, hg =>
      cases hg
      exact ⟨fun u hu => ho u (by simp at hu ⊢; rcases hu with h | h | h | h | h <;> simp [h]), lv_dup_x2 hx hb hdg (hc v (by simp)) (hc w (by simp)) (hc x (by simp)) kk⟩
  case dup2 =>
    simp only [am_len, Nat.one_ne_zero, false_or] at hn
    subst hn
    match st, hg with
    | v :: w :: r, hg =>
      cases hg
      exact ⟨fun u hu => ho u (by simp at hu ⊢; rcases hu with h | h | h | h | h <;> simp [h]), lv_dup2_11 hx hb hdg (hc v (by simp)) (hc w (by simp)) kk⟩
theorem am_tg_eq {off : Int} {t : Nat} (h : am_tg pc off = some t) : (pc : Int) + off = (t : Int) := by
  unfold am_tg at h
  split at h
  next t' h' => cases h; exact h'
  next => cases h
theorem am_w_if1 {cc : ByteArray} {cn : Jvm.ClassFile.Cond} {off : Int} {t : Nat} {x : Int32} (hx : p.tables.exec = Jvm.exec) (hb : c.code = cc) (ht : am_tg pc off = some t) (hdg : decode cc pc = .ok (.ifCond cn off, 3))
    (kk : am_br cn x 0 (W p l e R s m args below meth c H locs cells slots Q (F0 m t ls rest)) (W p l e R s m args below meth c H locs cells slots Q (F0 m (pc + 3) ls rest))) : W p l e R s m args below meth c H locs cells slots Q (F0 m pc ls (.int x :: rest)) := by
  have ht := am_tg_eq ht
  cases cn <;> simp only [am_br] at kk
  · exact lv_if_eq hx hb hdg ht (fun h => by rwa [if_pos h] at kk) (fun h => by rwa [if_neg h] at kk)
  · exact lv_if_ne hx hb hdg ht (fun h => by rwa [if_neg h] at kk) (fun h => by rwa [if_pos h] at kk)
  · exact lv_if_lt hx hb hdg ht (fun h => by rwa [if_pos h] at kk) (fun h => by rwa [if_neg h] at kk)
  · exact lv_if_ge hx hb hdg ht (fun h => by rwa [if_pos h] at kk) (fun h => by rwa [if_neg h] at kk)
  · exact lv_if_gt hx hb hdg ht (fun h => by rwa [if_pos h] at kk) (fun h => by rwa [if_neg h] at kk)
  · exact lv_if_le hx hb hdg ht (fun h => by rwa [if_pos h] at kk) (fun h => by rwa [if_neg h] at kk)
theorem am_w_if2 {cc : ByteArray} {cn : Jvm.ClassFile.Cond} {off : Int} {t : Nat} {x y : Int32} (hx : p.tables.exec = Jvm.exec) (hb : c.code = cc) (ht : am_tg pc off = some t) (hdg : decode cc pc = .ok (.if_icmp cn off, 3))
    (kk : am_br cn x y (W p l e R s m args below meth c H locs cells slots Q (F0 m t ls rest)) (W p l e R s m args below meth c H locs cells slots Q (F0 m (pc + 3) ls rest))) : W p l e R s m args below meth c H locs cells slots Q (F0 m pc ls (.int y :: .int x :: rest)) := by
  have ht := am_tg_eq ht
  cases cn <;> simp only [am_br] at kk
  · exact lv_icmp_eq hx hb hdg ht (fun h => by rwa [if_pos h] at kk) (fun h => by rwa [if_neg h] at kk)
  · exact lv_icmp_ne hx hb hdg ht (fun h => by rwa [if_neg h] at kk) (fun h => by rwa [if_pos h] at kk)
  · exact lv_icmp_lt hx hb hdg ht (fun h => by rwa [if_pos h] at kk) (fun h => by rwa [if_neg h] at kk)
  · exact lv_icmp_ge hx hb hdg ht (fun h => by rwa [if_pos h] at kk) (fun h => by rwa [if_neg h] at kk)
  · exact lv_icmp_gt hx hb hdg ht (fun h => by rwa [if_pos h] at kk) (fun h => by rwa [if_neg h] at kk)
  · exact lv_icmp_le hx hb hdg ht (fun h => by rwa [if_pos h] at kk) (fun h => by rwa [if_neg h] at kk)
theorem am_w_sw {cc : ByteArray} {t : Nat} {x : Int32} (hx : p.tables.exec = Jvm.exec) (hb : c.code = cc) (ht : am_sw pc x i = some t) (hdg : decode cc pc = .ok (i, n))
    (kk : W p l e R s m args below meth c H locs cells slots Q (F0 m t ls rest)) : W p l e R s m args below meth c H locs cells slots Q (F0 m pc ls (.int x :: rest)) := by
  cases i <;> simp only [am_sw, reduceCtorEq] at ht
  case tableswitch dflt lo hi offs =>
    by_cases h : x.toInt < lo ∨ hi < x.toInt
    · rw [if_pos h] at ht
      exact lv_tableOut hx hb hdg h (am_tg_eq ht) kk
    · rw [if_neg h] at ht
      cases ho : offs[(x.toInt - lo).toNat]? with
      | none => rw [ho] at ht; cases ht
      | some o =>
        rw [ho] at ht
        exact lv_tableIn hx hb hdg (fun z => h (Or.inl z)) (fun z => h (Or.inr z)) ho (am_tg_eq ht) kk
  case lookupswitch dflt ps =>
    by_cases h : (ps.toList.zip (ps.toList.drop 1)).all (fun (a, next) => a.1 < next.1) = true
    · rw [if_pos h] at ht
      exact lv_lookup hx hb hdg h rfl (am_tg_eq ht) kk
    · rw [if_neg h] at ht
      cases ht
end AMR
end
section
/-! The small machine's rows on the heap -/
section AMH
variable {P : am_T} {X : am_X} {D : va_G} {cl : List vw_C} {ra : Nat → Nat} {A : Nat → Prop}
variable {p : Program} {l : Launch} {e : Env} {R : Room} {s : State} {m : MethodId} {args : Array Value} {below : List Frame} {meth : Method} {c : Code} {H : Heap} {locs : List Loc} {cells slots : Nat} {Q : State → Prop}
variable {mi pc n : Nat} {ls : Array Slot} {rest : List Value} {ws : va_W} {tys : List (ClassId × FieldType)} {sh : List am_C} {M : am_M} {i : am_I}
/-- what lies in a field: an int of the memory, or a reference -/
def am_rd (ra : Nat → Nat) (ws : va_W) (x : Int32) (o : Option Value) : Value := match o with
  | none => .int x
  | some v => am_tv ra ws v
theorem am_h_get {ix ci k z u a : Nat} {fs : List (Option Value)} {o : Option Value} (G : am_G P X cl) (F : am_F P X mi p R s m args meth c) (E : am_E P X ra A s s.heap) (O : am_Wo D cl ra A s H locs ws tys sh M) (hlk : P.2.1 mi ix = some (0, ci, k, z, u)) (hsh : sh[a]? = some (.inl (ci, fs))) (hfs : fs[k]? = some o) (hdg : decode (X.2.2.1 mi) pc = .ok (.getfield ix, 3))
    (kk : W p l e R s m args below meth c H locs cells slots Q (F0 m (pc + 3) ls (am_rd ra ws (M a k) o :: rest))) : (∀ v, o = some v → am_ok ws.length v) ∧ W p l e R s m args below meth c H locs cells slots Q (F0 m pc ls (.ref (am_ad ra ws a) :: rest)) := by
  obtain ⟨hx, hb, -, -, -, hts, hown, -⟩ := F
  obtain ⟨hW, hP, hD, hK, hS, hA⟩ := O
  obtain ⟨a', e', h1, vs, rfl, h3, h4, h5⟩ := hW.2.2 a _ hsh
  obtain ⟨C, T, N, hr, hk, hl, -⟩ := G.2.2.1 mi ix ci k z u hlk
  have hin := (G.2.1 ci C T N hr).2.2.2.1
  rw [am_ad_at h1]
  have hv : vs[k]? = some (am_rd ra ws (M a k) o) := by
    cases o with
    | none => exact h4 k hfs
    | some v => exact (h5 k v hfs).1
  refine ⟨fun v hv => (h5 k v (by rw [hfs, hv])).2, ?_⟩
  rcases hl with hl | ⟨host, hl⟩
  · exact va_get (D := D) hx hb hts hin hown hK hP a h1 hr k hk (hts _ hl) (fun _ h => h) hv hdg kk
  · exact va_getN (D := D) hx hb hts hin hown hK hP a h1 hr k hk (va_Nw.use rfl (E.1 _ hl)) (fun _ h => h) hv hdg kk
theorem am_fit_n {ty : FieldType} {x : Int32} (h : am_fit ty x = true) : narrow ty (.int x) = .int x ∧ fits ty (.int x) = true := by
  cases ty <;> simp only [am_fit, Bool.false_eq_true] at h
  · exact ⟨rfl, rfl⟩
  · have : x = 0 ∨ x = 1 := by simpa using h
    rcases this with rfl | rfl <;> exact ⟨by decide, by decide⟩
theorem am_h_put {ix ci k z a : Nat} {fs : List (Option Value)} {o : Option Value} {v : Value} {ty : FieldType} (G : am_G P X cl) (F : am_F P X mi p R s m args meth c) (E : am_E P X ra A s s.heap) (O : am_Wo D cl ra A s H locs ws tys sh M) (hlk : P.2.1 mi ix = some (0, ci, k, z, 0)) (hsh : sh[a]? = some (.inl (ci, fs))) (hfs : fs[k]? = some o) (hty : (P.2.2.2.1 ci)[k]? = some ty)
    (hn : narrow ty v = v) (hf : fits ty v = true) (hdg : decode (X.2.2.1 mi) pc = .ok (.putfield ix, 3))
    (kk : ∀ (vs : List Value) (H' : Heap) (locs' : List Loc), ws[a]? = some (am_ad ra ws a, .inr (ci, vs)) → am_ce cl ra ws tys (M a) (.inl (ci, fs)) (.inr (ci, vs)) → va_P D cl (ws.set a (am_ad ra ws a, .inr (ci, vs.set k v))) H' → va_D A (ws.set a (am_ad ra ws a, .inr (ci, vs.set k v))) → va_S A s.heap H' locs' → W p l e R s m args below meth c H' locs' cells slots Q (F0 m (pc + 3) ls rest)) :
    W p l e R s m args below meth c H locs cells slots Q (F0 m pc ls (v :: .ref (am_ad ra ws a) :: rest)) := by
  obtain ⟨hx, hb, -, -, -, hts, hown, hnm, -⟩ := F
  obtain ⟨hW, hP, hD, hK, hS, hA⟩ := O
  obtain ⟨a', e', h1, hce⟩ := hW.2.2 a _ hsh
  obtain ⟨vs, rfl, h3, h4, h5⟩ := id hce
  obtain ⟨C, T, N, hr, hk, hl, hu⟩ := G.2.2.1 mi ix ci k z 0 hlk
  obtain ⟨g1, g2, g3, hin, -⟩ := G.2.1 ci C T N hr
  have hpd : parseFieldDescriptor (T k).2.2.1 = some ty := by
    rw [g2 k hk, List.getD_eq_getElem?_getD, hty]
    rfl
  have hkl : k < vs.length := by rw [h3]; exact (List.getElem?_eq_some_iff.mp hfs).1
  rw [am_ad_at h1] at kk ⊢
  rcases hu rfl with hfin | ⟨hfin, hl2, hnn, hdecl⟩
  · rcases hl with hl | ⟨host, hl⟩
    · exact va_put (D := D) hx hb hts hin (fun k => (P.2.2.2.1 ci).getD k .int) g2 g3 hown hK hP hD hS a h1 hr k hk (hts _ hl) (fun _ h => h) hfin hpd hn hf hkl hdg (fun H' locs' q1 q2 q3 => kk vs H' locs' h1 hce q1 q2 q3)
    · exact va_putN (D := D) hx hb hts hin (fun k => (P.2.2.2.1 ci).getD k .int) g2 g3 hown hK hP hD hS a h1 hr k hk (va_Nw.use rfl (E.1 _ hl)) (fun _ h => h) hfin hpd hn hf hkl hdg (fun H' locs' q1 q2 q3 => kk vs H' locs' h1 hce q1 q2 q3)
  · exact va_putF (D := D) hx hb hts hin (fun k => (P.2.2.2.1 ci).getD k .int) g2 g3 hown hK hP hD hS a h1 hr k hk (hts _ hl2) (fun _ h => h) hfin (hnm.trans hnn) hdecl hpd hn hf hkl hdg (fun H' locs' q1 q2 q3 => kk vs H' locs' h1 hce q1 q2 q3)
theorem am_h_putI {ix ci k z a : Nat} {fs : List (Option Value)} {x : Int32} {ty : FieldType} (G : am_G P X cl) (F : am_F P X mi p R s m args meth c) (E : am_E P X ra A s s.heap) (O : am_Wo D cl ra A s H locs ws tys sh M) (hlk : P.2.1 mi ix = some (0, ci, k, z, 0)) (hsh : sh[a]? = some (.inl (ci, fs))) (hfs : fs[k]? = some none) (hty : (P.2.2.2.1 ci)[k]? = some ty)
    (hft : am_fit ty x = true) (hdg : decode (X.2.2.1 mi) pc = .ok (.putfield ix, 3))
    (kk : ∀ (ws' : va_W) (H' : Heap) (locs' : List Loc), am_Wo D cl ra A s H' locs' ws' tys sh (am_set M a (upd (M a) k x)) → am_ex ra ws ws' → W p l e R s m args below meth c H' locs' cells slots Q (F0 m (pc + 3) ls rest)) :
    W p l e R s m args below meth c H locs cells slots Q (F0 m pc ls (.int x :: .ref (am_ad ra ws a) :: rest)) := by
  refine am_h_put G F E O hlk hsh hfs hty (am_fit_n hft).1 (am_fit_n hft).2 hdg (fun vs H' locs' h1 hce q1 q2 q3 => ?_)
  obtain ⟨hW, hP, hD, hK, hS, hA⟩ := O
  obtain ⟨vs', he, h3, h4, h5⟩ := hce
  cases he
  have hkl : k < vs.length := by rw [h3]; exact (List.getElem?_eq_some_iff.mp hfs).1
  obtain ⟨w1, w2⟩ := hW.put (M' := am_set M a (upd (M a) k x)) (e := .inr (ci, vs.set k (.int x))) hsh h1 (by
    rw [am_set_s]
    refine ⟨vs.set k (.int x), rfl, by rw [List.length_set]; exact h3, fun j hj => ?_, fun j v hj => ?_⟩
    · by_cases hjk : k = j
      · subst hjk
        rw [List.getElem?_set_self hkl]
        simp [upd]
      · rw [List.getElem?_set_ne hjk, h4 j hj]
        simp [upd, Ne.symm hjk]
    · have hjk : ¬ k = j := fun q => by subst q; rw [hfs] at hj; cases hj
      rw [List.getElem?_set_ne hjk]
      exact h5 j v hj) (fun q hq => am_set_n M _ hq)
  exact kk _ H' locs' ⟨w1, q1, q2, hK, q3, hA⟩ w2
theorem am_h_putR {ix ci k z a b : Nat} {fs : List (Option Value)} {v0 : Value} {ty : FieldType} (G : am_G P X cl) (F : am_F P X mi p R s m args meth c) (E : am_E P X ra A s s.heap) (O : am_Wo D cl ra A s H locs ws tys sh M) (hlk : P.2.1 mi ix = some (0, ci, k, z, 0)) (hsh : sh[a]? = some (.inl (ci, fs))) (hfs : fs[k]? = some (some v0)) (hty : (P.2.2.2.1 ci)[k]? = some ty)
    (hft : am_rty ty = true) (hob : am_ok ws.length (.ref b)) (hdg : decode (X.2.2.1 mi) pc = .ok (.putfield ix, 3))
    (kk : ∀ (ws' : va_W) (H' : Heap) (locs' : List Loc), am_Wo D cl ra A s H' locs' ws' tys (sh.set a (.inl (ci, fs.set k (some (.ref b))))) M → am_ex ra ws ws' → W p l e R s m args below meth c H' locs' cells slots Q (F0 m (pc + 3) ls rest)) :
    W p l e R s m args below meth c H locs cells slots Q (F0 m pc ls (.ref (am_ad ra ws b) :: .ref (am_ad ra ws a) :: rest)) := by
  have hnf : narrow ty (.ref (am_ad ra ws b)) = .ref (am_ad ra ws b) ∧ fits ty (.ref (am_ad ra ws b)) = true := by
    cases ty <;> simp only [am_rty, Bool.false_eq_true] at hft <;> exact ⟨rfl, rfl⟩
  refine am_h_put G F E O hlk hsh hfs hty hnf.1 hnf.2 hdg (fun vs H' locs' h1 hce q1 q2 q3 => ?_)
  obtain ⟨hW, hP, hD, hK, hS, hA⟩ := O
  obtain ⟨vs', he, h3, h4, h5⟩ := hce
  cases he
  have hkl : k < fs.length := (List.getElem?_eq_some_iff.mp hfs).1
  obtain ⟨w1, w2⟩ := hW.set (M' := M) (c := .inl (ci, fs.set k (some (.ref b)))) (e := .inr (ci, vs.set k (.ref (am_ad ra ws b)))) h1 (by
    refine ⟨vs.set k (.ref (am_ad ra ws b)), rfl, by rw [List.length_set, List.length_set]; exact h3, fun j hj => ?_, fun j v hj => ?_⟩
    · by_cases hjk : k = j
      · subst hjk
        rw [List.getElem?_set_self hkl] at hj
        cases hj
      · rw [List.getElem?_set_ne hjk] at hj
        rw [List.getElem?_set_ne hjk]
        exact h4 j hj
    · by_cases hjk : k = j
      · subst hjk
        rw [List.getElem?_set_self hkl] at hj
        cases hj
        rw [List.getElem?_set_self (by rw [h3]; exact hkl)]
        exact ⟨rfl, hob⟩
      · rw [List.getElem?_set_ne hjk] at hj
        rw [List.getElem?_set_ne hjk]
        exact h5 j v hj) (fun q hq => rfl)
  exact kk _ H' locs' ⟨w1, q1, q2, hK, q3, hA⟩ w2
theorem am_h_gets {ix j z u v : Nat} (G : am_G P X cl) (F : am_F P X mi p R s m args meth c) (E : am_E P X ra A s s.heap) (O : am_Wo D cl ra A s H locs ws tys sh M) (hlk : P.2.1 mi ix = some (1, j, z, u, v)) (hdg : decode (X.2.2.1 mi) pc = .ok (.getstatic ix, 3))
    (kk : W p l e R s m args below meth c H locs cells slots Q (F0 m (pc + 3) ls (.ref (am_ad ra ws (1048576 + j)) :: rest))) : W p l e R s m args below meth c H locs cells slots Q (F0 m pc ls rest) := by
  obtain ⟨hx, hb, -, -, -, hts, hown, -⟩ := F
  obtain ⟨hW, hP, hD, hK, hS, hA⟩ := O
  obtain ⟨g1, g2, g3⟩ := G.2.2.2.1 mi ix j z u v hlk
  rw [am_ad_big (by rw [hW.1]; exact Nat.le_trans hW.2.1 (Nat.le_add_right _ _))] at kk
  have hZ := E.2.1 j g1 _ _ _ rfl g2
  rcases g3 with hl | ⟨host, hl⟩
  · exact va_gets hx hb hZ hS hown (hts _ hl) (fun _ h => h) hdg kk
  · exact va_getsN hx hb hZ hS hown (va_Nw.use rfl (E.1 _ hl)) (fun _ h => h) hdg kk
theorem am_h_iald {a t N : Nat} {g : Nat → Option Nat} {x : Int32} (F : am_F P X mi p R s m args meth c) (O : am_Wo D cl ra A s H locs ws tys sh M) (hsh : sh[a]? = some (.inr (t, N, g))) (ht : t = 0) (hin : ¬ (x < 0 ∨ N ≤ x.toNatClampNeg)) (hdg : decode (X.2.2.1 mi) pc = .ok (.iaload, 1))
    (kk : W p l e R s m args below meth c H locs cells slots Q (F0 m (pc + 1) ls (.int (M a x.toNatClampNeg) :: rest))) : W p l e R s m args below meth c H locs cells slots Q (F0 m pc ls (.int x :: .ref (am_ad ra ws a) :: rest)) := by
  obtain ⟨hx, hb, -⟩ := F
  obtain ⟨hW, hP, hD, hK, hS, hA⟩ := O
  obtain ⟨a', e', h1, cA, t0, h2⟩ := hW.2.2 a _ hsh
  rw [am_ad_at h1]
  rcases h2 with ⟨-, h3, rfl⟩ | ⟨h2, -, -⟩ | ⟨ci, r, h2, -⟩
  · exact va_iald (D := D) hx hb hK hP a t0 h1 h3 hin hdg kk
  · dsimp only at h2; omega
  · dsimp only at h2; omega
theorem am_h_bald {a t N : Nat} {g : Nat → Option Nat} {x : Int32} (F : am_F P X mi p R s m args meth c) (O : am_Wo D cl ra A s H locs ws tys sh M) (hsh : sh[a]? = some (.inr (t, N, g))) (ht : t = 1) (hin : ¬ (x < 0 ∨ N ≤ x.toNatClampNeg)) (hdg : decode (X.2.2.1 mi) pc = .ok (.baload, 1))
    (kk : W p l e R s m args below meth c H locs cells slots Q (F0 m (pc + 1) ls (.int (M a x.toNatClampNeg) :: rest))) : W p l e R s m args below meth c H locs cells slots Q (F0 m pc ls (.int x :: .ref (am_ad ra ws a) :: rest)) := by
  obtain ⟨hx, hb, -⟩ := F
  obtain ⟨hW, hP, hD, hK, hS, hA⟩ := O
  obtain ⟨a', e', h1, cA, t0, h2⟩ := hW.2.2 a _ hsh
  rw [am_ad_at h1]
  rcases h2 with ⟨h2, -, -⟩ | ⟨-, h3, rfl⟩ | ⟨ci, r, h2, -⟩
  · dsimp only at h2; omega
  · exact va_zald (D := D) hx hb hK hP a t0 h1 h3 hin hdg kk
  · dsimp only at h2; omega
theorem am_h_aald {a t N b : Nat} {g : Nat → Option Nat} {x : Int32} (F : am_F P X mi p R s m args meth c) (O : am_Wo D cl ra A s H locs ws tys sh M) (hsh : sh[a]? = some (.inr (t, N, g))) (ht : 2 ≤ t) (hin : ¬ (x < 0 ∨ N ≤ x.toNatClampNeg)) (hg : g x.toNatClampNeg = some b) (hdg : decode (X.2.2.1 mi) pc = .ok (.aaload, 1))
    (kk : W p l e R s m args below meth c H locs cells slots Q (F0 m (pc + 1) ls (.ref (am_ad ra ws b) :: rest))) : am_ok ws.length (.ref b) ∧ W p l e R s m args below meth c H locs cells slots Q (F0 m pc ls (.int x :: .ref (am_ad ra ws a) :: rest)) := by
  obtain ⟨hx, hb, -⟩ := F
  obtain ⟨hW, hP, hD, hK, hS, hA⟩ := O
  obtain ⟨a', e', h1, cA, t0, h2⟩ := hW.2.2 a _ hsh
  rw [am_ad_at h1]
  rcases h2 with ⟨h2, -, -⟩ | ⟨h2, -, -⟩ | ⟨ci, r, h2, h3, h4, rfl, h5⟩
  · dsimp only at h2; omega
  · dsimp only at h2; omega
  · refine ⟨Or.inl (h5 _ b hg), va_aldq (D := D) hx hb hK hP a t0 h1 h4 hin hdg ?_⟩
    show W p l e R s m args below meth c H locs cells slots Q (F0 m (pc + 1) ls (va_rf ((g x.toNatClampNeg).map (am_ad ra ws)) :: rest))
    rw [hg]
    exact kk
theorem am_h_iast {a t N : Nat} {g : Nat → Option Nat} {x v : Int32} (F : am_F P X mi p R s m args meth c) (O : am_Wo D cl ra A s H locs ws tys sh M) (hsh : sh[a]? = some (.inr (t, N, g))) (ht : t = 0) (hin : ¬ (x < 0 ∨ N ≤ x.toNatClampNeg)) (hdg : decode (X.2.2.1 mi) pc = .ok (.iastore, 1))
    (kk : ∀ (ws' : va_W) (H' : Heap) (locs' : List Loc), am_Wo D cl ra A s H' locs' ws' tys sh (am_set M a (upd (M a) x.toNatClampNeg v)) → am_ex ra ws ws' → W p l e R s m args below meth c H' locs' cells slots Q (F0 m (pc + 1) ls rest)) : W p l e R s m args below meth c H locs cells slots Q (F0 m pc ls (.int v :: .int x :: .ref (am_ad ra ws a) :: rest)) := by
  obtain ⟨hx, hb, -⟩ := F
  obtain ⟨hW, hP, hD, hK, hS, hA⟩ := O
  obtain ⟨a', e', h1, cA, t0, h2⟩ := hW.2.2 a _ hsh
  rw [am_ad_at h1]
  rcases h2 with ⟨-, h3, rfl⟩ | ⟨h2, -, -⟩ | ⟨ci, r, h2, -⟩
  · refine va_iast (D := D) hx hb hK hP hD hS a t0 h1 h3 hin hdg (fun H' locs' q1 q2 q3 => ?_)
    obtain ⟨w1, w2⟩ := hW.put (M' := am_set M a (upd (M a) x.toNatClampNeg v)) (e := .inl (cA, N, .inl (upd (M a) x.toNatClampNeg v))) hsh h1 (by
      rw [am_set_s]
      exact ⟨cA, t0, Or.inl ⟨ht, h3, rfl⟩⟩) (fun q hq => am_set_n M _ hq)
    exact kk _ H' locs' ⟨w1, q1, q2, hK, q3, hA⟩ w2
  · dsimp only at h2; omega
  · dsimp only at h2; omega
theorem am_h_bast {a t N : Nat} {g : Nat → Option Nat} {x v : Int32} (F : am_F P X mi p R s m args meth c) (O : am_Wo D cl ra A s H locs ws tys sh M) (hsh : sh[a]? = some (.inr (t, N, g))) (ht : t = 1) (hin : ¬ (x < 0 ∨ N ≤ x.toNatClampNeg)) (hdg : decode (X.2.2.1 mi) pc = .ok (.bastore, 1))
    (kk : ∀ (ws' : va_W) (H' : Heap) (locs' : List Loc), am_Wo D cl ra A s H' locs' ws' tys sh (am_set M a (upd (M a) x.toNatClampNeg (v &&& 1))) → am_ex ra ws ws' → W p l e R s m args below meth c H' locs' cells slots Q (F0 m (pc + 1) ls rest)) : W p l e R s m args below meth c H locs cells slots Q (F0 m pc ls (.int v :: .int x :: .ref (am_ad ra ws a) :: rest)) := by
  obtain ⟨hx, hb, -⟩ := F
  obtain ⟨hW, hP, hD, hK, hS, hA⟩ := O
  obtain ⟨a', e', h1, cA, t0, h2⟩ := hW.2.2 a _ hsh
  rw [am_ad_at h1]
  rcases h2 with ⟨h2, -, -⟩ | ⟨-, h3, rfl⟩ | ⟨ci, r, h2, -⟩
  · dsimp only at h2; omega
  · refine va_zast (D := D) hx hb hK hP hD hS a t0 h1 h3 hin hdg (fun H' locs' q1 q2 q3 => ?_)
    obtain ⟨w1, w2⟩ := hW.put (M' := am_set M a (upd (M a) x.toNatClampNeg (v &&& 1))) (e := .inl (cA, N, .inl (upd (M a) x.toNatClampNeg (v &&& 1)))) hsh h1 (by
      rw [am_set_s]
      exact ⟨cA, t0, Or.inr (Or.inl ⟨ht, h3, rfl⟩)⟩) (fun q hq => am_set_n M _ hq)
    exact kk _ H' locs' ⟨w1, q1, q2, hK, q3, hA⟩ w2
  · dsimp only at h2; omega
theorem am_h_aast {a t N b ci : Nat} {g : Nat → Option Nat} {fs : List (Option Value)} {x : Int32} (F : am_F P X mi p R s m args meth c) (O : am_Wo D cl ra A s H locs ws tys sh M) (hsh : sh[a]? = some (.inr (t, N, g))) (hsb : sh[b]? = some (.inl (ci, fs))) (ht : t = ci + 2) (hin : ¬ (x < 0 ∨ N ≤ x.toNatClampNeg)) (hdg : decode (X.2.2.1 mi) pc = .ok (.aastore, 1))
    (kk : ∀ (ws' : va_W) (H' : Heap) (locs' : List Loc), am_Wo D cl ra A s H' locs' ws' tys (sh.set a (.inr (t, N, va_up g x.toNatClampNeg (some b)))) M → am_ex ra ws ws' → W p l e R s m args below meth c H' locs' cells slots Q (F0 m (pc + 1) ls rest)) : W p l e R s m args below meth c H locs cells slots Q (F0 m pc ls (.ref (am_ad ra ws b) :: .int x :: .ref (am_ad ra ws a) :: rest)) := by
  obtain ⟨hx, hb, -⟩ := F
  obtain ⟨hW, hP, hD, hK, hS, hA⟩ := O
  obtain ⟨a', e', h1, cA, t0, h2⟩ := hW.2.2 a _ hsh
  obtain ⟨b', e2, g1, vs, rfl, g3⟩ := hW.2.2 b _ hsb
  rw [am_ad_at h1, am_ad_at g1]
  rcases h2 with ⟨h2, -, -⟩ | ⟨h2, -, -⟩ | ⟨cj, r, h2, h3, h4, rfl, h5⟩
  · dsimp only at h2; omega
  · dsimp only at h2; omega
  · have hcj : cj = ci := by dsimp only at h2; omega
    subst hcj
    refine va_astq (D := D) hx hb hK hP hD hS a t0 b cj h1 h4 g1 h3 hin hdg (fun H' locs' q1 q2 q3 => ?_)
    have hfe : va_up (fun j => (g j).map (am_ad ra ws)) x.toNatClampNeg (some b') = fun j => ((va_up g x.toNatClampNeg (some b)) j).map (am_ad ra ws) := by
      funext j
      by_cases hj : j = x.toNatClampNeg
      · simp [va_up, hj, am_ad_at g1]
      · simp [va_up, hj]
    have hbl : b < ws.length := (List.getElem?_eq_some_iff.mp g1).1
    obtain ⟨w1, w2⟩ := hW.set (M' := M) (c := .inr (t, N, va_up g x.toNatClampNeg (some b))) (e := .inl (cA, N, .inr (.inr (.inr (.inr (va_up (fun j => (g j).map (am_ad ra ws)) x.toNatClampNeg (some b'))))))) h1 (by
      refine ⟨cA, t0, Or.inr (Or.inr ⟨cj, r, h2, h3, h4, by rw [hfe], fun j b2 hb2 => ?_⟩)⟩
      by_cases hj : j = x.toNatClampNeg
      · simp only [va_up, hj, if_true, Option.some.injEq] at hb2
        omega
      · simp only [va_up, hj, if_false] at hb2
        exact h5 j b2 hb2) (fun q hq => rfl)
    exact kk _ H' locs' ⟨w1, q1, q2, hK, q3, hA⟩ w2
theorem am_h_alen {a t N : Nat} {g : Nat → Option Nat} (F : am_F P X mi p R s m args meth c) (O : am_Wo D cl ra A s H locs ws tys sh M) (hsh : sh[a]? = some (.inr (t, N, g))) (hdg : decode (X.2.2.1 mi) pc = .ok (.arraylength, 1))
    (kk : W p l e R s m args below meth c H locs cells slots Q (F0 m (pc + 1) ls (.int (Int32.ofNat N) :: rest))) : W p l e R s m args below meth c H locs cells slots Q (F0 m pc ls (.ref (am_ad ra ws a) :: rest)) := by
  obtain ⟨hx, hb, -⟩ := F
  obtain ⟨hW, hP, hD, hK, hS, hA⟩ := O
  obtain ⟨a', e', h1, cA, t0, h2⟩ := hW.2.2 a _ hsh
  rw [am_ad_at h1]
  rcases h2 with ⟨-, h3, rfl⟩ | ⟨-, h3, rfl⟩ | ⟨cj, r, -, -, h3, rfl, -⟩
  · exact va_alen (D := D) hx hb hK hP a t0 h1 h3 rfl hdg kk
  · exact va_alen (D := D) hx hb hK hP a t0 h1 h3 rfl hdg kk
  · exact va_alen (D := D) hx hb hK hP a t0 h1 h3 rfl hdg kk
theorem am_h_slen {a N : Nat} {f : Nat → Int32} (F : am_F P X mi p R s m args meth c) (E : am_E P X ra A s s.heap) (O : am_Wo D cl ra A s H locs ws tys sh M) (hsh : sh[a]? = none) (hro : P.2.2.2.2.2.2 a = some (N, f)) (hdg : decode (X.2.2.1 mi) pc = .ok (.arraylength, 1))
    (kk : W p l e R s m args below meth c H locs cells slots Q (F0 m (pc + 1) ls (.int (Int32.ofNat N) :: rest))) : W p l e R s m args below meth c H locs cells slots Q (F0 m pc ls (.ref (am_ad ra ws a) :: rest)) := by
  obtain ⟨hx, hb, -⟩ := F
  obtain ⟨hW, hP, hD, hK, hS, hA⟩ := O
  obtain ⟨e1, e2, e3⟩ := E.2.2.1 a N f hro
  rw [am_ad_big (by rw [hW.1]; exact List.getElem?_eq_none_iff.mp hsh)]
  exact va_slen hx hb e1 e2 e3 hS hdg kk
theorem am_h_sld {a N : Nat} {f : Nat → Int32} {x : Int32} (F : am_F P X mi p R s m args meth c) (E : am_E P X ra A s s.heap) (O : am_Wo D cl ra A s H locs ws tys sh M) (hsh : sh[a]? = none) (hro : P.2.2.2.2.2.2 a = some (N, f)) (hin : ¬ (x < 0 ∨ N ≤ x.toNatClampNeg)) (hdg : decode (X.2.2.1 mi) pc = .ok (.iaload, 1))
    (kk : W p l e R s m args below meth c H locs cells slots Q (F0 m (pc + 1) ls (.int (f x.toNatClampNeg) :: rest))) : W p l e R s m args below meth c H locs cells slots Q (F0 m pc ls (.int x :: .ref (am_ad ra ws a) :: rest)) := by
  obtain ⟨hx, hb, -⟩ := F
  obtain ⟨hW, hP, hD, hK, hS, hA⟩ := O
  obtain ⟨e1, e2, e3⟩ := E.2.2.1 a N f hro
  rw [am_ad_big (by rw [hW.1]; exact List.getElem?_eq_none_iff.mp hsh)]
  exact va_sld hx hb e1 e2 e3 hS hin hdg kk
theorem am_h_newI {at_ : Jvm.ClassFile.ArrayType} {x : Int32} {t : Nat} (hat : (at_ = .int ∧ t = 0) ∨ (at_ = .boolean ∧ t = 1)) (G : am_G P X cl) (F : am_F P X mi p R s m args meth c) (O : am_Wo D cl ra A s H locs ws tys sh M) (hin : ¬ (x < 0 ∨ 100000 ≤ x.toNatClampNeg ∨ 1048576 ≤ sh.length + 1)) (hc : cells + 1 ≤ R.cells) (hs : slots + x.toNatClampNeg ≤ R.slots) (hdg : decode (X.2.2.1 mi) pc = .ok (.newarray at_, 2))
    (kk : ∀ (ws' : va_W) (tys' : List (ClassId × FieldType)) (H' : Heap) (locs' : List Loc), am_Wo D cl ra A s H' locs' ws' tys' (sh ++ [.inr (t, x.toNatClampNeg, fun _ => none)]) (am_set M sh.length (fun _ => 0)) → am_ex ra ws ws' → W p l e R s m args below meth c H' locs' (cells + 1) (slots + x.toNatClampNeg) Q (F0 m (pc + 2) ls (.ref (am_ad ra ws' sh.length) :: rest))) : W p l e R s m args below meth c H locs cells slots Q (F0 m pc ls (.int x :: rest)) := by
  obtain ⟨hx, hb, -, -, -, hts, -⟩ := F
  obtain ⟨hW, hP, hD, hK, hS, hA⟩ := O
  have h0 : ¬ x < 0 := fun q => hin (Or.inl q)
  have h1 : ¬ 100000 ≤ x.toNatClampNeg := fun q => hin (Or.inr (Or.inl q))
  have h2 : ¬ 1048576 ≤ sh.length + 1 := fun q => hin (Or.inr (Or.inr q))
  have fin : ∀ (q : Nat) (cA : ClassId) (H1 : Heap) (ty : FieldType), ((t = 0 ∧ ty = .int) ∨ (t = 1 ∧ ty = .boolean)) → va_K D cl (tys ++ [(cA, ty)]) s → va_P D cl (ws ++ [(q, .inl (cA, x.toNatClampNeg, .inl (fun _ => 0)))]) H1 → va_D A (ws ++ [(q, .inl (cA, x.toNatClampNeg, .inl (fun _ => 0)))]) → va_S A s.heap H1 locs →
      W p l e R s m args below meth c H1 locs (cells + 1) (slots + x.toNatClampNeg) Q (F0 m (pc + 2) ls (.ref q :: rest)) := by
    intro q cA H1 ty hty q1 q2 q3 q4
    obtain ⟨w1, w2⟩ := hW.push (M' := am_set M sh.length (fun _ => 0)) (tl := [(cA, ty)]) (a := q) (e := .inl (cA, x.toNatClampNeg, .inl (fun _ => 0))) (c := .inr (t, x.toNatClampNeg, fun _ => none)) h2 (fun k hk => am_set_n M _ hk) (fun _ => by
      rw [am_set_s]
      refine ⟨cA, tys.length, ?_⟩
      have ht : (tys ++ [(cA, ty)])[tys.length]? = some (cA, ty) := by
        rw [List.getElem?_append_right (Nat.le_refl _), Nat.sub_self]
        rfl
      rcases hty with ⟨e1, rfl⟩ | ⟨e1, rfl⟩
      · exact Or.inl ⟨e1, ht, rfl⟩
      · exact Or.inr (Or.inl ⟨e1, ht, rfl⟩))
    have := kk _ _ H1 locs ⟨w1, q2, q3, q1, q4, hA⟩ w2
    rw [← hW.1, am_ad_new] at this
    exact this
  rcases hat with ⟨rfl, ht⟩ | ⟨rfl, ht⟩
  · refine va_newa (D := D) (atype := .int) (ty := .int) hx hb (hts _ G.2.2.2.2.1.2.2.1) rfl hK hP hD hS hA (a0 := (x.toNatClampNeg, .inl (fun _ => 0))) (fun cA => rfl) h0 rfl (by show _ * 4 ≤ _; omega) hc hs hdg (fun q cA H1 q1 q2 q3 q4 => fin q cA H1 .int (Or.inl ⟨ht, rfl⟩) q1 q2 q3 q4)
  · refine va_newa (D := D) (atype := .boolean) (ty := .boolean) hx hb (hts _ G.2.2.2.2.1.2.2.2.1) rfl hK hP hD hS hA (a0 := (x.toNatClampNeg, .inl (fun _ => 0))) (fun cA => rfl) h0 rfl (by show _ * 1 ≤ _; omega) hc hs hdg (fun q cA H1 q1 q2 q3 q4 => fin q cA H1 .boolean (Or.inr ⟨ht, rfl⟩) q1 q2 q3 q4)
theorem am_h_newR {x : Int32} {ix ci z u v : Nat} (G : am_G P X cl) (F : am_F P X mi p R s m args meth c) (E : am_E P X ra A s s.heap) (O : am_Wo D cl ra A s H locs ws tys sh M) (hlk : P.2.1 mi (ix + 100000) = some (6, ci, z, u, v)) (hin : ¬ (x < 0 ∨ 100000 ≤ x.toNatClampNeg ∨ 1048576 ≤ sh.length + 1)) (hc : cells + 1 ≤ R.cells) (hs : slots + x.toNatClampNeg ≤ R.slots) (hdg : decode (X.2.2.1 mi) pc = .ok (.anewarray ix, 3))
    (kk : ∀ (ws' : va_W) (tys' : List (ClassId × FieldType)) (H' : Heap) (locs' : List Loc), am_Wo D cl ra A s H' locs' ws' tys' (sh ++ [.inr (ci + 2, x.toNatClampNeg, fun _ => none)]) (am_set M sh.length (fun _ => 0)) → am_ex ra ws ws' → W p l e R s m args below meth c H' locs' (cells + 1) (slots + x.toNatClampNeg) Q (F0 m (pc + 3) ls (.ref (am_ad ra ws' sh.length) :: rest))) : W p l e R s m args below meth c H locs cells slots Q (F0 m pc ls (.int x :: rest)) := by
  obtain ⟨hx, hb, -, -, -, hts, hown, -⟩ := F
  obtain ⟨hW, hP, hD, hK, hS, hA⟩ := O
  have h0 : ¬ x < 0 := fun q => hin (Or.inl q)
  have h1 : ¬ 100000 ≤ x.toNatClampNeg := fun q => hin (Or.inr (Or.inl q))
  have h2 : ¬ 1048576 ≤ sh.length + 1 := fun q => hin (Or.inr (Or.inr q))
  obtain ⟨C, T, N, hr, hcl, hAO⟩ := G.2.2.2.2.1.2.1 mi ix ci z u v hlk
  refine va_newq (D := D) hx hb hown (hts _ hcl) (E.2.2.2 C hAO) hK hP hD hS hA h0 rfl (by omega) hc hs hdg (fun q cA H1 q1 q2 q3 q4 => ?_)
  obtain ⟨w1, w2⟩ := hW.push (M' := am_set M sh.length (fun _ => 0)) (tl := [(cA, .object C)]) (a := q) (e := .inl (cA, x.toNatClampNeg, .inr (.inr (.inr (.inr (fun _ => none)))))) (c := .inr (ci + 2, x.toNatClampNeg, fun _ => none)) h2 (fun k hk => am_set_n M _ hk) (fun _ => by
    refine ⟨cA, tys.length, Or.inr (Or.inr ⟨ci, (C, T, N), rfl, hr, ?_, rfl, fun j b hb => by cases hb⟩)⟩
    rw [List.getElem?_append_right (Nat.le_refl _), Nat.sub_self]
    rfl)
  have := kk _ _ H1 locs ⟨w1, q2, q3, q1, q4, hA⟩ w2
  rw [← hW.1, am_ad_new] at this
  exact this
theorem am_h_newO {ix ci z u v : Nat} (G : am_G P X cl) (F : am_F P X mi p R s m args meth c) (O : am_Wo D cl ra A s H locs ws tys sh M) (hlk : P.2.1 mi ix = some (5, ci, z, u, v)) (hin : ¬ 1048576 ≤ sh.length + 1) (hc : cells + 1 ≤ R.cells) (hs : slots + (P.2.2.2.1 ci).length ≤ R.slots) (hdg : decode (X.2.2.1 mi) pc = .ok (.new ix, 3))
    (kk : ∀ (ws' : va_W) (H' : Heap) (locs' : List Loc), am_Wo D cl ra A s H' locs' ws' tys (sh ++ [.inl (ci, (P.2.2.2.1 ci).map am_new)]) (am_set M sh.length (fun _ => 0)) → am_ex ra ws ws' → W p l e R s m args below meth c H' locs' (cells + 1) (slots + (P.2.2.2.1 ci).length) Q (F0 m (pc + 3) ls (.ref (am_ad ra ws' sh.length) :: rest))) : W p l e R s m args below meth c H locs cells slots Q (F0 m pc ls rest) := by
  obtain ⟨hx, hb, -, -, -, hts, hown, -⟩ := F
  obtain ⟨hW, hP, hD, hK, hS, hA⟩ := O
  obtain ⟨C, T, N, hr, hcl, hins, hini⟩ := G.2.2.2.2.1.1 mi ix ci z u v hlk
  obtain ⟨g1, g2, g3, hin2, hty0⟩ := G.2.1 ci C T N hr
  subst g1
  have hall : ∀ ty ∈ P.2.2.2.1 ci, (am_new ty = none ∧ defaultValue ty = .int 0) ∨ (am_new ty = some .null ∧ defaultValue ty = .null) := by
    intro ty hty
    rcases hty0 ty hty with rfl | rfl | h
    · exact Or.inl ⟨rfl, rfl⟩
    · exact Or.inl ⟨rfl, rfl⟩
    · cases ty <;> simp only [am_rty, Bool.false_eq_true] at h <;> exact Or.inr ⟨rfl, rfl⟩
  refine va_new (D := D) hx hb hts hin2 (fun k => (P.2.2.2.1 ci).getD k .int) g2 hown (hts _ hcl) (hts _ hins) (hts _ hini) hK hP hD hS hA hr (fs := (P.2.2.2.1 ci).map defaultValue) (fun j hj => ?_) hc hs hdg (fun q H1 q2 q3 q4 => ?_)
  · show defaultValue ((P.2.2.2.1 ci).getD j .int) = ((P.2.2.2.1 ci).map defaultValue).getD j .null
    rw [List.getD_eq_getElem?_getD, List.getD_eq_getElem?_getD, List.getElem?_map, List.getElem?_eq_getElem hj]
    rfl
  obtain ⟨w1, w2⟩ := hW.push (M' := am_set M sh.length (fun _ => 0)) (tl := []) (a := q) (e := .inr (ci, (P.2.2.2.1 ci).map defaultValue)) (c := .inl (ci, (P.2.2.2.1 ci).map am_new)) hin (fun k hk => am_set_n M _ hk) (fun _ => by
    rw [am_set_s]
    refine ⟨_, rfl, by simp, fun j hj => ?_, fun j v hj => ?_⟩
    · rw [List.getElem?_map] at hj ⊢
      cases hty : (P.2.2.2.1 ci)[j]? with
      | none => rw [hty] at hj; cases hj
      | some ty =>
        rw [hty] at hj
        have hj : am_new ty = none := Option.some.inj hj
        rcases hall ty (List.mem_of_getElem? hty) with ⟨-, h2⟩ | ⟨h1, -⟩
        · show some (defaultValue ty) = _
          rw [h2]
        · rw [hj] at h1; cases h1
    · rw [List.getElem?_map] at hj ⊢
      cases hty : (P.2.2.2.1 ci)[j]? with
      | none => rw [hty] at hj; cases hj
      | some ty =>
        rw [hty] at hj
        have hj : am_new ty = some v := Option.some.inj hj
        rcases hall ty (List.mem_of_getElem? hty) with ⟨h1, -⟩ | ⟨h1, h2⟩
        · rw [hj] at h1; cases h1
        · rw [hj] at h1
          cases h1
          show some (defaultValue ty) = _ ∧ _
          rw [h2]
          exact ⟨rfl, trivial⟩)
  rw [List.append_nil] at w1
  have := kk _ H1 locs ⟨w1, q2, q3, hK, q4, hA⟩ w2
  rw [← hW.1, am_ad_new] at this
  exact this
end AMH
end
section
/-! The small machine is sound: one instruction -/
section AMS
variable {P : am_T} {X : am_X} {D : va_G} {cl : List vw_C} {ra : Nat → Nat} {A : Nat → Prop} {l : Launch}
/-- a step from (pc, L, st, sh, M) to (pc', L', st', sh', M') of the small machine is one of the real machine -/
def am_Nx (P : am_T) (X : am_X) (D : va_G) (cl : List vw_C) (ra : Nat → Nat) (A : Nat → Prop) (l : Launch) (mi pc : Nat) (L : List (Option Value)) (st : List Value) (sh : List am_C) (M : am_M) (pc' : Nat) (L' : List (Option Value)) (st' : List Value) (sh' : List am_C) (M' : am_M) : Prop :=
  (sh.length ≤ sh'.length ∧ am_sz sh ≤ am_sz sh') ∧
  ∀ (p : Program) (e : Env) (R : Room) (s : State) (m : MethodId) (args : Array Value) (below : List Frame) (meth : Method) (c : Code) (H : Heap) (locs : List Loc) (cells slots : Nat) (Q : State → Prop) (ls : Array Slot) (ws : va_W) (tys : List (ClassId × FieldType)),
    am_F P X mi p R s m args meth c → am_E P X ra A s s.heap → am_Wo D cl ra A s H locs ws tys sh M → am_L ra ws (P.2.2.2.2.2.1 mi) L ls → (∀ v ∈ st, am_ok ws.length v) → cells + (sh'.length - sh.length) ≤ R.cells → slots + (am_sz sh' - am_sz sh) ≤ R.slots →
    (∀ (ws' : va_W) (tys' : List (ClassId × FieldType)) (H' : Heap) (locs' : List Loc) (ls' : Array Slot), am_Wo D cl ra A s H' locs' ws' tys' sh' M' → am_ex ra ws ws' → am_L ra ws' (P.2.2.2.2.2.1 mi) L' ls' → (∀ v ∈ st', am_ok ws'.length v) → W p l e R s m args below meth c H' locs' (cells + (sh'.length - sh.length)) (slots + (am_sz sh' - am_sz sh)) Q (F0 m pc' ls' (st'.map (am_tv ra ws')))) →
    W p l e R s m args below meth c H locs cells slots Q (F0 m pc ls (st.map (am_tv ra ws)))
theorem am_len1 {n k : Nat} (hk : k ≠ 0) (hn : k = 0 ∨ n = k) : n = k := by omega
/-- an instruction that changes neither cells nor memory -/
theorem am_Nx.same {mi pc pc' : Nat} {L L' : List (Option Value)} {st st' : List Value} {sh : List am_C} {M : am_M}
    (h : ∀ (p : Program) (e : Env) (R : Room) (s : State) (m : MethodId) (args : Array Value) (below : List Frame) (meth : Method) (c : Code) (H : Heap) (locs : List Loc) (cells slots : Nat) (Q : State → Prop) (ls : Array Slot) (ws : va_W) (tys : List (ClassId × FieldType)),
      am_F P X mi p R s m args meth c → am_E P X ra A s s.heap → am_Wo D cl ra A s H locs ws tys sh M → am_L ra ws (P.2.2.2.2.2.1 mi) L ls → (∀ v ∈ st, am_ok ws.length v) →
      (∀ ls' : Array Slot, am_L ra ws (P.2.2.2.2.2.1 mi) L' ls' → (∀ v ∈ st', am_ok ws.length v) → W p l e R s m args below meth c H locs cells slots Q (F0 m pc' ls' (st'.map (am_tv ra ws)))) → W p l e R s m args below meth c H locs cells slots Q (F0 m pc ls (st.map (am_tv ra ws)))) : am_Nx P X D cl ra A l mi pc L st sh M pc' L' st' sh M := by
  refine ⟨⟨Nat.le_refl _, Nat.le_refl _⟩, fun p e R s m args below meth c H locs cells slots Q ls ws tys hF hE hO hL hst _ _ kk => ?_⟩
  refine h p e R s m args below meth c H locs cells slots Q ls ws tys hF hE hO hL hst (fun ls' hL' hst' => ?_)
  have := kk ws tys H locs ls' hO (am_ex.rf (by rw [hO.1.1]; exact hO.1.2.1)) hL' hst'
  rwa [Nat.sub_self, Nat.sub_self, Nat.add_zero, Nat.add_zero] at this
/-- an instruction that changes the memory, or a cell, but makes none -/
theorem am_Nx.wr {mi pc pc' : Nat} {L : List (Option Value)} {st st' : List Value} {sh sh' : List am_C} {M M' : am_M} (hlen : sh'.length = sh.length) (hsz : am_sz sh' = am_sz sh) (hsub : ∀ v ∈ st', v ∈ st)
    (h : ∀ (p : Program) (e : Env) (R : Room) (s : State) (m : MethodId) (args : Array Value) (below : List Frame) (meth : Method) (c : Code) (H : Heap) (locs : List Loc) (cells slots : Nat) (Q : State → Prop) (ls : Array Slot) (ws : va_W) (tys : List (ClassId × FieldType)),
      am_F P X mi p R s m args meth c → am_E P X ra A s s.heap → am_Wo D cl ra A s H locs ws tys sh M → (∀ v ∈ st, am_ok ws.length v) →
      (∀ (ws' : va_W) (H' : Heap) (locs' : List Loc), am_Wo D cl ra A s H' locs' ws' tys sh' M' → am_ex ra ws ws' → W p l e R s m args below meth c H' locs' cells slots Q (F0 m pc' ls (st'.map (am_tv ra ws)))) → W p l e R s m args below meth c H locs cells slots Q (F0 m pc ls (st.map (am_tv ra ws)))) : am_Nx P X D cl ra A l mi pc L st sh M pc' L st' sh' M' := by
  refine ⟨⟨by rw [hlen]; exact Nat.le_refl _, by rw [hsz]; exact Nat.le_refl _⟩, fun p e R s m args below meth c H locs cells slots Q ls ws tys hF hE hO hL hst _ _ kk => ?_⟩
  refine h p e R s m args below meth c H locs cells slots Q ls ws tys hF hE hO hst (fun ws' H' locs' hO' hx => ?_)
  have hst1 : ∀ v ∈ st', am_ok ws.length v := fun v hv => hst v (hsub v hv)
  have := kk ws' tys H' locs' ls hO' hx (hL.ex hx) (fun v hv => (hst1 v hv).mono hx.1)
  rwa [hlen, hsz, Nat.sub_self, Nat.sub_self, Nat.add_zero, Nat.add_zero, hx.tvs hst1] at this
/-- an instruction that makes a cell -/
theorem am_Nx.mk {mi pc pc' : Nat} {L : List (Option Value)} {st st' : List Value} {sh : List am_C} {c0 : am_C} {M M' : am_M} (hsub : ∀ v ∈ st', v ∈ st)
    (h : ∀ (p : Program) (e : Env) (R : Room) (s : State) (m : MethodId) (args : Array Value) (below : List Frame) (meth : Method) (c : Code) (H : Heap) (locs : List Loc) (cells slots : Nat) (Q : State → Prop) (ls : Array Slot) (ws : va_W) (tys : List (ClassId × FieldType)),
      am_F P X mi p R s m args meth c → am_E P X ra A s s.heap → am_Wo D cl ra A s H locs ws tys sh M → (∀ v ∈ st, am_ok ws.length v) → cells + 1 ≤ R.cells → slots + am_sc c0 ≤ R.slots →
      (∀ (ws' : va_W) (tys' : List (ClassId × FieldType)) (H' : Heap) (locs' : List Loc), am_Wo D cl ra A s H' locs' ws' tys' (sh ++ [c0]) M' → am_ex ra ws ws' → W p l e R s m args below meth c H' locs' (cells + 1) (slots + am_sc c0) Q (F0 m pc' ls (.ref (am_ad ra ws' sh.length) :: st'.map (am_tv ra ws)))) → W p l e R s m args below meth c H locs cells slots Q (F0 m pc ls (st.map (am_tv ra ws)))) : am_Nx P X D cl ra A l mi pc L st sh M pc' L (.ref sh.length :: st') (sh ++ [c0]) M' := by
  have hlen : (sh ++ [c0]).length - sh.length = 1 := by rw [List.length_append]; show sh.length + 1 - sh.length = 1; omega
  have hsz : am_sz (sh ++ [c0]) - am_sz sh = am_sc c0 := by rw [am_sz_push]; omega
  refine ⟨⟨by rw [List.length_append]; omega, by rw [am_sz_push]; omega⟩, fun p e R s m args below meth c H locs cells slots Q ls ws tys hF hE hO hL hst hc hs kk => ?_⟩
  rw [hlen] at hc
  rw [hsz] at hs
  refine h p e R s m args below meth c H locs cells slots Q ls ws tys hF hE hO hst hc hs (fun ws' tys' H' locs' hO' hx => ?_)
  have hst1 : ∀ v ∈ st', am_ok ws.length v := fun v hv => hst v (hsub v hv)
  have := kk ws' tys' H' locs' ls hO' hx (hL.ex hx) (fun v hv => by
    rcases List.mem_cons.mp hv with rfl | hv
    · refine Or.inl ?_
      rw [hO'.1.1, List.length_append]
      exact Nat.lt_succ_self _
    · exact (hst1 v hv).mono hx.1)
  rw [hlen, hsz, List.map_cons, hx.tvs hst1] at this
  exact this
theorem am_hp_get (G : am_G P X cl) {mi pc n ix : Nat} {L : List (Option Value)} {st st' : List Value} {sh sh' : List am_C} {M M' : am_M} (h : am_hp P mi (.getfield ix) st sh M = some (st', sh', M')) (hdg : decode (X.2.2.1 mi) pc = .ok (.getfield ix, n)) (hn : am_len (.getfield ix) = 0 ∨ n = am_len (.getfield ix)) : am_Nx P X D cl ra A l mi pc L st sh M (pc + n) L st' sh' M' := by
  have hn : n = 3 := am_len1 (k := 3) (by decide) hn
  subst hn
  simp only [am_hp] at h
  split at h
  case h_2 => cases h
  case h_1 q1 q2 ci k z u a r hlk =>
  split at h
  case h_2 => cases h
  case h_1 q3 cj fs hsh =>
  rw [am_nth_eq] at hsh
  by_cases hc : cj = ci
  case neg => rw [if_neg hc] at h; cases h
  subst hc
  rw [if_pos rfl] at h
  split at h
  case h_3 => cases h
  case h_1 hfs =>
    rw [am_nth_eq] at hfs
    cases h
    refine am_Nx.same (fun p e R s m args below meth c H locs cells slots Q ls ws tys hF hE hO hL hst kk => ?_)
    exact (am_h_get G hF hE hO hlk hsh hfs hdg (kk ls hL (fun v hv => by
      rcases List.mem_cons.mp hv with rfl | hv
      · trivial
      · exact hst v (List.mem_cons_of_mem _ hv)))).2
  case h_2 v hfs =>
    rw [am_nth_eq] at hfs
    cases h
    refine am_Nx.same (fun p e R s m args below meth c H locs cells slots Q ls ws tys hF hE hO hL hst kk => ?_)
    have hv : am_ok ws.length v := by
      obtain ⟨a', e', h1, vs, -, -, -, h5⟩ := hO.1.2.2 a _ hsh
      exact (h5 k v hfs).2
    exact (am_h_get G hF hE hO hlk hsh hfs hdg (kk ls hL (fun w hw => by
      rcases List.mem_cons.mp hw with rfl | hw
      · exact hv
      · exact hst w (List.mem_cons_of_mem _ hw)))).2
theorem am_hp_put (G : am_G P X cl) {mi pc n ix : Nat} {L : List (Option Value)} {st st' : List Value} {sh sh' : List am_C} {M M' : am_M} (h : am_hp P mi (.putfield ix) st sh M = some (st', sh', M')) (hdg : decode (X.2.2.1 mi) pc = .ok (.putfield ix, n)) (hn : am_len (.putfield ix) = 0 ∨ n = am_len (.putfield ix)) : am_Nx P X D cl ra A l mi pc L st sh M (pc + n) L st' sh' M' := by
  have hn : n = 3 := am_len1 (k := 3) (by decide) hn
  subst hn
  simp only [am_hp] at h
  split at h
  case h_2 => cases h
  case h_1 q1 q2 ci k z v a r hlk =>
  split at h
  case h_2 => cases h
  case h_1 q3 cj fs hsh =>
  rw [am_nth_eq] at hsh
  by_cases hc : cj = ci
  case neg => rw [if_neg hc] at h; cases h
  subst hc
  rw [if_pos rfl] at h
  split at h
  case h_3 => cases h
  case h_1 q4 q5 x hfs =>
    rw [am_nth_eq] at hfs
    split at h
    case h_2 => cases h
    case h_1 q6 ty hty =>
    rw [am_nth_eq] at hty
    by_cases hft : am_fit ty x = true
    case neg => rw [if_neg hft] at h; cases h
    rw [if_pos hft] at h
    cases h
    refine am_Nx.wr rfl rfl (fun v hv => List.mem_cons_of_mem _ (List.mem_cons_of_mem _ hv)) (fun p e R s m args below meth c H locs cells slots Q ls ws tys hF hE hO hst kk => ?_)
    exact am_h_putI G hF hE hO hlk hsh hfs hty hft hdg kk
  case h_2 q4 q5 v0 b hfs =>
    rw [am_nth_eq] at hfs
    split at h
    case h_2 => cases h
    case h_1 q6 ty hty =>
    rw [am_nth_eq] at hty
    by_cases hft : am_rty ty = true
    case neg => rw [if_neg hft] at h; cases h
    rw [if_pos hft] at h
    cases h
    refine am_Nx.wr (List.length_set ..) (am_sz_set sh a _ _ hsh (List.length_set ..)) (fun v hv => List.mem_cons_of_mem _ (List.mem_cons_of_mem _ hv)) (fun p e R s m args below meth c H locs cells slots Q ls ws tys hF hE hO hst kk => ?_)
    exact am_h_putR G hF hE hO hlk hsh hfs hty hft (hst _ List.mem_cons_self) hdg kk
theorem am_hp_gets (G : am_G P X cl) {mi pc n ix : Nat} {L : List (Option Value)} {st st' : List Value} {sh sh' : List am_C} {M M' : am_M} (h : am_hp P mi (.getstatic ix) st sh M = some (st', sh', M')) (hdg : decode (X.2.2.1 mi) pc = .ok (.getstatic ix, n)) (hn : am_len (.getstatic ix) = 0 ∨ n = am_len (.getstatic ix)) : am_Nx P X D cl ra A l mi pc L st sh M (pc + n) L st' sh' M' := by
  have hn : n = 3 := am_len1 (k := 3) (by decide) hn
  subst hn
  simp only [am_hp] at h
  split at h
  case h_2 => cases h
  case h_1 q1 j z u v hlk =>
  cases h
  refine am_Nx.same (fun p e R s m args below meth c H locs cells slots Q ls ws tys hF hE hO hL hst kk => ?_)
  refine am_h_gets G hF hE hO hlk hdg (kk ls hL (fun v hv => ?_))
  rcases List.mem_cons.mp hv with rfl | hv
  · exact Or.inr (Nat.le_add_right _ _)
  · exact hst v hv
theorem am_hp_iald (G : am_G P X cl) {mi pc n ix : Nat} {L : List (Option Value)} {st st' : List Value} {sh sh' : List am_C} {M M' : am_M} (h : am_hp P mi (.iaload) st sh M = some (st', sh', M')) (hdg : decode (X.2.2.1 mi) pc = .ok (.iaload, n)) (hn : am_len (.iaload) = 0 ∨ n = am_len (.iaload)) : am_Nx P X D cl ra A l mi pc L st sh M (pc + n) L st' sh' M' := by
  have hn : n = 1 := am_len1 (k := 1) (by decide) hn
  subst hn
  simp only [am_hp] at h
  split at h
  case h_2 => cases h
  case h_1 q1 x a r =>
  split at h
  case h_2 => cases h
  case h_1 q2 t N g hsh =>
    rw [am_nth_eq] at hsh
    by_cases ht : t = 0
    case neg => rw [if_neg ht] at h; cases h
    rw [if_pos ht] at h
    by_cases hin : x < 0 ∨ N ≤ x.toNatClampNeg
    case pos => rw [if_pos hin] at h; cases h
    rw [if_neg hin] at h
    cases h
    refine am_Nx.same (fun p e R s m args below meth c H locs cells slots Q ls ws tys hF hE hO hL hst kk => ?_)
    exact am_h_iald hF hO hsh ht hin hdg (kk ls hL (fun v hv => by
      rcases List.mem_cons.mp hv with rfl | hv
      · trivial
      · exact hst v (List.mem_cons_of_mem _ (List.mem_cons_of_mem _ hv))))
  case h_3 q2 hsh =>
    rw [am_nth_eq] at hsh
    split at h
    case h_2 => cases h
    case h_1 q3 N f hro =>
    by_cases hin : x < 0 ∨ N ≤ x.toNatClampNeg
    case pos => rw [if_pos hin] at h; cases h
    rw [if_neg hin] at h
    cases h
    refine am_Nx.same (fun p e R s m args below meth c H locs cells slots Q ls ws tys hF hE hO hL hst kk => ?_)
    exact am_h_sld hF hE hO hsh hro hin hdg (kk ls hL (fun v hv => by
      rcases List.mem_cons.mp hv with rfl | hv
      · trivial
      · exact hst v (List.mem_cons_of_mem _ (List.mem_cons_of_mem _ hv))))
theorem am_hp_bald (G : am_G P X cl) {mi pc n ix : Nat} {L : List (Option Value)} {st st' : List Value} {sh sh' : List am_C} {M M' : am_M} (h : am_hp P mi (.baload) st sh M = some (st', sh', M')) (hdg : decode (X.2.2.1 mi) pc = .ok (.baload, n)) (hn : am_len (.baload) = 0 ∨ n = am_len (.baload)) : am_Nx P X D cl ra A l mi pc L st sh M (pc + n) L st' sh' M' := by
  have hn : n = 1 := am_len1 (k := 1) (by decide) hn
  subst hn
  simp only [am_hp] at h
  split at h
  case h_2 => cases h
  case h_1 q1 x a r =>
  split at h
  case h_2 => cases h
  case h_1 q2 t N g hsh =>
  rw [am_nth_eq] at hsh
  by_cases ht : t = 1
  case neg => rw [if_neg ht] at h; cases h
  rw [if_pos ht] at h
  by_cases hin : x < 0 ∨ N ≤ x.toNatClampNeg
  case pos => rw [if_pos hin] at h; cases h
  rw [if_neg hin] at h
  cases h
  refine am_Nx.same (fun p e R s m args below meth c H locs cells slots Q ls ws tys hF hE hO hL hst kk => ?_)
  exact am_h_bald hF hO hsh ht hin hdg (kk ls hL (fun v hv => by
      rcases List.mem_cons.mp hv with rfl | hv
      · trivial
      · exact hst v (List.mem_cons_of_mem _ (List.mem_cons_of_mem _ hv))))
theorem am_hp_aald (G : am_G P X cl) {mi pc n ix : Nat} {L : List (Option Value)} {st st' : List Value} {sh sh' : List am_C} {M M' : am_M} (h : am_hp P mi (.aaload) st sh M = some (st', sh', M')) (hdg : decode (X.2.2.1 mi) pc = .ok (.aaload, n)) (hn : am_len (.aaload) = 0 ∨ n = am_len (.aaload)) : am_Nx P X D cl ra A l mi pc L st sh M (pc + n) L st' sh' M' := by
  have hn : n = 1 := am_len1 (k := 1) (by decide) hn
  subst hn
  simp only [am_hp] at h
  split at h
  case h_2 => cases h
  case h_1 q1 x a r =>
  split at h
  case h_2 => cases h
  case h_1 q2 t N g hsh =>
  rw [am_nth_eq] at hsh
  by_cases ht : 2 ≤ t
  case neg => rw [if_neg ht] at h; cases h
  rw [if_pos ht] at h
  by_cases hin : x < 0 ∨ N ≤ x.toNatClampNeg
  case pos => rw [if_pos hin] at h; cases h
  rw [if_neg hin] at h
  split at h
  case h_2 => cases h
  case h_1 q3 b hg =>
  cases h
  refine am_Nx.same (fun p e R s m args below meth c H locs cells slots Q ls ws tys hF hE hO hL hst kk => ?_)
  have hb : am_ok ws.length (.ref b) := by
    obtain ⟨a', e', h1, cA, t0, h2⟩ := hO.1.2.2 a _ hsh
    rcases h2 with ⟨h2, -, -⟩ | ⟨h2, -, -⟩ | ⟨ci, r, h2, h3, h4, -, h5⟩
    · dsimp only at h2; omega
    · dsimp only at h2; omega
    · exact Or.inl (h5 _ b hg)
  exact (am_h_aald hF hO hsh ht hin hg hdg (kk ls hL (fun v hv => by
    rcases List.mem_cons.mp hv with rfl | hv
    · exact hb
    · exact hst v (List.mem_cons_of_mem _ (List.mem_cons_of_mem _ hv))))).2
theorem am_hp_iast (G : am_G P X cl) {mi pc n ix : Nat} {L : List (Option Value)} {st st' : List Value} {sh sh' : List am_C} {M M' : am_M} (h : am_hp P mi (.iastore) st sh M = some (st', sh', M')) (hdg : decode (X.2.2.1 mi) pc = .ok (.iastore, n)) (hn : am_len (.iastore) = 0 ∨ n = am_len (.iastore)) : am_Nx P X D cl ra A l mi pc L st sh M (pc + n) L st' sh' M' := by
  have hn : n = 1 := am_len1 (k := 1) (by decide) hn
  subst hn
  simp only [am_hp] at h
  split at h
  case h_2 => cases h
  case h_1 q1 v x a r =>
  split at h
  case h_2 => cases h
  case h_1 q2 t N g hsh =>
  rw [am_nth_eq] at hsh
  by_cases ht : t = 0
  case neg => rw [if_neg ht] at h; cases h
  rw [if_pos ht] at h
  by_cases hin : x < 0 ∨ N ≤ x.toNatClampNeg
  case pos => rw [if_pos hin] at h; cases h
  rw [if_neg hin] at h
  cases h
  refine am_Nx.wr rfl rfl (fun v hv => List.mem_cons_of_mem _ (List.mem_cons_of_mem _ (List.mem_cons_of_mem _ hv))) (fun p e R s m args below meth c H locs cells slots Q ls ws tys hF hE hO hst kk => ?_)
  exact am_h_iast hF hO hsh ht hin hdg kk
theorem am_hp_bast (G : am_G P X cl) {mi pc n ix : Nat} {L : List (Option Value)} {st st' : List Value} {sh sh' : List am_C} {M M' : am_M} (h : am_hp P mi (.bastore) st sh M = some (st', sh', M')) (hdg : decode (X.2.2.1 mi) pc = .ok (.bastore, n)) (hn : am_len (.bastore) = 0 ∨ n = am_len (.bastore)) : am_Nx P X D cl ra A l mi pc L st sh M (pc + n) L st' sh' M' := by
  have hn : n = 1 := am_len1 (k := 1) (by decide) hn
  subst hn
  simp only [am_hp] at h
  split at h
  case h_2 => cases h
  case h_1 q1 v x a r =>
  split at h
  case h_2 => cases h
  case h_1 q2 t N g hsh =>
  rw [am_nth_eq] at hsh
  by_cases ht : t = 1
  case neg => rw [if_neg ht] at h; cases h
  rw [if_pos ht] at h
  by_cases hin : x < 0 ∨ N ≤ x.toNatClampNeg
  case pos => rw [if_pos hin] at h; cases h
  rw [if_neg hin] at h
  cases h
  refine am_Nx.wr rfl rfl (fun v hv => List.mem_cons_of_mem _ (List.mem_cons_of_mem _ (List.mem_cons_of_mem _ hv))) (fun p e R s m args below meth c H locs cells slots Q ls ws tys hF hE hO hst kk => ?_)
  exact am_h_bast hF hO hsh ht hin hdg kk
theorem am_hp_aast (G : am_G P X cl) {mi pc n ix : Nat} {L : List (Option Value)} {st st' : List Value} {sh sh' : List am_C} {M M' : am_M} (h : am_hp P mi (.aastore) st sh M = some (st', sh', M')) (hdg : decode (X.2.2.1 mi) pc = .ok (.aastore, n)) (hn : am_len (.aastore) = 0 ∨ n = am_len (.aastore)) : am_Nx P X D cl ra A l mi pc L st sh M (pc + n) L st' sh' M' := by
  have hn : n = 1 := am_len1 (k := 1) (by decide) hn
  subst hn
  simp only [am_hp] at h
  split at h
  case h_2 => cases h
  case h_1 q1 b x a r =>
  split at h
  case h_2 => cases h
  case h_1 q2 q3 t N g ci fs hsh hsb =>
  rw [am_nth_eq] at hsh hsb
  by_cases ht : t = ci + 2
  case neg => rw [if_neg ht] at h; cases h
  rw [if_pos ht] at h
  by_cases hin : x < 0 ∨ N ≤ x.toNatClampNeg
  case pos => rw [if_pos hin] at h; cases h
  rw [if_neg hin] at h
  cases h
  refine am_Nx.wr (List.length_set ..) (am_sz_set sh a _ _ hsh rfl) (fun v hv => List.mem_cons_of_mem _ (List.mem_cons_of_mem _ (List.mem_cons_of_mem _ hv))) (fun p e R s m args below meth c H locs cells slots Q ls ws tys hF hE hO hst kk => ?_)
  exact am_h_aast hF hO hsh hsb ht hin hdg kk
theorem am_hp_alen (G : am_G P X cl) {mi pc n ix : Nat} {L : List (Option Value)} {st st' : List Value} {sh sh' : List am_C} {M M' : am_M} (h : am_hp P mi (.arraylength) st sh M = some (st', sh', M')) (hdg : decode (X.2.2.1 mi) pc = .ok (.arraylength, n)) (hn : am_len (.arraylength) = 0 ∨ n = am_len (.arraylength)) : am_Nx P X D cl ra A l mi pc L st sh M (pc + n) L st' sh' M' := by
  have hn : n = 1 := am_len1 (k := 1) (by decide) hn
  subst hn
  simp only [am_hp] at h
  split at h
  case h_2 => cases h
  case h_1 q1 a r =>
  split at h
  case h_2 => cases h
  case h_1 q2 t N g hsh =>
    rw [am_nth_eq] at hsh
    cases h
    refine am_Nx.same (fun p e R s m args below meth c H locs cells slots Q ls ws tys hF hE hO hL hst kk => ?_)
    exact am_h_alen hF hO hsh hdg (kk ls hL (fun v hv => by
      rcases List.mem_cons.mp hv with rfl | hv
      · trivial
      · exact hst v (List.mem_cons_of_mem _ hv)))
  case h_3 q2 hsh =>
    rw [am_nth_eq] at hsh
    split at h
    case h_2 => cases h
    case h_1 q3 N f hro =>
    cases h
    refine am_Nx.same (fun p e R s m args below meth c H locs cells slots Q ls ws tys hF hE hO hL hst kk => ?_)
    exact am_h_slen hF hE hO hsh hro hdg (kk ls hL (fun v hv => by
      rcases List.mem_cons.mp hv with rfl | hv
      · trivial
      · exact hst v (List.mem_cons_of_mem _ hv)))
theorem am_hp_newa (G : am_G P X cl) {at_ : Jvm.ClassFile.ArrayType} {mi pc n ix : Nat} {L : List (Option Value)} {st st' : List Value} {sh sh' : List am_C} {M M' : am_M} (h : am_hp P mi (.newarray at_) st sh M = some (st', sh', M')) (hdg : decode (X.2.2.1 mi) pc = .ok (.newarray at_, n)) (hn : am_len (.newarray at_) = 0 ∨ n = am_len (.newarray at_)) : am_Nx P X D cl ra A l mi pc L st sh M (pc + n) L st' sh' M' := by
  have hn : n = 2 := am_len1 (k := 2) (by decide) hn
  subst hn
  simp only [am_hp] at h
  split at h
  case h_3 => cases h
  case h_1 q1 x r =>
    by_cases hin : x < 0 ∨ 100000 ≤ x.toNatClampNeg ∨ 1048576 ≤ sh.length + 1
    case pos => rw [if_pos hin] at h; cases h
    rw [if_neg hin] at h
    cases h
    refine am_Nx.mk (fun v hv => List.mem_cons_of_mem _ hv) (fun p e R s m args below meth c H locs cells slots Q ls ws tys hF hE hO hst hc hs kk => ?_)
    exact am_h_newI (Or.inl ⟨rfl, rfl⟩) G hF hO hin hc hs hdg kk
  case h_2 q1 x r =>
    by_cases hin : x < 0 ∨ 100000 ≤ x.toNatClampNeg ∨ 1048576 ≤ sh.length + 1
    case pos => rw [if_pos hin] at h; cases h
    rw [if_neg hin] at h
    cases h
    refine am_Nx.mk (fun v hv => List.mem_cons_of_mem _ hv) (fun p e R s m args below meth c H locs cells slots Q ls ws tys hF hE hO hst hc hs kk => ?_)
    exact am_h_newI (Or.inr ⟨rfl, rfl⟩) G hF hO hin hc hs hdg kk
theorem am_hp_newr (G : am_G P X cl) {mi pc n ix : Nat} {L : List (Option Value)} {st st' : List Value} {sh sh' : List am_C} {M M' : am_M} (h : am_hp P mi (.anewarray ix) st sh M = some (st', sh', M')) (hdg : decode (X.2.2.1 mi) pc = .ok (.anewarray ix, n)) (hn : am_len (.anewarray ix) = 0 ∨ n = am_len (.anewarray ix)) : am_Nx P X D cl ra A l mi pc L st sh M (pc + n) L st' sh' M' := by
  have hn : n = 3 := am_len1 (k := 3) (by decide) hn
  subst hn
  simp only [am_hp] at h
  split at h
  case h_2 => cases h
  case h_1 q1 q2 x r ci z u v hlk =>
  by_cases hin : x < 0 ∨ 100000 ≤ x.toNatClampNeg ∨ 1048576 ≤ sh.length + 1
  case pos => rw [if_pos hin] at h; cases h
  rw [if_neg hin] at h
  cases h
  refine am_Nx.mk (fun v hv => List.mem_cons_of_mem _ hv) (fun p e R s m args below meth c H locs cells slots Q ls ws tys hF hE hO hst hc hs kk => ?_)
  exact am_h_newR G hF hE hO hlk hin hc hs hdg kk
theorem am_hp_newo (G : am_G P X cl) {mi pc n ix : Nat} {L : List (Option Value)} {st st' : List Value} {sh sh' : List am_C} {M M' : am_M} (h : am_hp P mi (.new ix) st sh M = some (st', sh', M')) (hdg : decode (X.2.2.1 mi) pc = .ok (.new ix, n)) (hn : am_len (.new ix) = 0 ∨ n = am_len (.new ix)) : am_Nx P X D cl ra A l mi pc L st sh M (pc + n) L st' sh' M' := by
  have hn : n = 3 := am_len1 (k := 3) (by decide) hn
  subst hn
  simp only [am_hp] at h
  split at h
  case h_2 => cases h
  case h_1 q1 ci z u v hlk =>
  by_cases hin : 1048576 ≤ sh.length + 1
  case pos => rw [if_pos hin] at h; cases h
  rw [if_neg hin] at h
  cases h
  refine am_Nx.mk (fun v hv => hv) (fun p e R s m args below meth c H locs cells slots Q ls ws tys hF hE hO hst hc hs kk => ?_)
  have hcs : am_sc (.inl (ci, (P.2.2.2.1 ci).map am_new)) = (P.2.2.2.1 ci).length := by simp [am_sc]
  rw [hcs] at hs kk
  exact am_h_newO G hF hO hlk hin hc hs hdg (fun ws' H' locs' => kk ws' tys H' locs')
theorem am_hp_ok (G : am_G P X cl) {i : am_I} {mi pc n ix : Nat} {L : List (Option Value)} {st st' : List Value} {sh sh' : List am_C} {M M' : am_M} (h : am_hp P mi i st sh M = some (st', sh', M')) (hdg : decode (X.2.2.1 mi) pc = .ok (i, n)) (hn : am_len i = 0 ∨ n = am_len i) : am_Nx P X D cl ra A l mi pc L st sh M (pc + n) L st' sh' M' := by
  cases i
  case getfield ix => exact am_hp_get G h hdg hn
  case putfield ix => exact am_hp_put G h hdg hn
  case getstatic ix => exact am_hp_gets G h hdg hn
  case iaload => exact am_hp_iald (ix := 0) G h hdg hn
  case baload => exact am_hp_bald (ix := 0) G h hdg hn
  case aaload => exact am_hp_aald (ix := 0) G h hdg hn
  case iastore => exact am_hp_iast (ix := 0) G h hdg hn
  case bastore => exact am_hp_bast (ix := 0) G h hdg hn
  case aastore => exact am_hp_aast (ix := 0) G h hdg hn
  case arraylength => exact am_hp_alen (ix := 0) G h hdg hn
  case newarray at_ => exact am_hp_newa (ix := 0) G h hdg hn
  case anewarray ix => exact am_hp_newr G h hdg hn
  case new ix => exact am_hp_newo G h hdg hn
  all_goals (simp only [am_hp, reduceCtorEq] at h)
end AMS
end
section
/-! The small machine is sound: the other instructions -/
section AMT
variable {P : am_T} {X : am_X} {D : va_G} {cl : List vw_C} {ra : Nat → Nat} {A : Nat → Prop} {l : Launch}
theorem am_br_ap {α β : Type} (f : α → β) (c : Jvm.ClassFile.Cond) (x y : Int32) (a b : α) : am_br c x y (f a) (f b) = f (am_br c x y a b) := by
  cases c <;> simp only [am_br] <;> split <;> rfl
theorem am_br_pr {α : Type} (f : α → Prop) (c : Jvm.ClassFile.Cond) (x y : Int32) (a b : α) (h : f (am_br c x y a b)) : am_br c x y (f a) (f b) := by
  rw [am_br_ap f]
  exact h
theorem am_cat_sum {ra : Nat → Nat} {ws : va_W} : ∀ (r : List Value), (∀ v ∈ r, am_ok ws.length v) → ((r.map (am_tv ra ws)).map fun v => v.category).sum = r.length
  | [], _ => rfl
  | v :: r, h => by
    rw [List.map_cons, List.map_cons, List.sum_cons, am_cat_sum r (fun w hw => h w (List.mem_cons_of_mem _ hw)), am_tv_cat, (h v List.mem_cons_self).cat, List.length_cons]
    omega
theorem am_cal_nx (G : am_G P X cl) {mi pc ix ik : Nat} {i : am_I} {L L' : List (Option Value)} {st st' : List Value} {sh sh' : List am_C} {M M' : am_M} {pc' : Nat} (hi : (ik = 0 ∧ i = .invokevirtual ix) ∨ (ik = 1 ∧ i = .invokestatic ix) ∨ (ik = 2 ∧ i = .invokespecial ix)) (h : am_cal P mi pc ix ik L st sh M = some (.inr (.inl (pc', L', st', sh', M')))) (hdg : decode (X.2.2.1 mi) pc = .ok (i, 3)) : am_Nx P X D cl ra A l mi pc L st sh M pc' L' st' sh' M' := by
  unfold am_cal at h
  split at h
  case h_7 => cases h
  case h_1 q1 mj na kd ci hlk =>
    exfalso
    split at h
    · cases h
    split at h
    case h_2 => cases h
    case h_1 q2 as r hr =>
    split at h
    · cases h
    · cases h
  case h_2 q1 z u v w hlk =>
    by_cases hk : ik = 2
    case neg => rw [if_pos hk] at h; cases h
    rw [if_neg (fun q => q hk)] at h
    split at h
    case h_2 => cases h
    case h_1 q2 a r =>
    by_cases hr : 8 < r.length
    case pos => rw [if_pos hr] at h; cases h
    rw [if_neg hr] at h
    unfold am_nx at h
    cases h
    obtain ⟨g1, g2, g3, g4, g5⟩ := G.2.2.2.2.2.2.2.2.1 mi ix z u v w hlk
    have hi : i = .invokespecial ix := by
      rcases hi with ⟨e, -⟩ | ⟨e, -⟩ | ⟨-, e⟩
      · omega
      · omega
      · exact e
    subst hi
    refine am_Nx.same (fun p e R s m args below meth c H locs cells slots Q ls ws tys hF hE hO hL hst kk => ?_)
    obtain ⟨hx, hb, hml, -, -, hts, hown, -, hfr, hlo⟩ := hF
    have hst1 : ∀ v ∈ st', am_ok ws.length v := fun v hv => hst v (List.mem_cons_of_mem _ hv)
    refine W.objInit hx hb hown (hts _ g1) (hts _ g2) (hts _ g3) rfl (by rw [hml]; exact hL.1) rfl hdg (Nat.le_trans g4 hfr) ?_ (kk ls hL hst1)
    have h8 : 2 * (F0 m pc ls (st'.map (am_tv ra ws))).monitorRoom + ((st'.map (am_tv ra ws)).map fun v => v.category).sum ≤ 8 := lv_room (by rw [am_cat_sum st' hst1]; omega)
    exact Nat.le_trans (Nat.add_le_add_right h8 12) (Nat.le_trans g5 hlo)
  case h_3 q1 z u v w hlk =>
    by_cases hk : ik = 1
    case neg => rw [if_pos hk] at h; cases h
    rw [if_neg (fun q => q hk)] at h
    split at h
    case h_2 => cases h
    case h_1 q2 n dp a sp b r =>
    split at h
    case h_2 => cases h
    case h_1 q3 q4 ta na ga tb nb gb ha hb0 =>
    rw [am_nth_eq] at ha hb0
    split at h
    · cases h
    rename_i hcond
    simp only [not_or, Classical.not_not] at hcond
    obtain ⟨k1, k2, k3, k4, k5, k6, k7, k8⟩ := hcond
    unfold am_nx at h
    cases h
    obtain ⟨g1, g2, g3, g4, g5, g6⟩ := G.2.2.2.2.2.2.2.2.2.1 mi ix z u v w hlk
    have hi : i = .invokestatic ix := by
      rcases hi with ⟨e, -⟩ | ⟨-, e⟩ | ⟨e, -⟩
      · omega
      · exact e
      · omega
    subst hi
    subst k2
    subst k3
    refine ⟨⟨Nat.le_refl _, Nat.le_refl _⟩, fun p e R s m args below meth c H locs cells slots Q ls ws tys hF hE hO hL hst _ _ kk => ?_⟩
    have hst1 : ∀ v ∈ st', am_ok ws.length v := fun v hv => hst v (by simp [hv])
    obtain ⟨hx, hb, hml, -, -, hts, hown, -, hfr, hlo⟩ := hF
    obtain ⟨hW, hP, hD, hK, hS, hA⟩ := hO
    obtain ⟨a', ea, a1, cA, t0, a2⟩ := hW.2.2 a _ ha
    obtain ⟨b', eb, b1, cB, t1, b2⟩ := hW.2.2 b _ hb0
    rcases a2 with ⟨-, a3, rfl⟩ | ⟨a2, -, -⟩ | ⟨ci, r9, a2, -⟩
    rotate_left
    · dsimp only at a2; omega
    · dsimp only at a2; omega
    rcases b2 with ⟨-, b3, rfl⟩ | ⟨b2, -, -⟩ | ⟨ci, r9, b2, -⟩
    rotate_left
    · dsimp only at b2; omega
    · dsimp only at b2; omega
    show W p l e R s m args below meth c H locs cells slots Q (F0 m pc ls (.int n :: .int dp :: .ref (am_ad ra ws a) :: .int sp :: .ref (am_ad ra ws b) :: st'.map (am_tv ra ws)))
    rw [am_ad_at a1, am_ad_at b1]
    refine va_copyi (D := D) hx hb (by rw [hml]; exact hL.1.symm) hown (hts _ g1) (hts _ g2) (hts _ g3) (hts _ g4) hK hP hD hS b a t1 t0 b1 a1 b3 a3 rfl k4 k5 k6 (Nat.not_lt.mp k7) (Nat.not_lt.mp k8) (fun _ _ => rfl) (Nat.le_trans g5 hfr) ?_ hdg (fun H' locs' q1 q2 q3 => ?_)
    · rw [am_cat_sum st' hst1]
      omega
    obtain ⟨w1, w2⟩ := hW.put (M' := am_set M a (va_cpy (M b) (M a) sp.toNatClampNeg dp.toNatClampNeg n.toNatClampNeg)) (e := .inl (cA, na, .inl (va_cpy (M b) (M a) sp.toNatClampNeg dp.toNatClampNeg n.toNatClampNeg))) ha a1 (by
      rw [am_set_s]
      exact ⟨cA, t0, Or.inl ⟨rfl, a3, rfl⟩⟩) (fun q hq => am_set_n M _ hq)
    have := kk _ tys H' locs' ls ⟨w1, q1, q2, hK, q3, hA⟩ w2 (hL.ex w2) (fun v hv => (hst1 v hv).mono w2.1)
    rwa [Nat.sub_self, Nat.sub_self, Nat.add_zero, Nat.add_zero, w2.tvs hst1] at this
  case h_4 q1 z u v w hlk =>
    by_cases hk : ik = 1
    case neg => rw [if_pos hk] at h; cases h
    rw [if_neg (fun q => q hk)] at h
    split at h
    case h_2 => cases h
    case h_1 q2 y x r =>
    by_cases hr : 8 < r.length
    case pos => rw [if_pos hr] at h; cases h
    rw [if_neg hr] at h
    unfold am_nx at h
    cases h
    obtain ⟨g1, g2, g3, g7, g8, g9⟩ := G.2.2.2.2.2.2.2.2.2.2 mi ix 7 z u v w hlk (by decide) (by decide)
    obtain ⟨k1, k2, k3⟩ := g7 rfl
    have hi : i = .invokestatic ix := by
      rcases hi with ⟨e, -⟩ | ⟨-, e⟩ | ⟨e, -⟩
      · omega
      · exact e
      · omega
    subst hi
    refine ⟨⟨Nat.le_refl _, Nat.le_refl _⟩, fun p e R s m args below meth c H locs cells slots Q ls ws tys hF hE hO hL hst hcc hss kk => ?_⟩
    obtain ⟨hx, hb, hml, -, -, hts, hown, -, hfr, hlo⟩ := hF
    have hst1 : ∀ v ∈ r, am_ok ws.length v := fun v hv => hst v (List.mem_cons_of_mem _ (List.mem_cons_of_mem _ hv))
    rw [Nat.sub_self, Nat.add_zero] at hcc hss
    have key := kk ws tys H locs ls hO (am_ex.rf (by rw [hO.1.1]; exact hO.1.2.1)) hL (fun v hv => by
      rcases List.mem_cons.mp hv with rfl | hv
      · trivial
      · exact hst1 v hv)
    rw [Nat.sub_self, Nat.sub_self, Nat.add_zero, Nat.add_zero] at key
    have h8 : ((r.map (am_tv ra ws)).map fun v => v.category).sum ≤ 8 := by
      rw [am_cat_sum r hst1]
      omega
    exact va_mmax hx hb (by rw [hml]; exact hL.1.symm) hown (hts _ k1) (hts _ k2) (hts _ g1) (hts _ k3) (Nat.le_trans g2 hfr) (by omega) hcc hss hdg key
  case h_5 q1 z u v w hlk =>
    by_cases hk : ik = 1
    case neg => rw [if_pos hk] at h; cases h
    rw [if_neg (fun q => q hk)] at h
    split at h
    case h_2 => cases h
    case h_1 q2 y x r =>
    by_cases hr : 8 < r.length
    case pos => rw [if_pos hr] at h; cases h
    rw [if_neg hr] at h
    unfold am_nx at h
    cases h
    obtain ⟨g1, g2, g3, g7, g8, g9⟩ := G.2.2.2.2.2.2.2.2.2.2 mi ix 8 z u v w hlk (by decide) (by decide)
    obtain ⟨k1, k2, k3⟩ := g8 rfl
    have hi : i = .invokestatic ix := by
      rcases hi with ⟨e, -⟩ | ⟨-, e⟩ | ⟨e, -⟩
      · omega
      · exact e
      · omega
    subst hi
    refine ⟨⟨Nat.le_refl _, Nat.le_refl _⟩, fun p e R s m args below meth c H locs cells slots Q ls ws tys hF hE hO hL hst hcc hss kk => ?_⟩
    obtain ⟨hx, hb, hml, -, -, hts, hown, -, hfr, hlo⟩ := hF
    have hst1 : ∀ v ∈ r, am_ok ws.length v := fun v hv => hst v (List.mem_cons_of_mem _ (List.mem_cons_of_mem _ hv))
    rw [Nat.sub_self, Nat.add_zero] at hcc hss
    have key := kk ws tys H locs ls hO (am_ex.rf (by rw [hO.1.1]; exact hO.1.2.1)) hL (fun v hv => by
      rcases List.mem_cons.mp hv with rfl | hv
      · trivial
      · exact hst1 v hv)
    rw [Nat.sub_self, Nat.sub_self, Nat.add_zero, Nat.add_zero] at key
    have h8 : ((r.map (am_tv ra ws)).map fun v => v.category).sum ≤ 8 := by
      rw [am_cat_sum r hst1]
      omega
    exact va_mmin hx hb (by rw [hml]; exact hL.1.symm) hown (hts _ k1) (hts _ k2) (hts _ g1) (hts _ k3) (Nat.le_trans g2 hfr) (by omega) hcc hss hdg key
  case h_6 q1 z u v w hlk =>
    by_cases hk : ik = 1
    case neg => rw [if_pos hk] at h; cases h
    rw [if_neg (fun q => q hk)] at h
    split at h
    case h_2 => cases h
    case h_1 q2 y x r =>
    by_cases hr : 8 < r.length ∨ ¬ y = 16 ∨ x < 0
    case pos => rw [if_pos hr] at h; cases h
    rw [if_neg hr] at h
    unfold am_nx at h
    cases h
    obtain ⟨g1, g2, g3, g7, g8, g9⟩ := G.2.2.2.2.2.2.2.2.2.2 mi ix 9 z u v w hlk (by decide) (by decide)
    obtain ⟨k1, k2, k3⟩ := g9 rfl
    have hi : i = .invokestatic ix := by
      rcases hi with ⟨e, -⟩ | ⟨-, e⟩ | ⟨e, -⟩
      · omega
      · exact e
      · omega
    subst hi
    refine ⟨⟨Nat.le_refl _, Nat.le_refl _⟩, fun p e R s m args below meth c H locs cells slots Q ls ws tys hF hE hO hL hst hcc hss kk => ?_⟩
    obtain ⟨hx, hb, hml, -, -, hts, hown, -, hfr, hlo⟩ := hF
    have hst1 : ∀ v ∈ r, am_ok ws.length v := fun v hv => hst v (List.mem_cons_of_mem _ (List.mem_cons_of_mem _ hv))
    rw [Nat.sub_self, Nat.add_zero] at hcc hss
    have key := kk ws tys H locs ls hO (am_ex.rf (by rw [hO.1.1]; exact hO.1.2.1)) hL (fun v hv => by
      rcases List.mem_cons.mp hv with rfl | hv
      · trivial
      · exact hst1 v hv)
    rw [Nat.sub_self, Nat.sub_self, Nat.add_zero, Nat.add_zero] at key
    have h8 : ((r.map (am_tv ra ws)).map fun v => v.category).sum ≤ 8 := by
      rw [am_cat_sum r hst1]
      omega
    have hy : y = 16 := Classical.not_not.mp (fun q => hr (Or.inr (Or.inl q)))
    subst hy
    have hx0 : 0 ≤ x := Int32.not_lt.mp (fun q => hr (Or.inr (Or.inr q)))
    exact fm_call hx hb (by rw [hml]; exact hL.1.symm) hown (hts _ k1) (hts _ k2) (hts _ g1) (hts _ k3) (Nat.le_trans g2 hfr) (by omega) hcc hss hx0 hdg key
theorem am_oth_nx (G : am_G P X cl) {mi pc n : Nat} {i : am_I} {L L' : List (Option Value)} {st st' : List Value} {sh sh' : List am_C} {M M' : am_M} {pc' : Nat} (h : am_oth P mi pc i L st sh M = some (.inr (.inl (pc', L', st', sh', M')))) (hdg : decode (X.2.2.1 mi) pc = .ok (i, n)) (hn : am_len i = 0 ∨ n = am_len i) : am_Nx P X D cl ra A l mi pc L st sh M pc' L' st' sh' M' := by
  cases i
  case ifCond cn off =>
    have hn : n = 3 := am_len1 (k := 3) (by decide) hn
    subst hn
    simp only [am_oth] at h
    split at h
    case h_2 => cases h
    case h_1 q1 q2 x r t ht =>
    unfold am_nx at h
    cases h
    refine am_Nx.same (fun p e R s m args below meth c H locs cells slots Q ls ws tys hF hE hO hL hst kk => ?_)
    exact am_w_if1 hF.1 hF.2.1 ht hdg (am_br_pr (fun pc1 => W p l e R s m args below meth c H locs cells slots Q (F0 m pc1 ls (st'.map (am_tv ra ws)))) cn x 0 t (pc + 3) (kk ls hL (fun v hv => hst v (List.mem_cons_of_mem _ hv))))
  case if_icmp cn off =>
    have hn : n = 3 := am_len1 (k := 3) (by decide) hn
    subst hn
    simp only [am_oth] at h
    split at h
    case h_2 => cases h
    case h_1 q1 q2 y x r t ht =>
    unfold am_nx at h
    cases h
    refine am_Nx.same (fun p e R s m args below meth c H locs cells slots Q ls ws tys hF hE hO hL hst kk => ?_)
    exact am_w_if2 hF.1 hF.2.1 ht hdg (am_br_pr (fun pc1 => W p l e R s m args below meth c H locs cells slots Q (F0 m pc1 ls (st'.map (am_tv ra ws)))) cn x y t (pc + 3) (kk ls hL (fun v hv => hst v (List.mem_cons_of_mem _ (List.mem_cons_of_mem _ hv)))))
  case goto off =>
    have hn : n = 3 := am_len1 (k := 3) (by decide) hn
    subst hn
    simp only [am_oth] at h
    split at h
    case h_2 => cases h
    case h_1 q1 t ht =>
    unfold am_nx at h
    cases h
    refine am_Nx.same (fun p e R s m args below meth c H locs cells slots Q ls ws tys hF hE hO hL hst kk => ?_)
    exact lv_goto hF.1 hF.2.1 hdg (am_tg_eq ht) (kk ls hL hst)
  case ineg =>
    have hn : n = 1 := am_len1 (k := 1) (by decide) hn
    subst hn
    simp only [am_oth] at h
    split at h
    case h_2 => cases h
    case h_1 q1 x r =>
    unfold am_nx at h
    cases h
    refine am_Nx.same (fun p e R s m args below meth c H locs cells slots Q ls ws tys hF hE hO hL hst kk => ?_)
    exact lv_ineg hF.1 hF.2.1 hdg (kk ls hL (fun v hv => by
      rcases List.mem_cons.mp hv with rfl | hv
      · trivial
      · exact hst v (List.mem_cons_of_mem _ hv)))
  case iinc j z =>
    have hn : n = 3 := am_len1 (k := 3) (by decide) hn
    subst hn
    simp only [am_oth] at h
    split at h
    case h_2 => cases h
    case h_1 q1 x hg =>
    by_cases hj : j < L.length
    case neg => rw [if_neg hj] at h; cases h
    rw [if_pos hj] at h
    unfold am_nx at h
    cases h
    refine am_Nx.same (fun p e R s m args below meth c H locs cells slots Q ls ws tys hF hE hO hL hst kk => ?_)
    have hmem : (j, Value.int x) ∈ am_pr ra ws 0 L := (am_pr_mem L 0 _).mpr ⟨j, .int x, by
      unfold am_get at hg
      rw [am_nth_eq] at hg
      cases hLj : L[j]? with
      | none => rw [hLj] at hg; cases hg
      | some o => rw [hLj] at hg; cases hg; rfl, by rw [Nat.zero_add]; rfl⟩
    obtain ⟨k, hk⟩ := List.getElem?_of_mem hmem
    exact lv_iinc hF.1 hF.2.1 hdg hL.has hk rfl (by rw [← hL.2.2.1]; exact hj) rfl (fun ls' hl' => kk ls' (hL.store (x := .int (x + Int32.ofInt z)) trivial hl') hst)
  case tableswitch dflt lo hi offs =>
    simp only [am_oth] at h
    split at h
    case h_2 => cases h
    case h_1 q1 x r =>
    split at h
    case h_2 => cases h
    case h_1 q2 t ht =>
    unfold am_nx at h
    cases h
    refine am_Nx.same (fun p e R s m args below meth c H locs cells slots Q ls ws tys hF hE hO hL hst kk => ?_)
    exact am_w_sw hF.1 hF.2.1 ht hdg (kk ls hL (fun v hv => hst v (List.mem_cons_of_mem _ hv)))
  case lookupswitch dflt ps =>
    simp only [am_oth] at h
    split at h
    case h_2 => cases h
    case h_1 q1 x r =>
    split at h
    case h_2 => cases h
    case h_1 q2 t ht =>
    unfold am_nx at h
    cases h
    refine am_Nx.same (fun p e R s m args below meth c H locs cells slots Q ls ws tys hF hE hO hL hst kk => ?_)
    exact am_w_sw hF.1 hF.2.1 ht hdg (kk ls hL (fun v hv => hst v (List.mem_cons_of_mem _ hv)))
  case invokevirtual ix =>
    have hn : n = 3 := am_len1 (k := 3) (by decide) hn
    subst hn
    exact am_cal_nx G (Or.inl ⟨rfl, rfl⟩) h hdg
  case invokestatic ix =>
    have hn : n = 3 := am_len1 (k := 3) (by decide) hn
    subst hn
    exact am_cal_nx G (Or.inr (Or.inl ⟨rfl, rfl⟩)) h hdg
  case invokespecial ix =>
    have hn : n = 3 := am_len1 (k := 3) (by decide) hn
    subst hn
    exact am_cal_nx G (Or.inr (Or.inr ⟨rfl, rfl⟩)) h hdg
  case ireturn =>
    simp only [am_oth] at h
    split at h
    case h_2 => cases h
    case h_1 =>
    split at h
    · cases h
    · cases h
  case areturn =>
    simp only [am_oth] at h
    split at h
    case h_2 => cases h
    case h_1 => cases h
  case return_ =>
    simp only [am_oth] at h
    split at h
    case h_2 => cases h
    case h_1 => cases h
  all_goals (simp only [am_oth, reduceCtorEq] at h)
theorem am_dup_sub {i : am_I} {st st' : List Value} (hg : am_dup i st = some st') : ∀ v ∈ st', v ∈ st := by
  cases i <;> simp only [am_dup, reduceCtorEq] at hg
  case dup =>
    match st, hg with
    | v :: r, hg => cases hg; intro u hu; simp at hu ⊢; exact hu
  case pop =>
    match st, hg with
    | v :: r, hg => cases hg; intro u hu; exact List.mem_cons_of_mem _ hu
  case dup_x1 =>
    match st, hg with
    | v :: w :: r, hg => cases hg; intro u hu; simp at hu ⊢; rcases hu with h | h | h | h <;> simp [h]
  case dup_x2 =>
    match st, hg with
    | v :: w :: x :: r, hg => cases hg; intro u hu; simp at hu ⊢; rcases hu with h | h | h | h | h <;> simp [h]
  case dup2 =>
    match st, hg with
    | v :: w :: r, hg => cases hg; intro u hu; simp at hu ⊢; rcases hu with h | h | h | h | h <;> simp [h]
theorem am_ins_nx (G : am_G P X cl) {mi pc n : Nat} {i : am_I} {L L' : List (Option Value)} {st st' : List Value} {sh sh' : List am_C} {M M' : am_M} {pc' : Nat} (h : am_ins P mi pc i n L st sh M = some (.inr (.inl (pc', L', st', sh', M')))) (hdg : decode (X.2.2.1 mi) pc = .ok (i, n)) (hn : am_len i = 0 ∨ n = am_len i) : am_Nx P X D cl ra A l mi pc L st sh M pc' L' st' sh' M' := by
  unfold am_ins at h
  split at h
  case h_1 q1 g hg =>
    split at h
    case h_2 => cases h
    case h_1 q2 y x r =>
    split at h
    case h_2 => cases h
    case h_1 q3 z hz =>
    unfold am_nx at h
    cases h
    refine am_Nx.same (fun p e R s m args below meth c H locs cells slots Q ls ws tys hF hE hO hL hst kk => ?_)
    exact am_w_bin hF.1 hF.2.1 hg hz hdg hn (kk ls hL (fun v hv => by
      rcases List.mem_cons.mp hv with rfl | hv
      · trivial
      · exact hst v (List.mem_cons_of_mem _ (List.mem_cons_of_mem _ hv))))
  split at h
  case h_1 q2 v hg =>
    unfold am_nx at h
    cases h
    refine am_Nx.same (fun p e R s m args below meth c H locs cells slots Q ls ws tys hF hE hO hL hst kk => ?_)
    have hint : ∃ z, v = .int z := by
      cases i <;> simp only [am_psh, reduceCtorEq, Option.some.injEq] at hg
      · exact ⟨_, hg.symm⟩
      · exact ⟨_, hg.symm⟩
      · split at hg
        · cases hg; exact ⟨_, rfl⟩
        · cases hg
      · exact ⟨_, hg.symm⟩
    obtain ⟨z, rfl⟩ := hint
    exact (am_w_psh hF.1 hF.2.1 hF.2.2.2.2.2.2.1 (fun ix z hz => hF.2.2.2.2.2.1 _ (G.2.2.2.2.1.2.2.2.2 mi ix z hz)) hg hdg hn (kk ls hL (fun v hv => by
      rcases List.mem_cons.mp hv with rfl | hv
      · trivial
      · exact hst v hv))).2
  split at h
  case h_1 q3 j hg =>
    split at h
    case h_2 => cases h
    case h_1 q4 x hx =>
    unfold am_nx at h
    cases h
    refine am_Nx.same (fun p e R s m args below meth c H locs cells slots Q ls ws tys hF hE hO hL hst kk => ?_)
    exact am_w_ldi hF.1 hF.2.1 hg (hL.get hx).1 hdg hn (kk ls hL (fun v hv => by
      rcases List.mem_cons.mp hv with rfl | hv
      · trivial
      · exact hst v hv))
  split at h
  case h_1 q4 j hg =>
    split at h
    case h_2 => cases h
    case h_1 q5 a hx =>
    unfold am_nx at h
    cases h
    refine am_Nx.same (fun p e R s m args below meth c H locs cells slots Q ls ws tys hF hE hO hL hst kk => ?_)
    exact am_w_lda hF.1 hF.2.1 hg (hL.get hx).1 hdg hn (kk ls hL (fun v hv => by
      rcases List.mem_cons.mp hv with rfl | hv
      · exact (hL.get hx).2
      · exact hst v hv))
  split at h
  case h_1 q5 j hg =>
    split at h
    case h_2 => cases h
    case h_1 q6 x r =>
    by_cases hj : j < L.length
    case neg => rw [if_neg hj] at h; cases h
    rw [if_pos hj] at h
    unfold am_nx at h
    cases h
    refine am_Nx.same (fun p e R s m args below meth c H locs cells slots Q ls ws tys hF hE hO hL hst kk => ?_)
    exact am_w_sti hF.1 hF.2.1 hg hL.has (by rw [← hL.2.2.1]; exact hj) hdg hn (fun ls' hl' => kk ls' (hL.store (x := .int x) trivial hl') (fun v hv => hst v (List.mem_cons_of_mem _ hv)))
  split at h
  case h_1 q6 j hg =>
    split at h
    case h_2 => cases h
    case h_1 q7 a r =>
    by_cases hj : j < L.length
    case neg => rw [if_neg hj] at h; cases h
    rw [if_pos hj] at h
    unfold am_nx at h
    cases h
    refine am_Nx.same (fun p e R s m args below meth c H locs cells slots Q ls ws tys hF hE hO hL hst kk => ?_)
    exact am_w_sta hF.1 hF.2.1 hg hL.has (by rw [← hL.2.2.1]; exact hj) hdg hn (fun ls' hl' => kk ls' (hL.store (x := .ref a) (hst _ List.mem_cons_self) hl') (fun v hv => hst v (List.mem_cons_of_mem _ hv)))
  split at h
  case h_1 q7 st1 hg =>
    unfold am_nx at h
    cases h
    refine am_Nx.same (fun p e R s m args below meth c H locs cells slots Q ls ws tys hF hE hO hL hst kk => ?_)
    have hok : ∀ v ∈ st', am_ok ws.length v := fun v hv => hst v (am_dup_sub hg v hv)
    exact (am_w_dup hF.1 hF.2.1 hg hst hdg hn (kk ls hL hok)).2
  split at h
  case h_1 q8 st1 sh1 M1 hg =>
    unfold am_nx at h
    cases h
    exact am_hp_ok (ix := 0) G hg hdg hn
  exact am_oth_nx G h hdg hn
end AMT
end
section
/-! The small machine is sound: calls, returns, whole runs -/
section AMU
variable {P : am_T} {X : am_X} {D : va_G} {cl : List vw_C} {ra : Nat → Nat} {A : Nat → Prop} {l : Launch}
/-- the ways in which a method of the small machine returns -/
def am_Rt (X : am_X) (mi : Nat) (meth : Method) (r : Option Value) (pc : Nat) : Prop :=
  (r = none ∧ meth.sig.returnType = none ∧ decode (X.2.2.1 mi) pc = .ok (.return_, 1)) ∨ (∃ (x : Int32) (ty : FieldType), r = some (.int x) ∧ meth.sig.returnType = some ty ∧ am_fit ty x = true ∧ decode (X.2.2.1 mi) pc = .ok (.ireturn, 1)) ∨ (∃ (a : Nat) (nm : String), r = some (.ref a) ∧ meth.sig.returnType = some (.object nm) ∧ decode (X.2.2.1 mi) pc = .ok (.areturn, 1))
/-- from a state of the small machine the real one comes to the method's return, with the answer r, the cells sh' and the memory M' -/
def am_Go (P : am_T) (X : am_X) (D : va_G) (cl : List vw_C) (ra : Nat → Nat) (A : Nat → Prop) (l : Launch) (mi pc : Nat) (L : List (Option Value)) (st : List Value) (sh : List am_C) (M : am_M) (r : Option Value) (sh' : List am_C) (M' : am_M) : Prop :=
  (sh.length ≤ sh'.length ∧ am_sz sh ≤ am_sz sh') ∧ ∀ (p : Program) (e : Env) (R : Room) (s : State) (m : MethodId) (args : Array Value) (below : List Frame) (meth : Method) (c : Code) (H : Heap) (locs : List Loc) (cells slots : Nat) (Q : State → Prop) (ls : Array Slot) (ws : va_W) (tys : List (ClassId × FieldType)),
    am_F P X mi p R s m args meth c → am_E P X ra A s s.heap → am_Wo D cl ra A s H locs ws tys sh M → am_L ra ws (P.2.2.2.2.2.1 mi) L ls → (∀ v ∈ st, am_ok ws.length v) → cells + (sh'.length - sh.length) ≤ R.cells → slots + (am_sz sh' - am_sz sh) ≤ R.slots →
    (∀ (ws' : va_W) (tys' : List (ClassId × FieldType)) (H' : Heap) (locs' : List Loc) (pc' : Nat) (ls' : Array Slot), am_Wo D cl ra A s H' locs' ws' tys' sh' M' → am_ex ra ws ws' → (∀ v ∈ r.toList, am_ok ws'.length v) → am_Rt X mi meth r pc' →
      W p l e R s m args below meth c H' locs' (cells + (sh'.length - sh.length)) (slots + (am_sz sh' - am_sz sh)) Q (F0 m pc' ls' (r.toList.map (am_tv ra ws')))) →
    W p l e R s m args below meth c H locs cells slots Q (F0 m pc ls (st.map (am_tv ra ws)))
def am_Sd (P : am_T) (X : am_X) (D : va_G) (cl : List vw_C) (ra : Nat → Nat) (A : Nat → Prop) (l : Launch) (K : am_K) : Prop :=
  ∀ (mi pc : Nat) (L : List (Option Value)) (st : List Value) (sh : List am_C) (M : am_M) (r : Option Value) (sh' : List am_C) (M' : am_M), K mi pc L st sh M = some (r, sh', M') → am_Go P X D cl ra A l mi pc L st sh M r sh' M'
theorem am_Go.nx {mi pc pc' : Nat} {L L' : List (Option Value)} {st st' : List Value} {sh sh1 sh' : List am_C} {M M1 M' : am_M} {r : Option Value} (hN : am_Nx P X D cl ra A l mi pc L st sh M pc' L' st' sh1 M1) (hG : am_Go P X D cl ra A l mi pc' L' st' sh1 M1 r sh' M') : am_Go P X D cl ra A l mi pc L st sh M r sh' M' := by
  obtain ⟨⟨n1, n2⟩, hN⟩ := hN
  obtain ⟨⟨m1, m2⟩, hG⟩ := hG
  refine ⟨⟨Nat.le_trans n1 m1, Nat.le_trans n2 m2⟩, fun p e R s m args below meth c H locs cells slots Q ls ws tys hF hE hO hL hst hc hs kk => ?_⟩
  refine hN p e R s m args below meth c H locs cells slots Q ls ws tys hF hE hO hL hst (by omega) (by omega) (fun ws1 tys1 H1 locs1 ls1 hO1 hx1 hL1 hst1 => ?_)
  refine hG p e R s m args below meth c H1 locs1 (cells + (sh1.length - sh.length)) (slots + (am_sz sh1 - am_sz sh)) Q ls1 ws1 tys1 hF hE hO1 hL1 hst1 (by omega) (by omega) (fun ws' tys' H' locs' pc2 ls' hO' hx' hok hrt => ?_)
  have := kk ws' tys' H' locs' pc2 ls' hO' (hx1.tr hx') hok hrt
  rwa [show cells + (sh'.length - sh.length) = cells + (sh1.length - sh.length) + (sh'.length - sh1.length) by omega, show slots + (am_sz sh' - am_sz sh) = slots + (am_sz sh1 - am_sz sh) + (am_sz sh' - am_sz sh1) by omega] at this
theorem am_Go.ret {mi pc : Nat} {L : List (Option Value)} {sh : List am_C} {M : am_M} {r : Option Value} (hr : ∀ meth : Method, meth.sig.returnType = P.2.2.2.2.1 mi → am_Rt X mi meth r pc) : am_Go P X D cl ra A l mi pc L r.toList sh M r sh M := by
  refine ⟨⟨Nat.le_refl _, Nat.le_refl _⟩, fun p e R s m args below meth c H locs cells slots Q ls ws tys hF hE hO hL hst hc hs kk => ?_⟩
  have := kk ws tys H locs pc ls hO (am_ex.rf (by rw [hO.1.1]; exact hO.1.2.1)) hst (hr meth hF.2.2.2.1)
  rwa [Nat.sub_self, Nat.sub_self, Nat.add_zero, Nat.add_zero] at this
theorem am_E.moved (G : am_G P X cl) {u U : State} {H H' : Heap} (h : am_E P X ra A u H) (hW : u.WarmedH U.vm) (hs : H.size ≤ H'.size) (hq : ∀ q : Nat, q < H.size → ¬ A q → H'[q]? = H[q]?) : am_E P X ra A U H' := by
  obtain ⟨h1, h2, h3, h4⟩ := h
  refine ⟨fun w hw => ?_, fun j hj C n d e1 e2 => ((h2 j hj C n d e1 e2).moved hW.alike).kept hq, fun k n f hk => ?_, fun C hC => (h4 C hC).moved hW.alike⟩
  · have h5 := h1 w hw
    rcases G.2.2.2.2.2.2.1 w hw with ⟨a, i, b, n, d, hh, rfl⟩ | ⟨a, i, x, hh, rfl⟩
    · exact h5.warmF hW
    · exact h5.warmM hW
  · obtain ⟨e1, e2, e3⟩ := h3 k n f hk
    exact ⟨(e1.moved hW.alike).kept (hq _ e2 e3), Nat.lt_of_lt_of_le e2 hs, e3⟩
theorem am_E.same (G : am_G P X cl) {u U : State} {H : Heap} (h : am_E P X ra A u H) (hv : u.vm = U.vm) : am_E P X ra A U H := by
  obtain ⟨h1, h2, h3, h4⟩ := h
  have ha : u.vm.Alike U.vm := by rw [hv]; exact Vm.Alike.refl _
  refine ⟨fun w hw => ?_, fun j hj C n d e1 e2 => (h2 j hj C n d e1 e2).moved ha, fun k n f hk => ?_, fun C hC => (h4 C hC).moved ha⟩
  · have h5 := h1 w hw
    rcases G.2.2.2.2.2.2.1 w hw with ⟨a, i, b, n, d, hh, rfl⟩ | ⟨a, i, x, hh, rfl⟩
    · exact h5.same rfl hv
    · exact h5.same rfl hv
  · obtain ⟨e1, e2, e3⟩ := h3 k n f hk
    exact ⟨e1.moved ha, e2, e3⟩
/-- a callee's start and end -/
def am_Pc (P : am_T) (X : am_X) (D : va_G) (cl : List vw_C) (ra : Nat → Nat) (A : Nat → Prop) (ws : va_W) (tys : List (ClassId × FieldType)) (H : Heap) (as : List Value) : Array Value → State → Prop := fun v U => v = (as.map (am_tv ra ws)).toArray ∧ U.heap = H ∧ va_K D cl tys U ∧ am_E P X ra A U H
def am_Qc (D : va_G) (cl : List vw_C) (ra : Nat → Nat) (A : Nat → Prop) (ws : va_W) (H : Heap) (r : Option Value) (sh : List am_C) (M : am_M) : Array Value → State → Outcome → State → Prop := fun _ _ oc t =>
  ∃ (ws1 : va_W) (tys1 : List (ClassId × FieldType)), oc = .returned (r.map (am_tv ra ws1)) ∧ am_W cl ra ws1 tys1 sh M ∧ am_ex ra ws ws1 ∧ va_P D cl ws1 t.heap ∧ va_D A ws1 ∧ va_K D cl tys1 t ∧ H.size ≤ t.heap.size ∧ (∀ q : Nat, q < H.size → ¬ A q → t.heap[q]? = H[q]?) ∧ ∀ v ∈ r.toList, am_ok ws1.length v
theorem am_met (G : am_G P X cl) {mj : Nat} {as : List Value} {sh sh1 : List am_C} {M M1 : am_M} {rv : Option Value} {H : Heap} {ws : va_W} {tys : List (ClassId × FieldType)} (hy : plainName (X.2.2.2.1 mj).cls = true) (hn : ¬ P.2.2.2.2.2.1 mj < as.length)
    (hG : am_Go P X D cl ra A l mj 0 (am_ent (P.2.2.2.2.2.1 mj) as) [] sh M rv sh1 M1) (hW : am_W cl ra ws tys sh M) (hP : va_P D cl ws H) (hD : va_D A ws) (hA : ∀ q, H.size ≤ q → A q) (hok : ∀ v ∈ as, am_ok ws.length v) :
    Met l (X.2.2.2.1 mj) (Cond.code (X.2.2.2.1 mj) (X.2.2.1 mj) (P.2.2.2.2.2.1 mj) (P.2.2.2.2.1 mj) :: X.1) { frames := X.2.2.2.2.2.2.1 mj, cells := sh1.length - sh.length, slots := am_sz sh1 - am_sz sh, locals := X.2.2.2.2.2.2.2 mj } (am_Pc P X D cl ra A ws tys H as) (am_Qc D cl ra A ws H rv sh1 M1) (sh1.length - sh.length) (am_sz sh1 - am_sz sh) A := by
  refine Met.ofW (cc := X.2.2.1 mj) (maxL := P.2.2.2.2.2.1 mj) (ret := P.2.2.2.2.1 mj) hy rfl ?_
  intro p e s m args below meth c s₁ B hml hv
  obtain ⟨rfl, rfl, hK, hE⟩ := hv
  have hts := atoms_spec (ws := Cond.code (X.2.2.2.1 mj) (X.2.2.1 mj) (P.2.2.2.2.2.1 mj) (P.2.2.2.2.1 mj) :: X.1) B.pre
  have hF : am_F P X mj p { frames := X.2.2.2.2.2.2.1 mj, cells := sh1.length - sh.length, slots := am_sz sh1 - am_sz sh, locals := X.2.2.2.2.2.2.2 mj } s m (as.map (am_tv ra ws)).toArray meth c :=
    ⟨B.exec, B.bytes, hml, B.returns, B.notSynchronized, fun w hw => hts w (List.mem_cons_of_mem _ hw), findClass_of_methodNamed B.named, (name_of_methodNamed B.named B.method).1, Nat.le_refl _, Nat.le_refl _⟩
  have hcat : ∀ v ∈ as.map (am_tv ra ws), v.category = 1 := fun v hv => by
    obtain ⟨u, hu, rfl⟩ := List.mem_map.mp hv
    rw [am_tv_cat]
    exact (hok u hu).cat
  have hl := lv_entry (as.map (am_tv ra ws)) (n := P.2.2.2.2.2.1 mj) (by rw [am_sl_len _ hcat, List.length_map]; omega)
  rw [lg_entry_eq]
  generalize (lg_sl (as.map (am_tv ra ws)) ++ List.replicate (P.2.2.2.2.2.1 mj - (lg_sl (as.map (am_tv ra ws))).length) Slot.unset).toArray = ls at hl ⊢
  have hL : am_L ra ws (P.2.2.2.2.2.1 mj) (am_ent (P.2.2.2.2.2.1 mj) as) ls := am_L.entry hn hok hl
  have hO : am_Wo D cl ra A s s.heap [] ws tys sh M := ⟨hW, hP, hD, hK, va_S.rf, hA⟩
  refine hG.2 p e { frames := X.2.2.2.2.2.2.1 mj, cells := sh1.length - sh.length, slots := am_sz sh1 - am_sz sh, locals := X.2.2.2.2.2.2.2 mj } s m (as.map (am_tv ra ws)).toArray below meth c s.heap [] 0 0 (MQ below (am_Qc D cl ra A ws s.heap rv sh1 M1) (as.map (am_tv ra ws)).toArray s (sh1.length - sh.length) (am_sz sh1 - am_sz sh) A) ls ws tys hF hE hO hL (fun v hv => by cases hv) (by rw [Nat.zero_add]; exact Nat.le_refl _) (by rw [Nat.zero_add]; exact Nat.le_refl _) (fun ws' tys' H' locs' pc' ls' hO' hx' hok' hrt => ?_)
  rw [Nat.zero_add, Nat.zero_add]
  obtain ⟨w1, w2, w3, w4, w5, w6⟩ := hO'
  have fin : ∀ t : State, t.heap = H' → s.WarmedH t.vm → am_Qc D cl ra A ws s.heap rv sh1 M1 (as.map (am_tv ra ws)).toArray s (.returned (rv.map (am_tv ra ws'))) t := fun t ht hWm =>
    ⟨ws', tys', rfl, w1, hx', by rw [ht]; exact w2, w3, va_K.moved hWm.alike w4, by rw [ht]; exact w5.1, fun q q1 q2 => by rw [ht]; exact w5.2.1 q q1 q2, hok'⟩
  rcases hrt with ⟨rfl, r1, r2⟩ | ⟨x, ty, rfl, r1, r2, r3⟩ | ⟨a, nm, rfl, r1, r2⟩
  · exact W.vret hF.1 hF.2.1 r1 fin w5.2.2 r2 hF.2.2.2.2.1
  · exact W.zret hF.1 hF.2.1 r1 (am_fit_n r2).1 fin w5.2.2 r3 hF.2.2.2.2.1
  · exact W.aret (v := .ref (am_ad ra ws' a)) hF.1 hF.2.1 r1 (Or.inl ⟨nm, rfl⟩) (Or.inr ⟨_, rfl⟩) fin w5.2.2 r2 hF.2.2.2.2.1
/-- behind a call -/
theorem am_Go.back {mi pc : Nat} {L : List (Option Value)} {rest : List Value} {sh sh1 sh' : List am_C} {M1 M' : am_M} {rv r : Option Value} (hG : am_Go P X D cl ra A l mi (pc + 3) L (rv.toList ++ rest) sh1 M1 r sh' M') (hm : sh.length ≤ sh1.length ∧ am_sz sh ≤ am_sz sh1)
    {p : Program} {e : Env} {R : Room} {s : State} {m : MethodId} {args : Array Value} {below : List Frame} {meth : Method} {c : Code} {H : Heap} {locs : List Loc} {cells slots : Nat} {Q : State → Prop} {ls : Array Slot} {ws : va_W} {tys : List (ClassId × FieldType)} {a : Array Value} {st0 : List Value}
    (hF : am_F P X mi p R s m args meth c) (hE : am_E P X ra A s s.heap) (hlw : ws.length ≤ 1048576) (hS : va_S A s.heap H locs) (hA : ∀ q, s.heap.size ≤ q → A q) (hL : am_L ra ws (P.2.2.2.2.2.1 mi) L ls) (hst : ∀ v ∈ rest, am_ok ws.length v) (hc : cells + (sh'.length - sh.length) ≤ R.cells) (hs : slots + (am_sz sh' - am_sz sh) ≤ R.slots)
    (kk : ∀ (ws' : va_W) (tys' : List (ClassId × FieldType)) (H' : Heap) (locs' : List Loc) (pc' : Nat) (ls' : Array Slot), am_Wo D cl ra A s H' locs' ws' tys' sh' M' → am_ex ra ws ws' → (∀ v ∈ r.toList, am_ok ws'.length v) → am_Rt X mi meth r pc' →
      W p l e R s m args below meth c H' locs' (cells + (sh'.length - sh.length)) (slots + (am_sz sh' - am_sz sh)) Q (F0 m pc' ls' (r.toList.map (am_tv ra ws'))))
    (run : va_Run p l e R s m args below meth c H locs cells slots (sh1.length - sh.length) (am_sz sh1 - am_sz sh) (F0 m pc ls st0) (rest.map (am_tv ra ws)) (am_Qc D cl ra A ws H rv sh1 M1 a) A) : W p l e R s m args below meth c H locs cells slots Q (F0 m pc ls st0) := by
  intro T hT XS
  obtain ⟨v, st0, t, T', Ls, h0, X', hLs, e1, e2, ⟨ws1, tys1, hv, hW1, hx1, hP1, hD1, hK1, f1, f2, hok1⟩, goes⟩ := run T hT XS
  obtain ⟨⟨m1, m2⟩, hG⟩ := hG
  have hv : v = rv.map (am_tv ra ws1) := Outcome.returned.inj hv
  subst hv
  have hO1 : am_Wo D cl ra A s T'.heap (locs ++ Ls) ws1 tys1 sh1 M1 := by
    refine ⟨hW1, by rw [e1]; exact hP1, hD1, va_K.moved (by rw [← e2]; exact X'.warmed.alike.symm) hK1, ⟨?_, fun q q1 q2 => ?_, fun x hx => ?_⟩, hA⟩
    · rw [e1]; exact Nat.le_trans hS.1 f1
    · rw [e1, f2 q (Nat.lt_of_lt_of_le q1 hS.1) q2]
      exact hS.2.1 q q1 q2
    · rcases List.mem_append.mp hx with hx | hx
      · exact hS.2.2 x hx
      · exact hLs x hx
  have hst1 : ∀ v ∈ rv.toList ++ rest, am_ok ws1.length v := fun v hv => by
    rcases List.mem_append.mp hv with hv | hv
    · exact hok1 v hv
    · exact (hst v hv).mono hx1.1
  have key := hG p e R s m args below meth c T'.heap (locs ++ Ls) (cells + (sh1.length - sh.length)) (slots + (am_sz sh1 - am_sz sh)) Q ls ws1 tys1 hF hE hO1 (hL.ex hx1) hst1 (by omega) (by omega) (fun ws' tys' H' locs' pc2 ls' hO' hx' hok hrt => by
    have := kk ws' tys' H' locs' pc2 ls' hO' (hx1.tr hx') hok hrt
    rwa [show cells + (sh'.length - sh.length) = cells + (sh1.length - sh.length) + (sh'.length - sh1.length) by omega, show slots + (am_sz sh' - am_sz sh) = slots + (am_sz sh1 - am_sz sh) + (am_sz sh' - am_sz sh1) by omega] at this)
  obtain ⟨t2, a1, b1⟩ := key T' rfl X'
  refine ⟨t2, goes t2 ?_, b1⟩
  have hgf : (rv.map (am_tv ra ws1)).toList ++ rest.map (am_tv ra ws) = (rv.toList ++ rest).map (am_tv ra ws1) := by
    rw [List.map_append, hx1.tvs hst]
    cases rv <;> rfl
  rw [hgf]
  exact a1
theorem am_take (f : Value → Value) (st : List Value) (na : Nat) : st.map f = ((st.take na).reverse.map f).reverse ++ (st.drop na).map f := by
  rw [← List.map_reverse, List.reverse_reverse, ← List.map_append, List.take_append_drop]
/-- a call -/
theorem am_Go.call (G : am_G P X cl) {mi pc ix ik mj : Nat} {i : am_I} {L : List (Option Value)} {st as rest : List Value} {sh sh1 sh' : List am_C} {M M1 M' : am_M} {rv r : Option Value} (hi : (ik = 0 ∧ i = .invokevirtual ix) ∨ (ik = 1 ∧ i = .invokestatic ix) ∨ (ik = 2 ∧ i = .invokespecial ix)) (h : am_cal P mi pc ix ik L st sh M = some (.inr (.inr (mj, as, rest)))) (hdg : decode (X.2.2.1 mi) pc = .ok (i, 3))
    (h1 : am_Go P X D cl ra A l mj 0 (am_ent (P.2.2.2.2.2.1 mj) as) [] sh M rv sh1 M1) (h2 : am_Go P X D cl ra A l mi (pc + 3) L (rv.toList ++ rest) sh1 M1 r sh' M') : am_Go P X D cl ra A l mi pc L st sh M r sh' M' := by
  unfold am_cal at h
  split at h
  case h_7 => cases h
  case h_4 =>
    exfalso
    unfold am_nx at h
    repeat' (split at h)
    all_goals cases h
  case h_5 =>
    exfalso
    unfold am_nx at h
    repeat' (split at h)
    all_goals cases h
  case h_6 =>
    exfalso
    unfold am_nx at h
    repeat' (split at h)
    all_goals cases h
  case h_2 =>
    exfalso
    split at h
    · cases h
    split at h
    case h_2 => cases h
    case h_1 =>
    split at h
    · cases h
    · unfold am_nx at h; cases h
  case h_3 =>
    exfalso
    split at h
    · cases h
    split at h
    case h_2 => cases h
    case h_1 =>
    split at h
    case h_2 => cases h
    case h_1 =>
    split at h
    · cases h
    · unfold am_nx at h; cases h
  case h_1 q1 mj' na kd ci hlk =>
  split at h
  · cases h
  rename_i hc0
  simp only [not_or, Classical.not_not] at hc0
  obtain ⟨hna, hkd⟩ := hc0
  split at h
  case h_2 => cases h
  case h_1 q2 as' r' hr =>
  split at h
  · cases h
  rename_i hc1
  simp only [not_or] at hc1
  obtain ⟨hr8, hml⟩ := hc1
  have hh := Option.some.inj h
  have hh := Sum.inr.inj (Sum.inr.inj hh)
  simp only [Prod.mk.injEq] at hh
  obtain ⟨rfl, rfl, rfl⟩ := hh
  obtain ⟨gcode, gpl, gfr, glo, gini, gd, glink, gV, gS, gI⟩ := G.2.2.2.2.2.2.2.1 mi ix mj' na kd ci hlk
  have hmono := h1.1
  refine ⟨⟨Nat.le_trans h1.1.1 h2.1.1, Nat.le_trans h1.1.2 h2.1.2⟩, fun p e R s m args below meth c H locs cells slots Q ls ws tys hF hE hO hL hst hc hs kk => ?_⟩
  have hlw : ws.length ≤ 1048576 := by rw [hO.1.1]; exact hO.1.2.1
  have hin1 : ∀ v ∈ st.take na, v ∈ st := fun v hv => List.mem_of_mem_take hv
  have hin2 : ∀ v ∈ st.drop na, v ∈ st := fun v hv => List.mem_of_mem_drop hv
  have hHs : ∀ q, H.size ≤ q → A q := fun q hq => hO.2.2.2.2.2 q (Nat.le_trans hO.2.2.2.2.1.1 hq)
  have hEm : ∀ U : State, U.heap = H → s.WarmedH U.vm → am_E P X ra A U H := fun U hU hW => am_E.moved G hE hW hO.2.2.2.2.1.1 (fun q q1 q2 => hO.2.2.2.2.1.2.1 q q1 q2)
  have hgood : GoodIn X.1 (Cond.code (X.2.2.2.1 mj') (X.2.2.1 mj') (P.2.2.2.2.2.1 mj') (P.2.2.2.2.1 mj') :: X.1) := by
    intro w hw
    have hw : w ∈ X.1 := by
      rcases List.mem_cons.mp hw with rfl | hw
      · exact gcode
      · exact hw
    exact ⟨hw, G.2.2.2.2.2.1 w hw⟩
  have hblind : ∀ as0 : List Value, FrameBlind (am_Pc P X D cl ra A ws tys H as0) := fun as0 a U g mk q => ⟨q.1, q.2.1, va_K.moved (u := U) (U := U.calling g mk a) (Vm.Alike.refl U.vm) q.2.2.1, am_E.same G q.2.2.2 rfl⟩
  have hroom : (X.2.2.2.2.2.2.1 mj' + 1 ≤ R.frames) ∧ 8 + (P.2.2.2.2.2.1 mj' + 11) + X.2.2.2.2.2.2.2 mj' ≤ R.locals := ⟨Nat.le_trans gfr hF.2.2.2.2.2.2.2.2.1, Nat.le_trans glo hF.2.2.2.2.2.2.2.2.2⟩
  have hcs : cells + (sh1.length - sh.length) ≤ R.cells ∧ slots + (am_sz sh1 - am_sz sh) ≤ R.slots := by
    have e1 := h1.1
    have e2 := h2.1
    omega
  have hS0 : CallFix p m c (X.2.2.1 mi) (P.2.2.2.2.2.1 mi) s args X.1 (X.2.2.2.1 mi).cls := ⟨hF.1, hF.2.1, hF.2.2.1, hF.2.2.2.2.2.2.1, hF.2.2.2.2.2.1⟩
  have hts := hF.2.2.2.2.2.1
  rcases hi with ⟨rfl, rfl⟩ | ⟨rfl, rfl⟩ | ⟨rfl, rfl⟩
  · -- virtual
    rw [if_neg (by decide)] at hr
    split at hr
    case h_2 => cases hr
    case h_1 q3 b r2 hdrop =>
    rw [if_pos rfl] at hr
    split at hr
    case h_2 => cases hr
    case h_1 q4 cj fs hsh =>
    rw [am_nth_eq] at hsh
    by_cases hcj : cj = ci
    case neg => rw [if_neg hcj] at hr; cases hr
    subst hcj
    rw [if_pos rfl] at hr
    cases hr
    obtain ⟨gV1, gV2, T, N, gV3⟩ := gV hkd
    have hst1 : ∀ v ∈ r', am_ok ws.length v := fun v hv => hst v (hin2 v (by rw [hdrop]; exact List.mem_cons_of_mem _ hv))
    have hob : am_ok ws.length (.ref b) := hst _ (hin2 _ (by rw [hdrop]; exact List.mem_cons_self))
    have hoks : ∀ v ∈ Value.ref b :: (st.take na).reverse, am_ok ws.length v := fun v hv => by
      rcases List.mem_cons.mp hv with rfl | hv
      · exact hob
      · exact hst v (hin1 v (List.mem_reverse.mp hv))
    have hM := am_met G gpl hml h1 hO.1 hO.2.1 hO.2.2.1 hHs hoks (tys := tys)
    have hstk : st.map (am_tv ra ws) = ((st.take na).reverse.map (am_tv ra ws)).reverse ++ .ref (am_ad ra ws b) :: r'.map (am_tv ra ws) := by
      rw [am_take (am_tv ra ws) st na, hdrop]
      rfl
    obtain ⟨b', eb, hb1, vs, rfl, -⟩ := hO.1.2.2 b _ hsh
    have hrec := va_recv hO.2.2.2.1 hO.2.1 gV3 hb1
    rw [← am_ad_at (ra := ra) hb1] at hrec
    have hPre : PreV s H (X.2.2.2.1 mj').cls (am_ad ra ws b) (am_Pc P X D cl ra A ws tys H (.ref b :: (st.take na).reverse)) ((st.take na).reverse.map (am_tv ra ws)) :=
      ⟨hblind _, hrec, fun U hU hW => ⟨rfl, hU, va_K.moved hW.alike hO.2.2.2.1, hEm U hU hW⟩⟩
    have hlen : ((st.take na).reverse.map (am_tv ra ws)).length = na := by simp; omega
    have h8 : 2 * (F0 m pc ls (st.map (am_tv ra ws))).monitorRoom + ((r'.map (am_tv ra ws)).map fun v => v.category).sum ≤ 8 := lv_room (by rw [am_cat_sum r' hst1]; omega)
    refine am_Go.back h2 hmono hF hE hlw hO.2.2.2.2.1 hO.2.2.2.2.2 hL hst1 hc hs kk (tys := tys) (a := (Value.ref (am_ad ra ws b) :: (st.take na).reverse.map (am_tv ra ws)).toArray) ?_
    rcases glink with gl | ⟨host, gl⟩
    · exact va_runV hS0 hM ⟨callB_of na hts hgood rfl rfl rfl (hts _ gini) (hts _ gl) gd hroom, hts _ gV1, hts _ gV2⟩ hPre rfl hlen hL.1 hstk h8 hdg hcs
    · exact va_runVN hS0 hM ⟨va_cnB na hts hgood rfl rfl rfl (hE.1 _ gl) (hts _ gini) gd hroom, hts _ gV1, hts _ gV2⟩ hPre rfl hlen hL.1 hstk h8 hdg hcs
  · -- static
    rw [if_pos rfl] at hr
    cases hr
    have hst1 : ∀ v ∈ st.drop na, am_ok ws.length v := fun v hv => hst v (hin2 v hv)
    have hoks : ∀ v ∈ (st.take na).reverse, am_ok ws.length v := fun v hv => hst v (hin1 v (List.mem_reverse.mp hv))
    have hM := am_met G gpl hml h1 hO.1 hO.2.1 hO.2.2.1 hHs hoks (tys := tys)
    have hPre : PreS s H (am_Pc P X D cl ra A ws tys H ((st.take na).reverse)) ((st.take na).reverse.map (am_tv ra ws)) :=
      ⟨hblind _, fun U hU hW => ⟨rfl, hU, va_K.moved hW.alike hO.2.2.2.1, hEm U hU hW⟩⟩
    have hlen : ((st.take na).reverse.map (am_tv ra ws)).length = na := by simp; omega
    have h8 : 2 * (F0 m pc ls (st.map (am_tv ra ws))).monitorRoom + (((st.drop na).map (am_tv ra ws)).map fun v => v.category).sum ≤ 8 := lv_room (by rw [am_cat_sum _ hst1]; omega)
    refine am_Go.back h2 hmono hF hE hlw hO.2.2.2.2.1 hO.2.2.2.2.2 hL hst1 hc hs kk (tys := tys) (a := ((st.take na).reverse.map (am_tv ra ws)).toArray) ?_
    rcases glink with gl | ⟨host, gl⟩
    · exact va_runS hS0 hM ⟨callB_of na hts hgood rfl rfl rfl (hts _ gini) (hts _ gl) gd hroom, hts _ (gS hkd)⟩ hPre rfl hlen hL.1 (am_take (am_tv ra ws) st na) h8 hdg hcs
    · exact va_runSN hS0 hM ⟨va_cnB na hts hgood rfl rfl rfl (hE.1 _ gl) (hts _ gini) gd hroom, hts _ (gS hkd), trivial⟩ hPre rfl hlen hL.1 (am_take (am_tv ra ws) st na) h8 hdg hcs
  · -- constructor
    rw [if_neg (by decide)] at hr
    split at hr
    case h_2 => cases hr
    case h_1 q3 b r2 hdrop =>
    rw [if_neg (by decide)] at hr
    cases hr
    obtain ⟨gI1, gI2, gI3⟩ := gI hkd
    have hst1 : ∀ v ∈ r', am_ok ws.length v := fun v hv => hst v (hin2 v (by rw [hdrop]; exact List.mem_cons_of_mem _ hv))
    have hob : am_ok ws.length (.ref b) := hst _ (hin2 _ (by rw [hdrop]; exact List.mem_cons_self))
    have hoks : ∀ v ∈ Value.ref b :: (st.take na).reverse, am_ok ws.length v := fun v hv => by
      rcases List.mem_cons.mp hv with rfl | hv
      · exact hob
      · exact hst v (hin1 v (List.mem_reverse.mp hv))
    have hM := am_met G gpl hml h1 hO.1 hO.2.1 hO.2.2.1 hHs hoks (tys := tys)
    rw [gI3] at hM hgood
    have hstk : st.map (am_tv ra ws) = ((st.take na).reverse.map (am_tv ra ws)).reverse ++ .ref (am_ad ra ws b) :: r'.map (am_tv ra ws) := by
      rw [am_take (am_tv ra ws) st na, hdrop]
      rfl
    have hPre : PreS s H (am_Pc P X D cl ra A ws tys H (.ref b :: (st.take na).reverse)) (.ref (am_ad ra ws b) :: (st.take na).reverse.map (am_tv ra ws)) :=
      ⟨hblind _, fun U hU hW => ⟨rfl, hU, va_K.moved hW.alike hO.2.2.2.1, hEm U hU hW⟩⟩
    have hlen : ((st.take na).reverse.map (am_tv ra ws)).length = na := by simp; omega
    have h8 : 2 * (F0 m pc ls (st.map (am_tv ra ws))).monitorRoom + ((r'.map (am_tv ra ws)).map fun v => v.category).sum ≤ 8 := lv_room (by rw [am_cat_sum r' hst1]; omega)
    refine am_Go.back h2 hmono hF hE hlw hO.2.2.2.2.1 hO.2.2.2.2.2 hL hst1 hc hs kk (tys := tys) (a := (Value.ref (am_ad ra ws b) :: (st.take na).reverse.map (am_tv ra ws)).toArray) ?_
    rcases glink with gl | ⟨host, gl⟩
    · exact va_runI hS0 hM ⟨callB_of na hts hgood rfl rfl rfl (hts _ gini) (hts _ gl) gd hroom, gI2, hts _ gI1⟩ hPre rfl hlen hL.1 hstk h8 hdg hcs
    · exact va_runIN hS0 hM ⟨va_cnB na hts hgood rfl rfl rfl (hE.1 _ gl) (hts _ gini) gd hroom, gI2, hts _ gI1⟩ hPre rfl hlen hL.1 hstk h8 hdg hcs
theorem am_oth_ret {mi pc n : Nat} {i : am_I} {L : List (Option Value)} {st : List Value} {sh sh' : List am_C} {M M' : am_M} {r : Option Value} (h : am_oth P mi pc i L st sh M = some (.inl (r, sh', M'))) (hdg : decode (X.2.2.1 mi) pc = .ok (i, n)) (hn : am_len i = 0 ∨ n = am_len i) : st = r.toList ∧ sh' = sh ∧ M' = M ∧ ∀ meth : Method, meth.sig.returnType = P.2.2.2.2.1 mi → am_Rt X mi meth r pc := by
  have hcal : ∀ ix ik, am_cal P mi pc ix ik L st sh M ≠ some (.inl (r, sh', M')) := by
    intro ix ik h
    unfold am_cal am_nx at h
    repeat' (split at h)
    all_goals cases h
  cases i
  case ireturn =>
    have hn : n = 1 := am_len1 (k := 1) (by decide) hn
    subst hn
    simp only [am_oth] at h
    split at h
    case h_2 => cases h
    case h_1 q1 q2 x ty hty =>
    by_cases hf : am_fit ty x = true
    case neg => rw [if_neg hf] at h; cases h
    rw [if_pos hf] at h
    cases h
    exact ⟨rfl, rfl, rfl, fun meth hm => Or.inr (Or.inl ⟨x, ty, rfl, by rw [hm]; exact hty, hf, hdg⟩)⟩
  case areturn =>
    have hn : n = 1 := am_len1 (k := 1) (by decide) hn
    subst hn
    simp only [am_oth] at h
    split at h
    case h_2 => cases h
    case h_1 q1 q2 a nm hty =>
    cases h
    exact ⟨rfl, rfl, rfl, fun meth hm => Or.inr (Or.inr ⟨a, nm, rfl, by rw [hm]; exact hty, hdg⟩)⟩
  case return_ =>
    have hn : n = 1 := am_len1 (k := 1) (by decide) hn
    subst hn
    simp only [am_oth] at h
    split at h
    case h_2 => cases h
    case h_1 q1 q2 hty =>
    cases h
    exact ⟨rfl, rfl, rfl, fun meth hm => Or.inl ⟨rfl, by rw [hm]; exact hty, hdg⟩⟩
  case invokevirtual ix => exact absurd h (hcal ix 0)
  case invokestatic ix => exact absurd h (hcal ix 1)
  case invokespecial ix => exact absurd h (hcal ix 2)
  all_goals (simp only [am_oth, am_nx, reduceCtorEq] at h)
  all_goals (repeat' (split at h))
  all_goals cases h
theorem am_oth_call {mi pc n : Nat} {i : am_I} {L : List (Option Value)} {st : List Value} {sh : List am_C} {M : am_M} {q : Nat × List Value × List Value} (h : am_oth P mi pc i L st sh M = some (.inr (.inr q))) (hn : am_len i = 0 ∨ n = am_len i) : n = 3 ∧ ∃ ix ik, ((ik = 0 ∧ i = .invokevirtual ix) ∨ (ik = 1 ∧ i = .invokestatic ix) ∨ (ik = 2 ∧ i = .invokespecial ix)) ∧ am_cal P mi pc ix ik L st sh M = some (.inr (.inr q)) := by
  cases i
  case invokevirtual ix => exact ⟨am_len1 (k := 3) (by decide) hn, ix, 0, Or.inl ⟨rfl, rfl⟩, h⟩
  case invokestatic ix => exact ⟨am_len1 (k := 3) (by decide) hn, ix, 1, Or.inr (Or.inl ⟨rfl, rfl⟩), h⟩
  case invokespecial ix => exact ⟨am_len1 (k := 3) (by decide) hn, ix, 2, Or.inr (Or.inr ⟨rfl, rfl⟩), h⟩
  all_goals (simp only [am_oth, am_nx, reduceCtorEq] at h)
  all_goals (repeat' (split at h))
  all_goals cases h
/-- what isn't 'go on' comes of jumps, calls, returns -/
theorem am_ins_oth {mi pc n : Nat} {i : am_I} {L : List (Option Value)} {st : List Value} {sh : List am_C} {M : am_M} {a : am_A} (h : am_ins P mi pc i n L st sh M = some a) (ha : ∀ q, a ≠ .inr (.inl q)) : am_oth P mi pc i L st sh M = some a := by
  have hnx : ∀ pc L st sh M, am_nx pc L st sh M ≠ some a := fun pc L st sh M q => ha _ (Option.some.inj q).symm
  unfold am_ins at h
  repeat' (split at h)
  all_goals first
    | exact h
    | exact absurd h (hnx _ _ _ _ _)
    | cases h
theorem am_sound_step (G : am_G P X cl) {K : am_K} (hK : am_Sd P X D cl ra A l K) : am_Sd P X D cl ra A l (am_step P K) := by
  intro mi pc L st sh M r sh' M' h
  unfold am_step am_act at h
  cases hco : P.1 mi pc with
  | none => rw [hco] at h; cases h
  | some q =>
    obtain ⟨i, n⟩ := q
    rw [hco] at h
    obtain ⟨hdg, hn⟩ := G.1 mi pc i n hco
    cases hins : am_ins P mi pc i n L st sh M with
    | none => simp only [hins, reduceCtorEq] at h
    | some a =>
      simp only [hins] at h
      rcases a with r0 | ⟨pc', L', st', sh1, M1⟩ | ⟨mj, as, rest⟩
      · cases h
        have ho := am_ins_oth hins (fun q e => by cases e)
        obtain ⟨rfl, rfl, rfl, hr⟩ := am_oth_ret (X := X) ho hdg hn
        exact am_Go.ret hr
      · exact am_Go.nx (am_ins_nx G hins hdg hn) (hK _ _ _ _ _ _ _ _ _ h)
      · have ho := am_ins_oth hins (fun q e => by cases e)
        obtain ⟨rfl, ix, ik, hi, hcal⟩ := am_oth_call ho hn
        dsimp only at h
        cases hk : K mj 0 (am_ent (P.2.2.2.2.2.1 mj) as) [] sh M with
        | none => rw [hk] at h; cases h
        | some w =>
          obtain ⟨rv, sh1, M1⟩ := w
          rw [hk] at h
          exact am_Go.call G hi hcal hdg (hK _ _ _ _ _ _ _ _ _ hk) (hK _ _ _ _ _ _ _ _ _ h)
theorem am_sound_run (G : am_G P X cl) : ∀ f, am_Sd P X D cl ra A l (am_run P f)
  | 0 => fun _ _ _ _ _ _ _ _ _ h => by cases h
  | f + 1 => am_sound_step G (am_sound_run G f)
/-- THE SMALL MACHINE IS SOUND -/
theorem am_sound (G : am_G P X cl) {mi pc : Nat} {L : List (Option Value)} {st : List Value} {sh sh' : List am_C} {M M' : am_M} {r : Option Value} (h : am_ev P mi pc L st sh M (r, sh', M')) : am_Go P X D cl ra A l mi pc L st sh M r sh' M' := by
  obtain ⟨f, h⟩ := h
  exact am_sound_run G f mi pc L st sh M r sh' M' h
end AMU
end
