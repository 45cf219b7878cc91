section
-- ===== PART A: goes FIRST, ahead of the names: the tables' words, and 'selects' of the private methods out of them =====
/-- a private method of a class that the tables say can be made, by its rows of tables_1 -/
def lw_okq (q : MethodName × Nat) : Prop := (q.1.cls ≠ "java/lang/invoke/MethodHandle" ∧ q.1.cls ≠ "java/lang/invoke/VarHandle") ∧ Cond.instantiable q.1.cls q.2 ∈ tables_1 ∧ Cond.privateMethod q.1 ∈ tables_1 ∧ Cond.instanceMethod q.1 ∈ tables_1
theorem lw_p0 : lw_okq (⟨"CountedActors$Draft", "leaveBlock", "()V"⟩, 4) := ⟨⟨by decide +kernel, by decide +kernel⟩, List.mem_of_getElem? (i := 39) (by decide +kernel), List.mem_of_getElem? (i := 281) (by decide +kernel), List.mem_of_getElem? (i := 282) (by decide +kernel)⟩
theorem lw_p1 : lw_okq (⟨"CountedActors$Program", "refusal", "(LCountedActors$Statement;)I"⟩, 4) := ⟨⟨by decide +kernel, by decide +kernel⟩, List.mem_of_getElem? (i := 31) (by decide +kernel), List.mem_of_getElem? (i := 309) (by decide +kernel), List.mem_of_getElem? (i := 310) (by decide +kernel)⟩
theorem lw_p2 : lw_okq (⟨"CountedActors$Draft", "isEmpty", "(I)Z"⟩, 4) := ⟨⟨by decide +kernel, by decide +kernel⟩, List.mem_of_getElem? (i := 39) (by decide +kernel), List.mem_of_getElem? (i := 339) (by decide +kernel), List.mem_of_getElem? (i := 340) (by decide +kernel)⟩
theorem lw_p3 : lw_okq (⟨"CountedActors$Draft", "refusalOfStoring", "(LCountedActors$Statement;I)I"⟩, 4) := ⟨⟨by decide +kernel, by decide +kernel⟩, List.mem_of_getElem? (i := 39) (by decide +kernel), List.mem_of_getElem? (i := 354) (by decide +kernel), List.mem_of_getElem? (i := 355) (by decide +kernel)⟩
theorem lw_p4 : lw_okq (⟨"CountedActors$Draft", "become", "(II)V"⟩, 4) := ⟨⟨by decide +kernel, by decide +kernel⟩, List.mem_of_getElem? (i := 39) (by decide +kernel), List.mem_of_getElem? (i := 385) (by decide +kernel), List.mem_of_getElem? (i := 386) (by decide +kernel)⟩
theorem lw_p5 : lw_okq (⟨"CountedActors$Draft", "emptied", "(I)I"⟩, 4) := ⟨⟨by decide +kernel, by decide +kernel⟩, List.mem_of_getElem? (i := 39) (by decide +kernel), List.mem_of_getElem? (i := 389) (by decide +kernel), List.mem_of_getElem? (i := 390) (by decide +kernel)⟩
theorem lw_p6 : lw_okq (⟨"CountedActors$Draft", "enterBlock", "()V"⟩, 4) := ⟨⟨by decide +kernel, by decide +kernel⟩, List.mem_of_getElem? (i := 39) (by decide +kernel), List.mem_of_getElem? (i := 403) (by decide +kernel), List.mem_of_getElem? (i := 404) (by decide +kernel)⟩
theorem lw_p7 : lw_okq (⟨"CountedActors$Draft", "shut", "(II)V"⟩, 4) := ⟨⟨by decide +kernel, by decide +kernel⟩, List.mem_of_getElem? (i := 39) (by decide +kernel), List.mem_of_getElem? (i := 408) (by decide +kernel), List.mem_of_getElem? (i := 409) (by decide +kernel)⟩
theorem lw_p8 : lw_okq (⟨"CountedActors", "isActor", "(I)Z"⟩, 7) := ⟨⟨by decide +kernel, by decide +kernel⟩, List.mem_of_getElem? (i := 17) (by decide +kernel), List.mem_of_getElem? (i := 458) (by decide +kernel), List.mem_of_getElem? (i := 459) (by decide +kernel)⟩
theorem lw_p9 : lw_okq (⟨"CountedActors$Machine", "countTaken", "(III)V"⟩, 8) := ⟨⟨by decide +kernel, by decide +kernel⟩, List.mem_of_getElem? (i := 200) (by decide +kernel), List.mem_of_getElem? (i := 505) (by decide +kernel), List.mem_of_getElem? (i := 506) (by decide +kernel)⟩
theorem lw_p10 : lw_okq (⟨"CountedActors$Machine", "run", "(IILCountedActors$Behaviour;)V"⟩, 8) := ⟨⟨by decide +kernel, by decide +kernel⟩, List.mem_of_getElem? (i := 200) (by decide +kernel), List.mem_of_getElem? (i := 547) (by decide +kernel), List.mem_of_getElem? (i := 548) (by decide +kernel)⟩
theorem lw_p11 : lw_okq (⟨"CountedActors$Machine", "perform", "(ILCountedActors$Statement;)V"⟩, 8) := ⟨⟨by decide +kernel, by decide +kernel⟩, List.mem_of_getElem? (i := 200) (by decide +kernel), List.mem_of_getElem? (i := 554) (by decide +kernel), List.mem_of_getElem? (i := 555) (by decide +kernel)⟩
theorem lw_p12 : lw_okq (⟨"CountedActors$Machine", "makeObject", "(I)I"⟩, 8) := ⟨⟨by decide +kernel, by decide +kernel⟩, List.mem_of_getElem? (i := 200) (by decide +kernel), List.mem_of_getElem? (i := 558) (by decide +kernel), List.mem_of_getElem? (i := 559) (by decide +kernel)⟩
theorem lw_p13 : lw_okq (⟨"CountedActors$Heap", "clear", "(I)V"⟩, 4) := ⟨⟨by decide +kernel, by decide +kernel⟩, List.mem_of_getElem? (i := 124) (by decide +kernel), List.mem_of_getElem? (i := 566) (by decide +kernel), List.mem_of_getElem? (i := 567) (by decide +kernel)⟩
theorem lw_p14 : lw_okq (⟨"CountedActors$Machine", "holderOf", "(II)I"⟩, 8) := ⟨⟨by decide +kernel, by decide +kernel⟩, List.mem_of_getElem? (i := 200) (by decide +kernel), List.mem_of_getElem? (i := 574) (by decide +kernel), List.mem_of_getElem? (i := 575) (by decide +kernel)⟩
theorem lw_p15 : lw_okq (⟨"CountedActors$Machine", "read", "(II)I"⟩, 8) := ⟨⟨by decide +kernel, by decide +kernel⟩, List.mem_of_getElem? (i := 200) (by decide +kernel), List.mem_of_getElem? (i := 581) (by decide +kernel), List.mem_of_getElem? (i := 582) (by decide +kernel)⟩
def lw_privs_1 : List (MethodName × Nat) := [(⟨"CountedActors$Draft", "leaveBlock", "()V"⟩, 4), (⟨"CountedActors$Program", "refusal", "(LCountedActors$Statement;)I"⟩, 4), (⟨"CountedActors$Draft", "isEmpty", "(I)Z"⟩, 4), (⟨"CountedActors$Draft", "refusalOfStoring", "(LCountedActors$Statement;I)I"⟩, 4), (⟨"CountedActors$Draft", "become", "(II)V"⟩, 4), (⟨"CountedActors$Draft", "emptied", "(I)I"⟩, 4), (⟨"CountedActors$Draft", "enterBlock", "()V"⟩, 4), (⟨"CountedActors$Draft", "shut", "(II)V"⟩, 4), (⟨"CountedActors", "isActor", "(I)Z"⟩, 7), (⟨"CountedActors$Machine", "countTaken", "(III)V"⟩, 8), (⟨"CountedActors$Machine", "run", "(IILCountedActors$Behaviour;)V"⟩, 8), (⟨"CountedActors$Machine", "perform", "(ILCountedActors$Statement;)V"⟩, 8), (⟨"CountedActors$Machine", "makeObject", "(I)I"⟩, 8), (⟨"CountedActors$Heap", "clear", "(I)V"⟩, 4), (⟨"CountedActors$Machine", "holderOf", "(II)I"⟩, 8), (⟨"CountedActors$Machine", "read", "(II)I"⟩, 8)]
theorem lw_r1 : ∀ q ∈ lw_privs_1, lw_okq q := List.forall_mem_cons.mpr ⟨lw_p0, List.forall_mem_cons.mpr ⟨lw_p1, List.forall_mem_cons.mpr ⟨lw_p2, List.forall_mem_cons.mpr ⟨lw_p3, List.forall_mem_cons.mpr ⟨lw_p4, List.forall_mem_cons.mpr ⟨lw_p5, List.forall_mem_cons.mpr ⟨lw_p6, List.forall_mem_cons.mpr ⟨lw_p7, List.forall_mem_cons.mpr ⟨lw_p8, List.forall_mem_cons.mpr ⟨lw_p9, List.forall_mem_cons.mpr ⟨lw_p10, List.forall_mem_cons.mpr ⟨lw_p11, List.forall_mem_cons.mpr ⟨lw_p12, List.forall_mem_cons.mpr ⟨lw_p13, List.forall_mem_cons.mpr ⟨lw_p14, List.forall_mem_cons.mpr ⟨lw_p15, fun _ h => absurd h List.not_mem_nil⟩⟩⟩⟩⟩⟩⟩⟩⟩⟩⟩⟩⟩⟩⟩⟩
theorem lw_p16 : lw_okq (⟨"CountedActors$Machine", "replace", "(III)I"⟩, 8) := ⟨⟨by decide +kernel, by decide +kernel⟩, List.mem_of_getElem? (i := 200) (by decide +kernel), List.mem_of_getElem? (i := 586) (by decide +kernel), List.mem_of_getElem? (i := 587) (by decide +kernel)⟩
theorem lw_p17 : lw_okq (⟨"CountedActors$Machine", "growCell", "(II)V"⟩, 8) := ⟨⟨by decide +kernel, by decide +kernel⟩, List.mem_of_getElem? (i := 200) (by decide +kernel), List.mem_of_getElem? (i := 591) (by decide +kernel), List.mem_of_getElem? (i := 592) (by decide +kernel)⟩
theorem lw_p18 : lw_okq (⟨"CountedActors$Machine", "showCell", "(I)V"⟩, 8) := ⟨⟨by decide +kernel, by decide +kernel⟩, List.mem_of_getElem? (i := 200) (by decide +kernel), List.mem_of_getElem? (i := 599) (by decide +kernel), List.mem_of_getElem? (i := 600) (by decide +kernel)⟩
theorem lw_p19 : lw_okq (⟨"CountedActors$Machine", "send", "(IIII)V"⟩, 8) := ⟨⟨by decide +kernel, by decide +kernel⟩, List.mem_of_getElem? (i := 200) (by decide +kernel), List.mem_of_getElem? (i := 614) (by decide +kernel), List.mem_of_getElem? (i := 615) (by decide +kernel)⟩
theorem lw_p20 : lw_okq (⟨"CountedActors$Machine", "raisesNeeded", "(I)I"⟩, 8) := ⟨⟨by decide +kernel, by decide +kernel⟩, List.mem_of_getElem? (i := 200) (by decide +kernel), List.mem_of_getElem? (i := 619) (by decide +kernel), List.mem_of_getElem? (i := 620) (by decide +kernel)⟩
theorem lw_p21 : lw_okq (⟨"CountedActors$Machine", "countSent", "(II)V"⟩, 8) := ⟨⟨by decide +kernel, by decide +kernel⟩, List.mem_of_getElem? (i := 200) (by decide +kernel), List.mem_of_getElem? (i := 627) (by decide +kernel), List.mem_of_getElem? (i := 628) (by decide +kernel)⟩
theorem lw_p22 : lw_okq (⟨"CountedActors$Machine", "isUnkept", "(I)Z"⟩, 8) := ⟨⟨by decide +kernel, by decide +kernel⟩, List.mem_of_getElem? (i := 200) (by decide +kernel), List.mem_of_getElem? (i := 646) (by decide +kernel), List.mem_of_getElem? (i := 647) (by decide +kernel)⟩
theorem lw_p23 : lw_okq (⟨"CountedActors$Machine", "giveBack", "(II)V"⟩, 8) := ⟨⟨by decide +kernel, by decide +kernel⟩, List.mem_of_getElem? (i := 200) (by decide +kernel), List.mem_of_getElem? (i := 658) (by decide +kernel), List.mem_of_getElem? (i := 659) (by decide +kernel)⟩
theorem lw_p24 : lw_okq (⟨"CountedActorsModel", "replay", "()V"⟩, 27) := ⟨⟨by decide +kernel, by decide +kernel⟩, List.mem_of_getElem? (i := 754) (by decide +kernel), List.mem_of_getElem? (i := 857) (by decide +kernel), List.mem_of_getElem? (i := 858) (by decide +kernel)⟩
theorem lw_p25 : lw_okq (⟨"CountedActorsModel", "effect", "(I)V"⟩, 27) := ⟨⟨by decide +kernel, by decide +kernel⟩, List.mem_of_getElem? (i := 754) (by decide +kernel), List.mem_of_getElem? (i := 861) (by decide +kernel), List.mem_of_getElem? (i := 862) (by decide +kernel)⟩
theorem lw_p26 : lw_okq (⟨"CountedActorsModel", "become", "(II)V"⟩, 27) := ⟨⟨by decide +kernel, by decide +kernel⟩, List.mem_of_getElem? (i := 754) (by decide +kernel), List.mem_of_getElem? (i := 865) (by decide +kernel), List.mem_of_getElem? (i := 866) (by decide +kernel)⟩
theorem lw_p27 : lw_okq (⟨"CountedActorsModel", "has", "(I)I"⟩, 27) := ⟨⟨by decide +kernel, by decide +kernel⟩, List.mem_of_getElem? (i := 754) (by decide +kernel), List.mem_of_getElem? (i := 872) (by decide +kernel), List.mem_of_getElem? (i := 873) (by decide +kernel)⟩
theorem lw_p28 : lw_okq (⟨"CountedActorsModel", "leave", "(II)V"⟩, 27) := ⟨⟨by decide +kernel, by decide +kernel⟩, List.mem_of_getElem? (i := 754) (by decide +kernel), List.mem_of_getElem? (i := 892) (by decide +kernel), List.mem_of_getElem? (i := 893) (by decide +kernel)⟩
theorem lw_p29 : lw_okq (⟨"CountedActorsModel", "refusal", "(IIIII)I"⟩, 27) := ⟨⟨by decide +kernel, by decide +kernel⟩, List.mem_of_getElem? (i := 754) (by decide +kernel), List.mem_of_getElem? (i := 903) (by decide +kernel), List.mem_of_getElem? (i := 904) (by decide +kernel)⟩
theorem lw_p30 : lw_okq (⟨"CountedActorsModel", "named", "(IIIII)Z"⟩, 27) := ⟨⟨by decide +kernel, by decide +kernel⟩, List.mem_of_getElem? (i := 754) (by decide +kernel), List.mem_of_getElem? (i := 907) (by decide +kernel), List.mem_of_getElem? (i := 908) (by decide +kernel)⟩
theorem lw_p31 : lw_okq (⟨"CountedActorsModel", "say", "(IIII)V"⟩, 27) := ⟨⟨by decide +kernel, by decide +kernel⟩, List.mem_of_getElem? (i := 754) (by decide +kernel), List.mem_of_getElem? (i := 934) (by decide +kernel), List.mem_of_getElem? (i := 935) (by decide +kernel)⟩
def lw_privs_2 : List (MethodName × Nat) := [(⟨"CountedActors$Machine", "replace", "(III)I"⟩, 8), (⟨"CountedActors$Machine", "growCell", "(II)V"⟩, 8), (⟨"CountedActors$Machine", "showCell", "(I)V"⟩, 8), (⟨"CountedActors$Machine", "send", "(IIII)V"⟩, 8), (⟨"CountedActors$Machine", "raisesNeeded", "(I)I"⟩, 8), (⟨"CountedActors$Machine", "countSent", "(II)V"⟩, 8), (⟨"CountedActors$Machine", "isUnkept", "(I)Z"⟩, 8), (⟨"CountedActors$Machine", "giveBack", "(II)V"⟩, 8), (⟨"CountedActorsModel", "replay", "()V"⟩, 27), (⟨"CountedActorsModel", "effect", "(I)V"⟩, 27), (⟨"CountedActorsModel", "become", "(II)V"⟩, 27), (⟨"CountedActorsModel", "has", "(I)I"⟩, 27), (⟨"CountedActorsModel", "leave", "(II)V"⟩, 27), (⟨"CountedActorsModel", "refusal", "(IIIII)I"⟩, 27), (⟨"CountedActorsModel", "named", "(IIIII)Z"⟩, 27), (⟨"CountedActorsModel", "say", "(IIII)V"⟩, 27)]
theorem lw_r2 : ∀ q ∈ lw_privs_2, lw_okq q := List.forall_mem_cons.mpr ⟨lw_p16, List.forall_mem_cons.mpr ⟨lw_p17, List.forall_mem_cons.mpr ⟨lw_p18, List.forall_mem_cons.mpr ⟨lw_p19, List.forall_mem_cons.mpr ⟨lw_p20, List.forall_mem_cons.mpr ⟨lw_p21, List.forall_mem_cons.mpr ⟨lw_p22, List.forall_mem_cons.mpr ⟨lw_p23, List.forall_mem_cons.mpr ⟨lw_p24, List.forall_mem_cons.mpr ⟨lw_p25, List.forall_mem_cons.mpr ⟨lw_p26, List.forall_mem_cons.mpr ⟨lw_p27, List.forall_mem_cons.mpr ⟨lw_p28, List.forall_mem_cons.mpr ⟨lw_p29, List.forall_mem_cons.mpr ⟨lw_p30, List.forall_mem_cons.mpr ⟨lw_p31, fun _ h => absurd h List.not_mem_nil⟩⟩⟩⟩⟩⟩⟩⟩⟩⟩⟩⟩⟩⟩⟩⟩
theorem lw_p32 : lw_okq (⟨"CountedActorsModel", "forget", "(I)V"⟩, 27) := ⟨⟨by decide +kernel, by decide +kernel⟩, List.mem_of_getElem? (i := 754) (by decide +kernel), List.mem_of_getElem? (i := 942) (by decide +kernel), List.mem_of_getElem? (i := 943) (by decide +kernel)⟩
theorem lw_p33 : lw_okq (⟨"CountedActorsModel", "clear", "()V"⟩, 27) := ⟨⟨by decide +kernel, by decide +kernel⟩, List.mem_of_getElem? (i := 754) (by decide +kernel), List.mem_of_getElem? (i := 946) (by decide +kernel), List.mem_of_getElem? (i := 947) (by decide +kernel)⟩
theorem lw_p34 : lw_okq (⟨"CountedActorsModel", "root", "(II)V"⟩, 27) := ⟨⟨by decide +kernel, by decide +kernel⟩, List.mem_of_getElem? (i := 754) (by decide +kernel), List.mem_of_getElem? (i := 950) (by decide +kernel), List.mem_of_getElem? (i := 951) (by decide +kernel)⟩
theorem lw_p35 : lw_okq (⟨"CountedActorsModel", "spread", "()V"⟩, 27) := ⟨⟨by decide +kernel, by decide +kernel⟩, List.mem_of_getElem? (i := 754) (by decide +kernel), List.mem_of_getElem? (i := 954) (by decide +kernel), List.mem_of_getElem? (i := 955) (by decide +kernel)⟩
theorem lw_p36 : lw_okq (⟨"CountedActorsModel", "act", "(II)V"⟩, 27) := ⟨⟨by decide +kernel, by decide +kernel⟩, List.mem_of_getElem? (i := 754) (by decide +kernel), List.mem_of_getElem? (i := 958) (by decide +kernel), List.mem_of_getElem? (i := 959) (by decide +kernel)⟩
theorem lw_p37 : lw_okq (⟨"CountedActorsModel", "made", "(I)I"⟩, 27) := ⟨⟨by decide +kernel, by decide +kernel⟩, List.mem_of_getElem? (i := 754) (by decide +kernel), List.mem_of_getElem? (i := 962) (by decide +kernel), List.mem_of_getElem? (i := 963) (by decide +kernel)⟩
theorem lw_p38 : lw_okq (⟨"CountedActorsModel", "read", "(III)I"⟩, 27) := ⟨⟨by decide +kernel, by decide +kernel⟩, List.mem_of_getElem? (i := 754) (by decide +kernel), List.mem_of_getElem? (i := 966) (by decide +kernel), List.mem_of_getElem? (i := 967) (by decide +kernel)⟩
theorem lw_p39 : lw_okq (⟨"CountedActorsModel", "write", "(IIII)V"⟩, 27) := ⟨⟨by decide +kernel, by decide +kernel⟩, List.mem_of_getElem? (i := 754) (by decide +kernel), List.mem_of_getElem? (i := 970) (by decide +kernel), List.mem_of_getElem? (i := 971) (by decide +kernel)⟩
theorem lw_p40 : lw_okq (⟨"CountedActorsModel", "show", "(I)V"⟩, 27) := ⟨⟨by decide +kernel, by decide +kernel⟩, List.mem_of_getElem? (i := 754) (by decide +kernel), List.mem_of_getElem? (i := 974) (by decide +kernel), List.mem_of_getElem? (i := 975) (by decide +kernel)⟩
theorem lw_p41 : lw_okq (⟨"CountedActorsModel", "send", "(IIII)V"⟩, 27) := ⟨⟨by decide +kernel, by decide +kernel⟩, List.mem_of_getElem? (i := 754) (by decide +kernel), List.mem_of_getElem? (i := 978) (by decide +kernel), List.mem_of_getElem? (i := 979) (by decide +kernel)⟩
theorem lw_p42 : lw_okq (⟨"CountedActorsModel", "pay", "(II)V"⟩, 27) := ⟨⟨by decide +kernel, by decide +kernel⟩, List.mem_of_getElem? (i := 754) (by decide +kernel), List.mem_of_getElem? (i := 982) (by decide +kernel), List.mem_of_getElem? (i := 983) (by decide +kernel)⟩
theorem lw_p43 : lw_okq (⟨"CountedActorsModel", "ownRoots", "(I)V"⟩, 27) := ⟨⟨by decide +kernel, by decide +kernel⟩, List.mem_of_getElem? (i := 754) (by decide +kernel), List.mem_of_getElem? (i := 990) (by decide +kernel), List.mem_of_getElem? (i := 991) (by decide +kernel)⟩
theorem lw_p44 : lw_okq (⟨"CountedActorsModel", "remove", "(I)V"⟩, 27) := ⟨⟨by decide +kernel, by decide +kernel⟩, List.mem_of_getElem? (i := 754) (by decide +kernel), List.mem_of_getElem? (i := 994) (by decide +kernel), List.mem_of_getElem? (i := 995) (by decide +kernel)⟩
theorem lw_p45 : lw_okq (⟨"CountedActorsModel", "there", "(I)Z"⟩, 27) := ⟨⟨by decide +kernel, by decide +kernel⟩, List.mem_of_getElem? (i := 754) (by decide +kernel), List.mem_of_getElem? (i := 1006) (by decide +kernel), List.mem_of_getElem? (i := 1007) (by decide +kernel)⟩
theorem lw_p46 : lw_okq (⟨"CountedActorsModel", "look", "()V"⟩, 27) := ⟨⟨by decide +kernel, by decide +kernel⟩, List.mem_of_getElem? (i := 754) (by decide +kernel), List.mem_of_getElem? (i := 1030) (by decide +kernel), List.mem_of_getElem? (i := 1031) (by decide +kernel)⟩
def lw_privs_3 : List (MethodName × Nat) := [(⟨"CountedActorsModel", "forget", "(I)V"⟩, 27), (⟨"CountedActorsModel", "clear", "()V"⟩, 27), (⟨"CountedActorsModel", "root", "(II)V"⟩, 27), (⟨"CountedActorsModel", "spread", "()V"⟩, 27), (⟨"CountedActorsModel", "act", "(II)V"⟩, 27), (⟨"CountedActorsModel", "made", "(I)I"⟩, 27), (⟨"CountedActorsModel", "read", "(III)I"⟩, 27), (⟨"CountedActorsModel", "write", "(IIII)V"⟩, 27), (⟨"CountedActorsModel", "show", "(I)V"⟩, 27), (⟨"CountedActorsModel", "send", "(IIII)V"⟩, 27), (⟨"CountedActorsModel", "pay", "(II)V"⟩, 27), (⟨"CountedActorsModel", "ownRoots", "(I)V"⟩, 27), (⟨"CountedActorsModel", "remove", "(I)V"⟩, 27), (⟨"CountedActorsModel", "there", "(I)Z"⟩, 27), (⟨"CountedActorsModel", "look", "()V"⟩, 27)]
theorem lw_r3 : ∀ q ∈ lw_privs_3, lw_okq q := List.forall_mem_cons.mpr ⟨lw_p32, List.forall_mem_cons.mpr ⟨lw_p33, List.forall_mem_cons.mpr ⟨lw_p34, List.forall_mem_cons.mpr ⟨lw_p35, List.forall_mem_cons.mpr ⟨lw_p36, List.forall_mem_cons.mpr ⟨lw_p37, List.forall_mem_cons.mpr ⟨lw_p38, List.forall_mem_cons.mpr ⟨lw_p39, List.forall_mem_cons.mpr ⟨lw_p40, List.forall_mem_cons.mpr ⟨lw_p41, List.forall_mem_cons.mpr ⟨lw_p42, List.forall_mem_cons.mpr ⟨lw_p43, List.forall_mem_cons.mpr ⟨lw_p44, List.forall_mem_cons.mpr ⟨lw_p45, List.forall_mem_cons.mpr ⟨lw_p46, fun _ h => absurd h List.not_mem_nil⟩⟩⟩⟩⟩⟩⟩⟩⟩⟩⟩⟩⟩⟩⟩
def lw_privs : List (MethodName × Nat) := lw_privs_1 ++ (lw_privs_2 ++ (lw_privs_3))
def lw_tbl : List Cond := k2_sels lw_privs ++ tables_1
theorem lw_privs_ok : ∀ q ∈ lw_privs, lw_okq q := by
  show ∀ q ∈ lw_privs_1 ++ (lw_privs_2 ++ (lw_privs_3)), lw_okq q
  exact List.forall_mem_append.mpr ⟨lw_r1, List.forall_mem_append.mpr ⟨lw_r2, lw_r3⟩⟩
-- ===== end of PART A; then your names; then what follows =====
end
section
/-! Math.floorMod of a number that isn't negative, by 16: its contract, and a row for its call -/
def fm_y : MethodName := ⟨"java/lang/Math", "floorMod", "(II)I"⟩
theorem fm_0 : decode prog_14_method_50_code 0 = .ok (.iload_n 0, 1) := by decide +kernel
theorem fm_1 : decode prog_14_method_50_code 1 = .ok (.iload_n 1, 1) := by decide +kernel
theorem fm_2 : decode prog_14_method_50_code 2 = .ok (.irem, 1) := by decide +kernel
theorem fm_3 : decode prog_14_method_50_code 3 = .ok (.istore_n 2, 1) := by decide +kernel
theorem fm_4 : decode prog_14_method_50_code 4 = .ok (.iload_n 0, 1) := by decide +kernel
theorem fm_5 : decode prog_14_method_50_code 5 = .ok (.iload_n 1, 1) := by decide +kernel
theorem fm_6 : decode prog_14_method_50_code 6 = .ok (.ixor, 1) := by decide +kernel
theorem fm_7 : decode prog_14_method_50_code 7 = .ok (.ifCond .ge 11, 3) := by decide +kernel
theorem fm_18 : decode prog_14_method_50_code 18 = .ok (.iload_n 2, 1) := by decide +kernel
theorem fm_19 : decode prog_14_method_50_code 19 = .ok (.ireturn, 1) := by decide +kernel
theorem fm_row0 : (NativeRow.find? natives fm_y.cls fm_y.name fm_y.desc).isNone = true := by decide +kernel
theorem fm_row (p : Program) : NativeRow.find? p.tables.natives fm_y.cls fm_y.name fm_y.desc = none := by
  cases p <;> exact Option.isNone_iff_eq_none.mp fm_row0
theorem fm_sg {x : Int32} (h : 0 ≤ x) : 0 ≤ x ^^^ 16 := by
  rw [Int32.le_iff_toInt_le] at h ⊢
  have h1 : x.toBitVec.msb = false := by
    rw [BitVec.msb_eq_toInt]
    exact decide_eq_false (Int.not_lt.mpr h)
  have h2 : (x ^^^ 16).toBitVec.msb = false := by
    rw [Int32.toBitVec_xor, BitVec.msb_xor, h1]
    rfl
  rw [BitVec.msb_eq_toInt] at h2
  exact Int.not_lt.mp (of_decide_eq_false h2)
def fm_spec : Spec where
  pre := .and (.code fm_y prog_14_method_50_code 3 (some .int)) (.and (.count 2) (.and (.isInt (.arg 0)) (.and (.isInt (.arg 1)) (.and (.eq (.arg 1) (.int 16)) (.le (.int 0) (.arg 0))))))
  post := .and .returned (.eq .result (.sub (.arg 0) (.mul (.div (.arg 0) (.arg 1)) (.arg 1))))
  changes := some []
set_option maxHeartbeats 4000000 in
theorem fm_meets (l : Launch) : MeetsLoose l fm_y fm_spec := by
  refine MeetsLoose.of_body_ov (code := prog_14_method_50_code) (maxLocals := 3) (ret := some .int) fm_row ?_ ?_
  · intro args s h
    simp only [fm_spec, Cond.before_and, Bool.and_eq_true] at h
    exact h.1
  · intro p e s m args below meth c s₁ B
    have hpre := B.pre
    simp only [fm_spec, Cond.before_and, Bool.and_eq_true] at hpre
    obtain ⟨a, b, rfl⟩ := Cond.two_ints hpre.2.1 hpre.2.2.1 hpre.2.2.2.1
    have hb : b = 16 := by
      have := hpre.2.2.2.2.1
      simp [Cond.before, Cond.holds, Cond.value, Term.eval] at this
      exact this
    have ha : 0 ≤ a := by
      have := hpre.2.2.2.2.2
      simp [Cond.before, Cond.holds, Cond.value, Term.eval] at this
      exact this
    subst hb
    have hx := fm_sg ha
    have hloc : argsToLocals #[.int a, .int 16] 3 = #[.val (.int a), .val (.int 16), .unset] := rfl
    obtain ⟨fs, hfs⟩ := handOver_isSome (s := s₁) (some (.int (a - a / 16 * 16))) B.hears₁
    refine ⟨s₁.setFrames fs, .returned (some (.int (a - a / 16 * 16))), ?_, B.here.running, B.ended hfs (by intro h; cases h), ?_, State.sameBut_nil.mpr ?_⟩
    · unfold entryFrame; rw [hloc]
      refine Steps.instrAtOv (c := _) (by simpa using B.here) ?_
      simp [jvm, wpRun, exec, B.here.top, B.exec, B.bytes, fm_0]
      refine Steps.instrAtOv (c := _) (by simpa using B.here) ?_
      simp [jvm, wpRun, exec, B.here.top, B.exec, B.bytes, fm_1]
      refine Steps.instrAtOv (c := _) (by simpa using B.here) ?_
      simp [jvm, wpRun, exec, B.here.top, B.exec, B.bytes, fm_2]
      refine Steps.instrAtOv (c := _) (by simpa using B.here) ?_
      simp [jvm, wpRun, exec, B.here.top, B.exec, B.bytes, fm_3]
      refine ⟨#[.val (.int a), .val (.int 16), .val (.int (a - a / 16 * 16))], rfl, ?_⟩
      refine Steps.instrAtOv (c := _) (by simpa using B.here) ?_
      simp [jvm, wpRun, exec, B.here.top, B.exec, B.bytes, fm_4]
      refine Steps.instrAtOv (c := _) (by simpa using B.here) ?_
      simp [jvm, wpRun, exec, B.here.top, B.exec, B.bytes, fm_5]
      refine Steps.instrAtOv (c := _) (by simpa using B.here) ?_
      simp [jvm, wpRun, exec, B.here.top, B.exec, B.bytes, fm_6]
      refine Steps.instrAtOv (c := _) (by simpa using B.here) ?_
      simp [jvm, wpRun, exec, B.here.top, B.exec, B.bytes, fm_7, ifCond.holds, hx]
      refine Steps.instrAtOv (c := _) (by simpa using B.here) ?_
      simp [jvm, wpRun, exec, B.here.top, B.exec, B.bytes, fm_18]
      refine Steps.instrAtOv (c := _) (by simpa using B.here) ?_
      simp [jvm, wpRun, exec, B.here.top, B.exec, B.bytes, fm_19, B.method₁, B.returns]
      intro acts
      rw [show narrow FieldType.int (Value.int (a - a / 16 * 16)) = Value.int (a - a / 16 * 16) from rfl, ret_to B.frames₁ B.method₁ B.notSynchronized rfl rfl hfs]
      exact Steps.refl _
    · simp [fm_spec, Cond.after, Cond.holds, Cond.value, Term.eval]
    · rw [State.frames_setFrames _ B.cur₁, B.back]
section FM
variable {p : Program} {l : Launch} {e : Env} {R : Room} {s : State} {m : MethodId} {args : Array Value} {below : List Frame} {meth : Method} {c : Code} {T : State} {H : Heap} {locs : List Loc} {cells slots : Nat} {Q : State → Prop}
set_option maxHeartbeats 4000000 in
theorem fm_callV (X : Stand p l e R s m args below meth c T locs cells slots) (hexec : p.tables.exec = Jvm.exec) {own : String} {index : Nat} (hown : s.vm.findClass own = some m.cls)
    (hlink : (Cond.methodLink own index fm_y).before args s = true) (hstat : (Cond.static fm_y).before args s = true) (hinit : (Cond.initialized "java/lang/Math").before args s = true)
    (hcode : (Cond.code fm_y prog_14_method_50_code 3 (some .int)).before args s = true)
    {g : JFrame} (hg : g.method = m) (hsize : g.locals.size = c.maxLocals) {a : Int32} (ha : 0 ≤ a) {rest : List Value} (hstack : g.stack = .int 16 :: .int a :: rest) (hdg : decode c.code g.pc = .ok (.invokestatic index, 3))
    (hframes : 1 ≤ R.frames) (hlocals : 2 * g.monitorRoom + (rest.map fun v => v.category).sum + 14 ≤ R.locals) (hcells : cells ≤ R.cells) (hslots : slots ≤ R.slots) :
    ∃ vm', Stand p l e R s m args below meth c (T.setVm vm') locs cells slots ∧
      ∀ target, Steps p.tables e below ((T.setVm vm').setTop { g with pc := g.pc + 3, stack := .int (a - a / 16 * 16) :: rest }) target → Steps p.tables e below (T.setTop g) target := by
  obtain ⟨v, T', X', ⟨first, t, hpost⟩, hstep⟩ := X.staticByContractV hexec hown hlink hstat hinit hcode (by decide) (fm_meets l) rfl rfl rfl rfl
    (fun args' first o s₂ h => by
      simp only [fm_spec, Cond.after_and, Bool.and_eq_true] at h
      cases o with
      | returned r => exact ⟨r, rfl⟩
      | threw y => simp [Cond.after, Cond.holds, Cond.value] at h)
    hg hsize (argsL := [.int a, .int 16]) (rest := rest)
    (fun sig hs => by
      have h : parseMethodDescriptor "(II)I" = some { parameters := [.int, .int], returnType := some .int } := by decide +kernel
      rw [show fm_y.desc = "(II)I" from rfl, h] at hs
      rw [← Option.some.inj hs]; rfl)
    hstack hdg
    (fun vm' hW => by
      simp only [fm_spec, Cond.before_and, Bool.and_eq_true]
      refine ⟨?_, rfl, rfl, rfl, ?_, ?_⟩
      · have q := hcode
        rw [← Cond.code_setVm hW.alike] at q
        simp only [Cond.before, Cond.holds, Cond.value, State.methodNamed?, State.vm_setVm] at q ⊢
        exact q
      · simp [Cond.before, Cond.holds, Cond.value, Term.eval]
      · simp [Cond.before, Cond.holds, Cond.value, Term.eval]; exact ha)
    (by show 0 + 1 ≤ R.frames; omega) (by show 2 * g.monitorRoom + (rest.map fun v => v.category).sum + (3 + 11) + 0 ≤ R.locals; omega) (by show cells + 0 ≤ R.cells; omega) (by show slots + 0 ≤ R.slots; omega)
  refine ⟨T', X', fun target h => hstep target ?_⟩
  obtain rfl : v = some (.int (a - a / 16 * 16)) := by
    rcases v with _ | w
    · simp [fm_spec, Cond.after, Cond.holds, Cond.value, Term.eval] at hpost
    · cases w <;> simp [fm_spec, Cond.after, Cond.holds, Cond.value, Term.eval] at hpost
      rw [hpost]
  exact h
theorem fm_call {cc : ByteArray} {pc : Nat} {ls : Array Slot} {rest : List Value} (hexec : p.tables.exec = Jvm.exec) (hb : c.code = cc) (hml : c.maxLocals = ls.size) {own : String} {index : Nat} (hown : s.vm.findClass own = some m.cls) (hlink : (Cond.methodLink own index fm_y).before args s = true) (hstat : (Cond.static fm_y).before args s = true) (hini : (Cond.initialized "java/lang/Math").before args s = true) (hcode : (Cond.code fm_y prog_14_method_50_code 3 (some .int)).before args s = true)
    (hframes : 1 ≤ R.frames) (hlocals : (rest.map fun v => v.category).sum + 14 ≤ R.locals) (hc : cells ≤ R.cells) (hs : slots ≤ R.slots) {x : Int32} (hx : 0 ≤ x) (hdg : decode cc pc = .ok (.invokestatic index, 3))
    (kk : W p l e R s m args below meth c H locs cells slots Q (F0 m (pc + 3) ls (.int (x - x / 16 * 16) :: rest))) : W p l e R s m args below meth c H locs cells slots Q (F0 m pc ls (.int 16 :: .int x :: rest)) := by
  intro T hT X
  obtain ⟨vm', X', st⟩ := fm_callV X hexec hown hlink hstat hini hcode (g := F0 m pc ls (.int 16 :: .int x :: rest)) rfl (by rw [hml]) hx (rest := rest) rfl (by rw [hb]; exact hdg) hframes (by show 2 * 0 + _ + 14 ≤ _; omega) hc hs
  obtain ⟨t, a1, b1⟩ := kk (T.setVm vm') hT X'
  exact ⟨t, st t a1, b1⟩
end FM
end
section
/-! A small machine of our own, over handles instead of addresses: what a run of it answers, the real machine answers (am_sound). Tables: P = (code, links, constants, field types, return type, number of locals, read-only arrays). -/
abbrev am_I : Type := Jvm.ClassFile.Instr
/-- a cell: an object (class, fields: none = an int kept in the memory, some v = a reference), or an array (0 int, 1 boolean, n + 2 references to class n; length; references) -/
abbrev am_C : Type := (Nat × List (Option Value)) ⊕ (Nat × Nat × (Nat → Option Nat))
abbrev am_M : Type := Nat → Nat → Int32
abbrev am_R : Type := Option Value × List am_C × am_M
abbrev am_K : Type := Nat → Nat → List (Option Value) → List Value → List am_C → am_M → Option am_R
abbrev am_T : Type := (Nat → Nat → Option (am_I × Nat)) × (Nat → Nat → Option (Nat × Nat × Nat × Nat × Nat)) × (Nat → Nat → Option Int32) × (Nat → List FieldType) × (Nat → Option FieldType) × (Nat → Nat) × (Nat → Option (Nat × (Nat → Int32)))
def am_nth {α : Type} : List α → Nat → Option α
  | [], _ => none
  | a :: _, 0 => some a
  | _ :: r, n + 1 => am_nth r n
theorem am_nth_eq {α : Type} : ∀ (l : List α) (n : Nat), am_nth l n = l[n]?
  | [], n => by simp [am_nth]
  | a :: r, 0 => by simp [am_nth]
  | a :: r, n + 1 => by simp [am_nth, am_nth_eq r n]
def am_get (L : List (Option Value)) (i : Nat) : Option Value := match am_nth L i with
  | some o => o
  | none => none
/-- the memory's row k is f -/
def am_set (M : am_M) (k : Nat) (f : Nat → Int32) : am_M := fun j => if j = k then f else M j
theorem am_set_s (M : am_M) (k : Nat) (f : Nat → Int32) : am_set M k f k = f := by simp [am_set]
theorem am_set_n (M : am_M) {k j : Nat} (f : Nat → Int32) (h : j ≠ k) : am_set M k f j = M j := by simp [am_set, h]
def am_bin : am_I → Option (Int32 → Int32 → Option Int32)
  | .iadd => some fun x y => some (x + y)
  | .isub => some fun x y => some (x - y)
  | .imul => some fun x y => some (x * y)
  | .iand => some fun x y => some (x &&& y)
  | .ior => some fun x y => some (x ||| y)
  | .ixor => some fun x y => some (x ^^^ y)
  | .ishl => some fun x y => some (x <<< (y &&& 31))
  | .ishr => some fun x y => some (x >>> (y &&& 31))
  | .idiv => some fun x y => if y = 0 then none else some (x / y)
  | .irem => some fun x y => if y = 0 then none else some (x - x / y * y)
  | _ => none
def am_psh (cst : Nat → Option Int32) : am_I → Option Value
  | .iconst n => some (.int (Int32.ofInt n))
  | .bipush n => some (.int (Int8.ofInt n).toInt32)
  | .sipush n => some (.int (Int16.ofInt n).toInt32)
  | .ldc ix => (match cst ix with | some z => some (.int z) | none => none)
  | _ => none
def am_ldi : am_I → Option Nat
  | .iload i => some i
  | .iload_n k => some k.val
  | _ => none
def am_lda : am_I → Option Nat
  | .aload i => some i
  | .aload_n k => some k.val
  | _ => none
def am_sti : am_I → Option Nat
  | .istore i => some i
  | .istore_n k => some k.val
  | _ => none
def am_sta : am_I → Option Nat
  | .astore i => some i
  | .astore_n k => some k.val
  | _ => none
def am_len : am_I → Nat
  | .iadd => 1 | .isub => 1 | .imul => 1 | .iand => 1 | .ior => 1 | .ixor => 1 | .ishl => 1 | .ishr => 1 | .idiv => 1 | .irem => 1 | .ineg => 1
  | .iconst _ => 1 | .bipush _ => 2 | .sipush _ => 3 | .ldc _ => 2
  | .iload _ => 2 | .iload_n _ => 1 | .aload _ => 2 | .aload_n _ => 1 | .istore _ => 2 | .istore_n _ => 1 | .astore _ => 2 | .astore_n _ => 1
  | .iinc _ _ => 3 | .dup => 1 | .pop => 1 | .dup_x1 => 1 | .dup_x2 => 1 | .dup2 => 1
  | .ifCond _ _ => 3 | .if_icmp _ _ => 3 | .goto _ => 3
  | .getfield _ => 3 | .putfield _ => 3 | .getstatic _ => 3
  | .iaload => 1 | .iastore => 1 | .baload => 1 | .bastore => 1 | .aaload => 1 | .aastore => 1 | .arraylength => 1
  | .newarray _ => 2 | .anewarray _ => 3 | .new _ => 3
  | .invokespecial _ => 3 | .invokevirtual _ => 3 | .invokestatic _ => 3
  | .ireturn => 1 | .return_ => 1 | .areturn => 1
  | _ => 0
def am_dup : am_I → List Value → Option (List Value)
  | .dup, v :: r => some (v :: v :: r)
  | .pop, _ :: r => some r
  | .dup_x1, v :: w :: r => some (v :: w :: v :: r)
  | .dup_x2, v :: w :: u :: r => some (v :: w :: u :: v :: r)
  | .dup2, v :: w :: r => some (v :: w :: v :: w :: r)
  | _, _ => none
def am_tg (pc : Nat) (off : Int) : Option Nat := match (pc : Int) + off with
  | .ofNat t => some t
  | .negSucc _ => none
def am_br {α : Type} (c : Jvm.ClassFile.Cond) (x y : Int32) (a b : α) : α := match c with
  | .eq => if x = y then a else b
  | .ne => if x = y then b else a
  | .lt => if x < y then a else b
  | .ge => if y ≤ x then a else b
  | .gt => if y < x then a else b
  | .le => if x ≤ y then a else b
/-- where a switch goes -/
def am_sw (pc : Nat) (x : Int32) : am_I → Option Nat
  | .tableswitch dflt lo hi offs => if x.toInt < lo ∨ hi < x.toInt then am_tg pc dflt else (match offs[(x.toInt - lo).toNat]? with | some o => am_tg pc o | none => none)
  | .lookupswitch dflt ps => if (ps.toList.zip (ps.toList.drop 1)).all (fun (a, next) => a.1 < next.1) = true then am_tg pc (Op.lookupswitch.offset ps.toList dflt x.toInt) else none
  | _ => none
/-- may a field, a return of this type take this int as it is? -/
def am_fit (ty : FieldType) (x : Int32) : Bool := match ty with
  | .int => true
  | .boolean => x == 0 || x == 1
  | _ => false
def am_rty (ty : FieldType) : Bool := match ty with
  | .object _ => true
  | .array _ => true
  | _ => false
def am_new (ty : FieldType) : Option Value := match ty with
  | .int => none
  | .boolean => none
  | _ => some .null
/-- the heap's part of a step: what lies on the stack, the cells and the memory behind it -/
def am_hp (P : am_T) (mi : Nat) (i : am_I) (st : List Value) (sh : List am_C) (M : am_M) : Option (List Value × List am_C × am_M) := match i with
  | .getfield ix => (match P.2.1 mi ix, st with
    | some (0, ci, k, _, _), .ref a :: r => (match am_nth sh a with
      | some (.inl (cj, fs)) => if cj = ci then (match am_nth fs k with
        | some none => some (.int (M a k) :: r, sh, M)
        | some (some v) => some (v :: r, sh, M)
        | none => none) else none
      | _ => none)
    | _, _ => none)
  | .putfield ix => (match P.2.1 mi ix, st with
    | some (0, ci, k, _, 0), v :: .ref a :: r => (match am_nth sh a with
      | some (.inl (cj, fs)) => if cj = ci then (match am_nth fs k, v with
        | some none, .int x => (match am_nth (P.2.2.2.1 ci) k with
          | some ty => if am_fit ty x then some (r, sh, am_set M a (upd (M a) k x)) else none
          | none => none)
        | some (some _), .ref b => (match am_nth (P.2.2.2.1 ci) k with
          | some ty => if am_rty ty then some (r, sh.set a (.inl (cj, fs.set k (some (.ref b)))), M) else none
          | none => none)
        | _, _ => none) else none
      | _ => none)
    | _, _ => none)
  | .getstatic ix => (match P.2.1 mi ix with
    | some (1, j, _, _, _) => some (.ref (1048576 + j) :: st, sh, M)
    | _ => none)
  | .iaload => (match st with
    | .int x :: .ref a :: r => (match am_nth sh a with
      | some (.inr (t, n, _)) => if t = 0 then (if x < 0 ∨ n ≤ x.toNatClampNeg then none else some (.int (M a x.toNatClampNeg) :: r, sh, M)) else none
      | some (.inl _) => none
      | none => (match P.2.2.2.2.2.2 a with
        | some (n, f) => if x < 0 ∨ n ≤ x.toNatClampNeg then none else some (.int (f x.toNatClampNeg) :: r, sh, M)
        | none => none))
    | _ => none)
  | .baload => (match st with
    | .int x :: .ref a :: r => (match am_nth sh a with
      | some (.inr (t, n, _)) => if t = 1 then (if x < 0 ∨ n ≤ x.toNatClampNeg then none else some (.int (M a x.toNatClampNeg) :: r, sh, M)) else none
      | _ => none)
    | _ => none)
  | .aaload => (match st with
    | .int x :: .ref a :: r => (match am_nth sh a with
      | some (.inr (t, n, g)) => if 2 ≤ t then (if x < 0 ∨ n ≤ x.toNatClampNeg then none else (match g x.toNatClampNeg with
        | some b => some (.ref b :: r, sh, M)
        | none => none)) else none
      | _ => none)
    | _ => none)
  | .iastore => (match st with
    | .int v :: .int x :: .ref a :: r => (match am_nth sh a with
      | some (.inr (t, n, _)) => if t = 0 then (if x < 0 ∨ n ≤ x.toNatClampNeg then none else some (r, sh, am_set M a (upd (M a) x.toNatClampNeg v))) else none
      | _ => none)
    | _ => none)
  | .bastore => (match st with
    | .int v :: .int x :: .ref a :: r => (match am_nth sh a with
      | some (.inr (t, n, _)) => if t = 1 then (if x < 0 ∨ n ≤ x.toNatClampNeg then none else some (r, sh, am_set M a (upd (M a) x.toNatClampNeg (v &&& 1)))) else none
      | _ => none)
    | _ => none)
  | .aastore => (match st with
    | .ref v :: .int x :: .ref a :: r => (match am_nth sh a, am_nth sh v with
      | some (.inr (t, n, g)), some (.inl (ci, _)) => if t = ci + 2 then (if x < 0 ∨ n ≤ x.toNatClampNeg then none else some (r, sh.set a (.inr (t, n, va_up g x.toNatClampNeg (some v))), M)) else none
      | _, _ => none)
    | _ => none)
  | .arraylength => (match st with
    | .ref a :: r => (match am_nth sh a with
      | some (.inr (_, n, _)) => some (.int (Int32.ofNat n) :: r, sh, M)
      | some (.inl _) => none
      | none => (match P.2.2.2.2.2.2 a with
        | some (n, _) => some (.int (Int32.ofNat n) :: r, sh, M)
        | none => none))
    | _ => none)
  | .newarray at_ => (match st, at_ with
    | .int x :: r, .int => if x < 0 ∨ 100000 ≤ x.toNatClampNeg ∨ 1048576 ≤ sh.length + 1 then none else some (.ref sh.length :: r, sh ++ [.inr (0, x.toNatClampNeg, fun _ => none)], am_set M sh.length (fun _ => 0))
    | .int x :: r, .boolean => if x < 0 ∨ 100000 ≤ x.toNatClampNeg ∨ 1048576 ≤ sh.length + 1 then none else some (.ref sh.length :: r, sh ++ [.inr (1, x.toNatClampNeg, fun _ => none)], am_set M sh.length (fun _ => 0))
    | _, _ => none)
  | .anewarray ix => (match st, P.2.1 mi (ix + 100000) with
    | .int x :: r, some (6, ci, _, _, _) => if x < 0 ∨ 100000 ≤ x.toNatClampNeg ∨ 1048576 ≤ sh.length + 1 then none else some (.ref sh.length :: r, sh ++ [.inr (ci + 2, x.toNatClampNeg, fun _ => none)], am_set M sh.length (fun _ => 0))
    | _, _ => none)
  | .new ix => (match P.2.1 mi ix with
    | some (5, ci, _, _, _) => if 1048576 ≤ sh.length + 1 then none else some (.ref sh.length :: st, sh ++ [.inl (ci, (P.2.2.2.1 ci).map am_new)], am_set M sh.length (fun _ => 0))
    | _ => none)
  | _ => none
def am_ent (n : Nat) (as : List Value) : List (Option Value) := as.map some ++ List.replicate (n - as.length) none
/-- what a step does: the method's end; or it goes on at (pc, locals, stack, cells, memory); or a call: method, arguments, what else lies on the stack -/
abbrev am_N : Type := Nat × List (Option Value) × List Value × List am_C × am_M
abbrev am_A : Type := am_R ⊕ (am_N ⊕ (Nat × List Value × List Value))
def am_nx (pc : Nat) (L : List (Option Value)) (st : List Value) (sh : List am_C) (M : am_M) : Option am_A := some (.inr (.inl (pc, L, st, sh, M)))
/-- a call: the arguments lie on the stack; link (2, method, parameters, kind, class): kind 0 virtual, 1 static, 2 a constructor (3, 4, 5: of a nest mate); (3, ..): Object's constructor; (4, ..): System.arraycopy; (7, ..), (8, ..), (9, ..): Math.max, Math.min, Math.floorMod by 16 -/
def am_cal (P : am_T) (mi pc : Nat) (ix : Nat) (ik : Nat) (L : List (Option Value)) (st : List Value) (sh : List am_C) (M : am_M) : Option am_A := match P.2.1 mi ix with
  | some (2, mj, na, kd, ci) =>
    if st.length < na ∨ ¬ kd % 3 = ik then none else
    (match (if ik = 1 then some ((st.take na).reverse, st.drop na) else (match st.drop na with
      | .ref b :: r => (if ik = 0 then (match am_nth sh b with
        | some (.inl (cj, _)) => if cj = ci then some (.ref b :: (st.take na).reverse, r) else none
        | _ => none) else some (.ref b :: (st.take na).reverse, r))
      | _ => none)) with
    | some (as, r) => if 8 < r.length ∨ P.2.2.2.2.2.1 mj < as.length then none else some (.inr (.inr (mj, as, r)))
    | none => none)
  | some (3, _, _, _, _) => if ¬ ik = 2 then none else (match st with
    | .ref _ :: r => if 8 < r.length then none else am_nx (pc + 3) L r sh M
    | _ => none)
  | some (4, _, _, _, _) => if ¬ ik = 1 then none else (match st with
    | .int n :: .int dp :: .ref a :: .int sp :: .ref b :: r => (match am_nth sh a, am_nth sh b with
      | some (.inr (ta, na, _)), some (.inr (tb, nb, _)) => if 8 < r.length ∨ ¬ ta = 0 ∨ ¬ tb = 0 ∨ sp < 0 ∨ dp < 0 ∨ n < 0 ∨ nb < sp.toNatClampNeg + n.toNatClampNeg ∨ na < dp.toNatClampNeg + n.toNatClampNeg then none
        else am_nx (pc + 3) L r sh (am_set M a (va_cpy (M b) (M a) sp.toNatClampNeg dp.toNatClampNeg n.toNatClampNeg))
      | _, _ => none)
    | _ => none)
  | some (7, _, _, _, _) => if ¬ ik = 1 then none else (match st with
    | .int y :: .int x :: r => if 8 < r.length then none else am_nx (pc + 3) L (.int (if x < y then y else x) :: r) sh M
    | _ => none)
  | some (8, _, _, _, _) => if ¬ ik = 1 then none else (match st with
    | .int y :: .int x :: r => if 8 < r.length then none else am_nx (pc + 3) L (.int (if y < x then y else x) :: r) sh M
    | _ => none)
  | some (9, _, _, _, _) => if ¬ ik = 1 then none else (match st with
    | .int y :: .int x :: r => if 8 < r.length ∨ ¬ y = 16 ∨ x < 0 then none else am_nx (pc + 3) L (.int (x - x / 16 * 16) :: r) sh M
    | _ => none)
  | _ => none
/-- jumps, calls, returns -/
def am_oth (P : am_T) (mi pc : Nat) (i : am_I) (L : List (Option Value)) (st : List Value) (sh : List am_C) (M : am_M) : Option am_A := match i with
  | .ifCond c off => (match st, am_tg pc off with
    | .int x :: r, some t => am_nx (am_br c x 0 t (pc + 3)) L r sh M
    | _, _ => none)
  | .if_icmp c off => (match st, am_tg pc off with
    | .int y :: .int x :: r, some t => am_nx (am_br c x y t (pc + 3)) L r sh M
    | _, _ => none)
  | .goto off => (match am_tg pc off with
    | some t => am_nx t L st sh M
    | none => none)
  | .ineg => (match st with
    | .int x :: r => am_nx (pc + 1) L (.int (-x) :: r) sh M
    | _ => none)
  | .iinc j z => (match am_get L j with
    | some (.int x) => if j < L.length then am_nx (pc + 3) (L.set j (some (.int (x + Int32.ofInt z)))) st sh M else none
    | _ => none)
  | .tableswitch dflt lo hi offs => (match st with
    | .int x :: r => (match am_sw pc x (.tableswitch dflt lo hi offs) with
      | some t => am_nx t L r sh M
      | none => none)
    | _ => none)
  | .lookupswitch dflt ps => (match st with
    | .int x :: r => (match am_sw pc x (.lookupswitch dflt ps) with
      | some t => am_nx t L r sh M
      | none => none)
    | _ => none)
  | .invokevirtual ix => am_cal P mi pc ix 0 L st sh M
  | .invokestatic ix => am_cal P mi pc ix 1 L st sh M
  | .invokespecial ix => am_cal P mi pc ix 2 L st sh M
  | .ireturn => (match st, P.2.2.2.2.1 mi with
    | [.int x], some ty => if am_fit ty x then some (.inl (some (.int x), sh, M)) else none
    | _, _ => none)
  | .areturn => (match st, P.2.2.2.2.1 mi with
    | [.ref a], some (.object _) => some (.inl (some (.ref a), sh, M))
    | _, _ => none)
  | .return_ => (match st, P.2.2.2.2.1 mi with
    | [], none => some (.inl (none, sh, M))
    | _, _ => none)
  | _ => none
/-- one instruction i of n bytes -/
def am_ins (P : am_T) (mi pc : Nat) (i : am_I) (n : Nat) (L : List (Option Value)) (st : List Value) (sh : List am_C) (M : am_M) : Option am_A := match am_bin i with
  | some g => (match st with
    | .int y :: .int x :: r => (match g x y with
      | some z => am_nx (pc + 1) L (.int z :: r) sh M
      | none => none)
    | _ => none)
  | none => (match am_psh (P.2.2.1 mi) i with
  | some v => am_nx (pc + n) L (v :: st) sh M
  | none => (match am_ldi i with
  | some j => (match am_get L j with
    | some (.int x) => am_nx (pc + n) L (.int x :: st) sh M
    | _ => none)
  | none => (match am_lda i with
  | some j => (match am_get L j with
    | some (.ref a) => am_nx (pc + n) L (.ref a :: st) sh M
    | _ => none)
  | none => (match am_sti i with
  | some j => (match st with
    | .int x :: r => if j < L.length then am_nx (pc + n) (L.set j (some (.int x))) r sh M else none
    | _ => none)
  | none => (match am_sta i with
  | some j => (match st with
    | .ref a :: r => if j < L.length then am_nx (pc + n) (L.set j (some (.ref a))) r sh M else none
    | _ => none)
  | none => (match am_dup i st with
  | some st' => am_nx (pc + 1) L st' sh M
  | none => (match am_hp P mi i st sh M with
  | some (st', sh', M') => am_nx (pc + n) L st' sh' M'
  | none => am_oth P mi pc i L st sh M)))))))
def am_act (P : am_T) (mi pc : Nat) (L : List (Option Value)) (st : List Value) (sh : List am_C) (M : am_M) : Option am_A := match P.1 mi pc with
  | some (i, n) => am_ins P mi pc i n L st sh M
  | none => none
/-- one step; K goes on -/
def am_step (P : am_T) (K : am_K) : am_K := fun mi pc L st sh M => match am_act P mi pc L st sh M with
  | some (.inl r) => some r
  | some (.inr (.inl (pc', L', st', sh', M'))) => K mi pc' L' st' sh' M'
  | some (.inr (.inr (mj, as, rest))) => (match K mj 0 (am_ent (P.2.2.2.2.2.1 mj) as) [] sh M with
    | some (rv, sh', M') => K mi (pc + 3) L (rv.toList ++ rest) sh' M'
    | none => none)
  | none => none
def am_run (P : am_T) (f : Nat) : am_K := Nat.rec (fun _ _ _ _ _ _ => none) (fun _ ih => am_step P ih) f
theorem am_run_s (P : am_T) (f : Nat) : am_run P (f + 1) = am_step P (am_run P f) := rfl
theorem am_step_mono (P : am_T) {K K' : am_K} (h : ∀ mi pc L st sh M r, K mi pc L st sh M = some r → K' mi pc L st sh M = some r) (mi pc : Nat) (L : List (Option Value)) (st : List Value) (sh : List am_C) (M : am_M) (r : am_R) (hr : am_step P K mi pc L st sh M = some r) : am_step P K' mi pc L st sh M = some r := by
  unfold am_step at hr ⊢
  cases ha : am_act P mi pc L st sh M with
  | none => rw [ha] at hr; cases hr
  | some a =>
    rw [ha] at hr
    rcases a with r' | ⟨pc', L', st', sh', M'⟩ | ⟨mj, as, rest⟩
    · exact hr
    · exact h _ _ _ _ _ _ _ hr
    · dsimp only at hr ⊢
      cases hk : K mj 0 (am_ent (P.2.2.2.2.2.1 mj) as) [] sh M with
      | none => rw [hk] at hr; cases hr
      | some q =>
        rw [hk] at hr
        rw [h _ _ _ _ _ _ _ hk]
        exact h _ _ _ _ _ _ _ hr
theorem am_run_mono (P : am_T) : ∀ (f : Nat) (mi pc : Nat) (L : List (Option Value)) (st : List Value) (sh : List am_C) (M : am_M) (r : am_R), am_run P f mi pc L st sh M = some r → am_run P (f + 1) mi pc L st sh M = some r
  | 0, _, _, _, _, _, _, _, h => by cases h
  | f + 1, mi, pc, L, st, sh, M, r, h => am_step_mono P (am_run_mono P f) mi pc L st sh M r h
theorem am_run_le (P : am_T) {f f' : Nat} (hf : f ≤ f') {mi pc : Nat} {L : List (Option Value)} {st : List Value} {sh : List am_C} {M : am_M} {r : am_R} (h : am_run P f mi pc L st sh M = some r) : am_run P f' mi pc L st sh M = some r := by
  induction hf with
  | refl => exact h
  | step _ ih => exact am_run_mono P _ _ _ _ _ _ _ _ ih
/-- the small machine comes to the answer r -/
def am_ev (P : am_T) (mi pc : Nat) (L : List (Option Value)) (st : List Value) (sh : List am_C) (M : am_M) (r : am_R) : Prop := ∃ f, am_run P f mi pc L st sh M = some r
theorem am_ev_ret {P : am_T} {mi pc : Nat} {L : List (Option Value)} {st : List Value} {sh : List am_C} {M : am_M} {r : am_R} (h : am_act P mi pc L st sh M = some (.inl r)) : am_ev P mi pc L st sh M r := by
  refine ⟨1, ?_⟩
  show am_step P _ mi pc L st sh M = _
  unfold am_step
  rw [h]
theorem am_ev_nx {P : am_T} {mi pc pc' : Nat} {L L' : List (Option Value)} {st st' : List Value} {sh sh' : List am_C} {M M' : am_M} {r : am_R} (h : am_act P mi pc L st sh M = some (.inr (.inl (pc', L', st', sh', M')))) (k : am_ev P mi pc' L' st' sh' M' r) : am_ev P mi pc L st sh M r := by
  obtain ⟨f, k⟩ := k
  refine ⟨f + 1, ?_⟩
  show am_step P _ mi pc L st sh M = _
  unfold am_step
  rw [h]
  exact k
theorem am_ev_call {P : am_T} {mi pc mj : Nat} {L : List (Option Value)} {st as rest : List Value} {sh sh' : List am_C} {M M' : am_M} {rv : Option Value} {r : am_R} (h : am_act P mi pc L st sh M = some (.inr (.inr (mj, as, rest)))) (k1 : am_ev P mj 0 (am_ent (P.2.2.2.2.2.1 mj) as) [] sh M (rv, sh', M')) (k : am_ev P mi (pc + 3) L (rv.toList ++ rest) sh' M' r) : am_ev P mi pc L st sh M r := by
  obtain ⟨f1, k1⟩ := k1
  obtain ⟨f, k⟩ := k
  refine ⟨max f1 f + 1, ?_⟩
  show am_step P _ mi pc L st sh M = _
  unfold am_step
  rw [h]
  show (match am_run P (max f1 f) mj 0 (am_ent (P.2.2.2.2.2.1 mj) as) [] sh M with
    | some (rv, sh', M') => am_run P (max f1 f) mi (pc + 3) L (rv.toList ++ rest) sh' M'
    | none => none) = some r
  rw [am_run_le P (Nat.le_max_left f1 f) k1]
  exact am_run_le P (Nat.le_max_right f1 f) k
/-- several instructions that go straight on -/
def am_go (P : am_T) (mi : Nat) : Nat → am_N → Option am_N
  | 0, q => some q
  | n + 1, q => (match am_act P mi q.1 q.2.1 q.2.2.1 q.2.2.2.1 q.2.2.2.2 with
    | some (.inr (.inl q')) => am_go P mi n q'
    | _ => none)
theorem am_ev_go {P : am_T} {mi : Nat} : ∀ (n : Nat) {pc pc' : Nat} {L L' : List (Option Value)} {st st' : List Value} {sh sh' : List am_C} {M M' : am_M} {r : am_R}, am_go P mi n (pc, L, st, sh, M) = some (pc', L', st', sh', M') → am_ev P mi pc' L' st' sh' M' r → am_ev P mi pc L st sh M r
  | 0, _, _, _, _, _, _, _, _, _, _, _, h, k => by cases h; exact k
  | n + 1, pc, pc', L, L', st, st', sh, sh', M, M', r, h, k => by
    unfold am_go at h
    dsimp only at h
    split at h
    case h_2 => cases h
    case h_1 q' hq => exact am_ev_nx hq (am_ev_go n h k)
end
section
/-! Printed by wip/whole/gen_tables.py out of the claim's listing: the tables of the small machine -/
abbrev tb_K : Type := Nat × Nat × Nat × Nat × Nat × Nat × Nat
/-- a method: name, bytes, locals, return type, frames, words, code, links (pool index, link, place of its word in lw_tbl), constants, places of its words (code, instance or static, 1 + selects, initialized), its kind (0 virtual, 1 static, 2 a constructor) -/
abbrev tb_T : Type := MethodName × ByteArray × Nat × Option FieldType × Nat × Nat × List (Nat × am_I × Nat) × List tb_K × List (Nat × Int32 × Nat) × Nat × Nat × Nat × Nat × Nat
def tb_F0 : u_T := fun k => match k with
  | 0 => ("CountedActors", "actors", "I", true)
  | 1 => ("CountedActors", "program", "LCountedActors$Program;", true)
  | 2 => ("CountedActors", "heap", "LCountedActors$Heap;", true)
  | 3 => ("CountedActors", "mail", "LCountedActors$Mail;", true)
  | 4 => ("CountedActors", "walk", "LCountedActors$Walk;", true)
  | 5 => ("CountedActors", "display", "LCountedActors$Display;", true)
  | _ => ("CountedActors", "machine", "LCountedActors$Machine;", true)
def tb_F1 : u_T := fun k => match k with
  | 0 => ("CountedActorsModel", "actors", "I", false)
  | 1 => ("CountedActorsModel", "owner", "[I", true)
  | 2 => ("CountedActorsModel", "cell", "[I", true)
  | 3 => ("CountedActorsModel", "inner", "[I", true)
  | 4 => ("CountedActorsModel", "counts", "[I", true)
  | 5 => ("CountedActorsModel", "own", "[I", true)
  | 6 => ("CountedActorsModel", "begun", "I", false)
  | 7 => ("CountedActorsModel", "open", "Z", false)
  | 8 => ("CountedActorsModel", "parameter", "[I", true)
  | 9 => ("CountedActorsModel", "length", "[I", true)
  | 10 => ("CountedActorsModel", "code", "[I", true)
  | 11 => ("CountedActorsModel", "local", "[I", true)
  | 12 => ("CountedActorsModel", "hidden", "[Z", true)
  | 13 => ("CountedActorsModel", "became", "[Z", true)
  | 14 => ("CountedActorsModel", "block", "Z", false)
  | 15 => ("CountedActorsModel", "messages", "I", false)
  | 16 => ("CountedActorsModel", "kind", "[I", true)
  | 17 => ("CountedActorsModel", "whose", "[I", true)
  | 18 => ("CountedActorsModel", "about", "[I", true)
  | 19 => ("CountedActorsModel", "amount", "[I", true)
  | 20 => ("CountedActorsModel", "in", "[Z", true)
  | 21 => ("CountedActorsModel", "deep", "[Z", true)
  | 22 => ("CountedActorsModel", "sees", "[Z", true)
  | 23 => ("CountedActorsModel", "held", "[I", true)
  | 24 => ("CountedActorsModel", "losses", "I", false)
  | 25 => ("CountedActorsModel", "shows", "I", false)
  | _ => ("CountedActorsModel", "recent", "[I", true)
def tb_F2 : u_T := fun k => match k with
  | 0 => ("CountedActors$Behaviour", "statements", "[LCountedActors$Statement;", true)
  | 1 => ("CountedActors$Behaviour", "parameter", "I", false)
  | _ => ("CountedActors$Behaviour", "size", "I", false)
def tb_F3 : u_T := fun k => match k with
  | 0 => ("CountedActors$Display", "ring", "[I", true)
  | _ => ("CountedActors$Display", "times", "I", false)
def tb_F4 : u_T := fun k => match k with
  | 0 => ("CountedActors$Draft", "capabilities", "[I", true)
  | 1 => ("CountedActors$Draft", "hidden", "[Z", true)
  | 2 => ("CountedActors$Draft", "becameInBlock", "[Z", true)
  | _ => ("CountedActors$Draft", "inBlock", "Z", false)
def tb_F5 : u_T := fun k => match k with
  | 0 => ("CountedActors$Heap", "owners", "[I", true)
  | 1 => ("CountedActors$Heap", "cells", "[I", true)
  | 2 => ("CountedActors$Heap", "held", "[I", true)
  | _ => ("CountedActors$Heap", "counts", "[I", true)
def tb_F6 : u_T := fun k => match k with
  | 0 => ("CountedActors$Machine", "actors", "I", true)
  | 1 => ("CountedActors$Machine", "program", "LCountedActors$Program;", true)
  | 2 => ("CountedActors$Machine", "heap", "LCountedActors$Heap;", true)
  | 3 => ("CountedActors$Machine", "mail", "LCountedActors$Mail;", true)
  | 4 => ("CountedActors$Machine", "walk", "LCountedActors$Walk;", true)
  | 5 => ("CountedActors$Machine", "display", "LCountedActors$Display;", true)
  | 6 => ("CountedActors$Machine", "locals", "[I", true)
  | _ => ("CountedActors$Machine", "timesLost", "I", false)
def tb_F7 : u_T := fun k => match k with
  | 0 => ("CountedActors$Mail", "kinds", "[I", true)
  | 1 => ("CountedActors$Mail", "actorsTo", "[I", true)
  | 2 => ("CountedActors$Mail", "objects", "[I", true)
  | 3 => ("CountedActors$Mail", "numbers", "[I", true)
  | _ => ("CountedActors$Mail", "size", "I", false)
def tb_F8 : u_T := fun k => match k with
  | 0 => ("CountedActors$Program", "behaviours", "[LCountedActors$Behaviour;", true)
  | 1 => ("CountedActors$Program", "draft", "LCountedActors$Draft;", true)
  | 2 => ("CountedActors$Program", "begun", "I", false)
  | _ => ("CountedActors$Program", "isOpen", "Z", false)
def tb_F9 : u_T := fun k => match k with
  | 0 => ("CountedActors$Statement", "op", "I", false)
  | 1 => ("CountedActors$Statement", "x", "I", false)
  | 2 => ("CountedActors$Statement", "y", "I", false)
  | 3 => ("CountedActors$Statement", "f", "I", false)
  | _ => ("CountedActors$Statement", "z", "I", false)
def tb_F10 : u_T := fun k => match k with
  | 0 => ("CountedActors$Walk", "heap", "LCountedActors$Heap;", true)
  | 1 => ("CountedActors$Walk", "metBy", "[I", true)
  | 2 => ("CountedActors$Walk", "meetings", "[I", true)
  | _ => ("CountedActors$Walk", "size", "I", false)
def tb_cl : List vw_C := [("CountedActors", tb_F0, 7), ("CountedActorsModel", tb_F1, 27), ("CountedActors$Behaviour", tb_F2, 3), ("CountedActors$Display", tb_F3, 2), ("CountedActors$Draft", tb_F4, 4), ("CountedActors$Heap", tb_F5, 4), ("CountedActors$Machine", tb_F6, 8), ("CountedActors$Mail", tb_F7, 5), ("CountedActors$Program", tb_F8, 4), ("CountedActors$Statement", tb_F9, 5), ("CountedActors$Walk", tb_F10, 4)]
def tb_ft : List (List FieldType) := [[.int, .object "CountedActors$Program", .object "CountedActors$Heap", .object "CountedActors$Mail", .object "CountedActors$Walk", .object "CountedActors$Display", .object "CountedActors$Machine"],
  [.int, .array .int, .array .int, .array .int, .array .int, .array .int, .int, .boolean, .array .int, .array .int, .array .int, .array .int, .array .boolean, .array .boolean, .boolean, .int, .array .int, .array .int, .array .int, .array .int, .array .boolean, .array .boolean, .array .boolean, .array .int, .int, .int, .array .int],
  [.array (.object "CountedActors$Statement"), .int, .int],
  [.array .int, .int],
  [.array .int, .array .boolean, .array .boolean, .boolean],
  [.array .int, .array .int, .array .int, .array .int],
  [.int, .object "CountedActors$Program", .object "CountedActors$Heap", .object "CountedActors$Mail", .object "CountedActors$Walk", .object "CountedActors$Display", .array .int, .int],
  [.array .int, .array .int, .array .int, .array .int, .int],
  [.array (.object "CountedActors$Behaviour"), .object "CountedActors$Draft", .int, .boolean],
  [.int, .int, .int, .int, .int],
  [.object "CountedActors$Heap", .array .int, .array .int, .int]]
def tb_S : List (String × String × String) := [("CountedActors$Capability", "ALIAS", "[I"), ("CountedActors$Capability", "SAFE", "[I"), ("CountedActors$Capability", "FITS", "[I"), ("CountedActors$Capability", "VIEW", "[I"), ("CountedActors$Capability", "DRAWN", "[I"), ("CountedActors$Capability", "OUT_OF_BLOCK", "[I")]
def tb_c0 : List (Nat × am_I × Nat) := [(0, .new 7, 3), (3, .dup, 1), (4, .aload_n 0, 1), (5, .iconst 0, 1), (6, .invokestatic 9, 3), (9, .invokespecial 15, 3), (12, .astore_n 1, 1), (13, .new 18, 3), (16, .dup, 1), (17, .aload_n 0, 1), (18, .iconst 0, 1), (19, .invokestatic 9, 3), (22, .invokespecial 20, 3), (25, .astore_n 2, 1), (26, .iconst 1, 1), (27, .istore_n 3, 1), (28, .iload_n 3, 1), (29, .aload_n 0, 1), (30, .arraylength, 1), (31, .bipush 6, 2), (33, .isub, 1), (34, .if_icmp .gt (564), 3), (37, .aload_n 0, 1), (38, .iload_n 3, 1), (39, .iaload, 1), (40, .bipush 31, 2), (42, .iand, 1), (43, .tableswitch 549 0 17 #[85, 108, 171, 184, 197, 220, 253, 276, 299, 322, 345, 368, 401, 434, 467, 500, 523, 536], 85), (128, .aload_n 1, 1), (129, .aload_n 0, 1), (130, .iload_n 3, 1), (131, .iconst 1, 1), (132, .iadd, 1), (133, .iaload, 1), (134, .invokevirtual 21, 3), (137, .aload_n 2, 1), (138, .aload_n 0, 1), (139, .iload_n 3, 1), (140, .iconst 1, 1), (141, .iadd, 1), (142, .iaload, 1), (143, .invokevirtual 25, 3), (146, .if_icmp .eq (446), 3), (149, .iconst 0, 1), (150, .ireturn, 1), (151, .aload_n 1, 1), (152, .aload_n 0, 1), (153, .iload_n 3, 1), (154, .iconst 1, 1), (155, .iadd, 1), (156, .iaload, 1), (157, .aload_n 0, 1), (158, .iload_n 3, 1), (159, .iconst 2, 1), (160, .iadd, 1), (161, .iaload, 1), (162, .aload_n 0, 1), (163, .iload_n 3, 1), (164, .iconst 3, 1), (165, .iadd, 1), (166, .iaload, 1), (167, .aload_n 0, 1), (168, .iload_n 3, 1), (169, .iconst 4, 1), (170, .iadd, 1), (171, .iaload, 1), (172, .aload_n 0, 1), (173, .iload_n 3, 1), (174, .iconst 5, 1), (175, .iadd, 1), (176, .iaload, 1), (177, .invokevirtual 26, 3), (180, .aload_n 2, 1), (181, .aload_n 0, 1), (182, .iload_n 3, 1), (183, .iconst 1, 1), (184, .iadd, 1), (185, .iaload, 1), (186, .aload_n 0, 1), (187, .iload_n 3, 1), (188, .iconst 2, 1), (189, .iadd, 1), (190, .iaload, 1), (191, .aload_n 0, 1), (192, .iload_n 3, 1), (193, .iconst 3, 1), (194, .iadd, 1), (195, .iaload, 1), (196, .aload_n 0, 1), (197, .iload_n 3, 1), (198, .iconst 4, 1), (199, .iadd, 1), (200, .iaload, 1), (201, .aload_n 0, 1), (202, .iload_n 3, 1), (203, .iconst 5, 1), (204, .iadd, 1), (205, .iaload, 1), (206, .invokevirtual 30, 3), (209, .if_icmp .eq (383), 3), (212, .iconst 0, 1), (213, .ireturn, 1), (214, .aload_n 1, 1), (215, .invokevirtual 31, 3), (218, .aload_n 2, 1), (219, .invokevirtual 35, 3), (222, .if_icmp .eq (370), 3), (225, .iconst 0, 1), (226, .ireturn, 1), (227, .aload_n 1, 1), (228, .invokevirtual 36, 3), (231, .aload_n 2, 1), (232, .invokevirtual 39, 3), (235, .if_icmp .eq (357), 3), (238, .iconst 0, 1), (239, .ireturn, 1), (240, .aload_n 1, 1), (241, .aload_n 0, 1), (242, .iload_n 3, 1), (243, .iconst 1, 1), (244, .iadd, 1), (245, .iaload, 1), (246, .invokevirtual 40, 3), (249, .aload_n 2, 1), (250, .aload_n 0, 1), (251, .iload_n 3, 1), (252, .iconst 1, 1), (253, .iadd, 1), (254, .iaload, 1), (255, .invokevirtual 43, 3), (258, .if_icmp .eq (334), 3), (261, .iconst 0, 1), (262, .ireturn, 1), (263, .aload_n 1, 1), (264, .aload_n 0, 1), (265, .iload_n 3, 1), (266, .iconst 1, 1), (267, .iadd, 1), (268, .iaload, 1), (269, .aload_n 0, 1), (270, .iload_n 3, 1), (271, .iconst 2, 1), (272, .iadd, 1), (273, .iaload, 1), (274, .invokevirtual 44, 3), (277, .aload_n 2, 1), (278, .aload_n 0, 1), (279, .iload_n 3, 1), (280, .iconst 1, 1), (281, .iadd, 1), (282, .iaload, 1), (283, .aload_n 0, 1), (284, .iload_n 3, 1), (285, .iconst 2, 1), (286, .iadd, 1), (287, .iaload, 1), (288, .invokevirtual 48, 3), (291, .if_icmp .eq (301), 3), (294, .iconst 0, 1), (295, .ireturn, 1), (296, .aload_n 1, 1), (297, .aload_n 0, 1), (298, .iload_n 3, 1), (299, .iconst 1, 1), (300, .iadd, 1), (301, .iaload, 1), (302, .invokevirtual 49, 3), (305, .aload_n 2, 1), (306, .aload_n 0, 1), (307, .iload_n 3, 1), (308, .iconst 1, 1), (309, .iadd, 1), (310, .iaload, 1), (311, .invokevirtual 52, 3), (314, .if_icmp .eq (278), 3), (317, .iconst 0, 1), (318, .ireturn, 1), (319, .aload_n 1, 1), (320, .aload_n 0, 1), (321, .iload_n 3, 1), (322, .iconst 1, 1), (323, .iadd, 1), (324, .iaload, 1), (325, .invokevirtual 53, 3), (328, .aload_n 2, 1), (329, .aload_n 0, 1), (330, .iload_n 3, 1), (331, .iconst 1, 1), (332, .iadd, 1), (333, .iaload, 1), (334, .invokevirtual 56, 3), (337, .if_icmp .eq (255), 3), (340, .iconst 0, 1), (341, .ireturn, 1), (342, .aload_n 1, 1), (343, .aload_n 0, 1), (344, .iload_n 3, 1), (345, .iconst 1, 1), (346, .iadd, 1), (347, .iaload, 1), (348, .invokevirtual 57, 3), (351, .aload_n 2, 1), (352, .aload_n 0, 1), (353, .iload_n 3, 1), (354, .iconst 1, 1), (355, .iadd, 1), (356, .iaload, 1), (357, .invokevirtual 60, 3), (360, .if_icmp .eq (232), 3), (363, .iconst 0, 1), (364, .ireturn, 1), (365, .aload_n 1, 1), (366, .aload_n 0, 1), (367, .iload_n 3, 1), (368, .iconst 1, 1), (369, .iadd, 1), (370, .iaload, 1), (371, .invokevirtual 61, 3), (374, .aload_n 2, 1), (375, .aload_n 0, 1), (376, .iload_n 3, 1), (377, .iconst 1, 1), (378, .iadd, 1), (379, .iaload, 1), (380, .invokevirtual 64, 3), (383, .if_icmp .eq (209), 3), (386, .iconst 0, 1), (387, .ireturn, 1), (388, .aload_n 1, 1), (389, .aload_n 0, 1), (390, .iload_n 3, 1), (391, .iconst 1, 1), (392, .iadd, 1), (393, .iaload, 1), (394, .invokevirtual 65, 3), (397, .aload_n 2, 1), (398, .aload_n 0, 1), (399, .iload_n 3, 1), (400, .iconst 1, 1), (401, .iadd, 1), (402, .iaload, 1), (403, .invokevirtual 67, 3), (406, .if_icmp .eq (186), 3), (409, .iconst 0, 1), (410, .ireturn, 1), (411, .aload_n 1, 1), (412, .aload_n 0, 1), (413, .iload_n 3, 1), (414, .iconst 1, 1), (415, .iadd, 1), (416, .iaload, 1), (417, .aload_n 0, 1), (418, .iload_n 3, 1), (419, .iconst 2, 1), (420, .iadd, 1), (421, .iaload, 1), (422, .invokevirtual 68, 3), (425, .aload_n 2, 1), (426, .aload_n 0, 1), (427, .iload_n 3, 1), (428, .iconst 1, 1), (429, .iadd, 1), (430, .iaload, 1), (431, .aload_n 0, 1), (432, .iload_n 3, 1), (433, .iconst 2, 1), (434, .iadd, 1), (435, .iaload, 1), (436, .invokevirtual 72, 3), (439, .if_icmp .eq (153), 3), (442, .iconst 0, 1), (443, .ireturn, 1), (444, .aload_n 1, 1), (445, .aload_n 0, 1), (446, .iload_n 3, 1), (447, .iconst 1, 1), (448, .iadd, 1), (449, .iaload, 1), (450, .aload_n 0, 1), (451, .iload_n 3, 1), (452, .iconst 2, 1), (453, .iadd, 1), (454, .iaload, 1), (455, .invokevirtual 73, 3), (458, .aload_n 2, 1), (459, .aload_n 0, 1), (460, .iload_n 3, 1), (461, .iconst 1, 1), (462, .iadd, 1), (463, .iaload, 1), (464, .aload_n 0, 1), (465, .iload_n 3, 1), (466, .iconst 2, 1), (467, .iadd, 1), (468, .iaload, 1), (469, .invokevirtual 76, 3), (472, .if_icmp .eq (120), 3), (475, .iconst 0, 1), (476, .ireturn, 1), (477, .aload_n 1, 1), (478, .aload_n 0, 1), (479, .iload_n 3, 1), (480, .iconst 1, 1), (481, .iadd, 1), (482, .iaload, 1), (483, .aload_n 0, 1), (484, .iload_n 3, 1), (485, .iconst 2, 1), (486, .iadd, 1), (487, .iaload, 1), (488, .invokevirtual 77, 3), (491, .aload_n 2, 1), (492, .aload_n 0, 1), (493, .iload_n 3, 1), (494, .iconst 1, 1), (495, .iadd, 1), (496, .iaload, 1), (497, .aload_n 0, 1), (498, .iload_n 3, 1), (499, .iconst 2, 1), (500, .iadd, 1), (501, .iaload, 1), (502, .invokevirtual 80, 3), (505, .if_icmp .eq (87), 3), (508, .iconst 0, 1), (509, .ireturn, 1), (510, .aload_n 1, 1), (511, .aload_n 0, 1), (512, .iload_n 3, 1), (513, .iconst 1, 1), (514, .iadd, 1), (515, .iaload, 1), (516, .aload_n 0, 1), (517, .iload_n 3, 1), (518, .iconst 2, 1), (519, .iadd, 1), (520, .iaload, 1), (521, .invokevirtual 81, 3), (524, .aload_n 2, 1), (525, .aload_n 0, 1), (526, .iload_n 3, 1), (527, .iconst 1, 1), (528, .iadd, 1), (529, .iaload, 1), (530, .aload_n 0, 1), (531, .iload_n 3, 1), (532, .iconst 2, 1), (533, .iadd, 1), (534, .iaload, 1), (535, .invokevirtual 84, 3), (538, .if_icmp .eq (54), 3), (541, .iconst 0, 1), (542, .ireturn, 1), (543, .aload_n 1, 1), (544, .aload_n 0, 1), (545, .iload_n 3, 1), (546, .iconst 1, 1), (547, .iadd, 1), (548, .iaload, 1), (549, .invokevirtual 85, 3), (552, .aload_n 2, 1), (553, .aload_n 0, 1), (554, .iload_n 3, 1), (555, .iconst 1, 1), (556, .iadd, 1), (557, .iaload, 1), (558, .invokevirtual 88, 3), (561, .if_icmp .eq (31), 3), (564, .iconst 0, 1), (565, .ireturn, 1), (566, .aload_n 1, 1), (567, .invokevirtual 89, 3), (570, .aload_n 2, 1), (571, .invokevirtual 93, 3), (574, .if_icmp .eq (18), 3), (577, .iconst 0, 1), (578, .ireturn, 1), (579, .aload_n 1, 1), (580, .invokevirtual 94, 3), (583, .aload_n 2, 1), (584, .invokevirtual 97, 3), (587, .if_icmp .eq (5), 3), (590, .iconst 0, 1), (591, .ireturn, 1), (592, .iinc 3 (6), 3), (595, .goto (-567), 3), (598, .iconst 1, 1), (599, .ireturn, 1)]
def tb_l0 : List tb_K := [(7, 5, 0, 0, 0, 0, 63), (9, 2, 129, 2, 1, 0, 797), (15, 2, 1, 1, 2, 0, 65), (18, 5, 1, 0, 0, 0, 800), (20, 2, 130, 1, 2, 1, 802), (21, 2, 12, 1, 0, 0, 299), (25, 2, 131, 1, 0, 1, 888), (26, 2, 21, 5, 0, 0, 331), (30, 2, 145, 5, 0, 1, 945), (31, 2, 54, 0, 0, 0, 467), (35, 2, 134, 0, 0, 1, 899), (36, 2, 57, 0, 0, 0, 479), (39, 2, 133, 0, 0, 1, 895), (40, 2, 59, 1, 0, 0, 487), (43, 2, 153, 1, 0, 1, 972), (44, 2, 62, 2, 0, 0, 500), (48, 2, 154, 2, 0, 1, 976), (49, 2, 67, 1, 0, 0, 520), (52, 2, 156, 1, 0, 1, 984), (53, 2, 103, 1, 0, 0, 678), (56, 2, 168, 1, 0, 1, 1032), (57, 2, 110, 1, 0, 0, 708), (60, 2, 171, 1, 0, 1, 1044), (61, 2, 112, 1, 0, 0, 716), (64, 2, 172, 1, 0, 1, 1048), (65, 2, 113, 1, 0, 0, 722), (67, 2, 174, 1, 0, 1, 1056), (68, 2, 114, 2, 0, 0, 727), (72, 2, 175, 2, 0, 1, 1060), (73, 2, 115, 2, 0, 0, 732), (76, 2, 176, 2, 0, 1, 1064), (77, 2, 116, 2, 0, 0, 739), (80, 2, 177, 2, 0, 1, 1068), (81, 2, 117, 2, 0, 0, 743), (84, 2, 178, 2, 0, 1, 1072), (85, 2, 123, 1, 0, 0, 771), (88, 2, 180, 1, 0, 1, 1080), (89, 2, 126, 0, 0, 0, 783), (93, 2, 181, 0, 0, 1, 1084), (94, 2, 127, 0, 0, 0, 789), (97, 2, 182, 0, 0, 1, 1088)]
def tb_m0 : tb_T := (⟨"CountedActorsLaw", "law", "([I)Z"⟩, code, 4, (some .boolean), 8, 182, tb_c0, tb_l0, [], 0, 0, 0, 0, 1)
def tb_c1 : List (Nat × am_I × Nat) := [(0, .aload_n 0, 1), (1, .invokespecial 1, 3), (4, .aload_n 0, 1), (5, .iconst 1, 1), (6, .iconst 4, 1), (7, .iload_n 1, 1), (8, .invokestatic 9, 3), (11, .invokestatic 15, 3), (14, .putfield 18, 3), (17, .aload_n 0, 1), (18, .new 22, 3), (21, .dup, 1), (22, .invokespecial 24, 3), (25, .putfield 25, 3), (28, .aload_n 0, 1), (29, .new 29, 3), (32, .dup, 1), (33, .invokespecial 31, 3), (36, .putfield 32, 3), (39, .aload_n 0, 1), (40, .new 36, 3), (43, .dup, 1), (44, .invokespecial 38, 3), (47, .putfield 39, 3), (50, .aload_n 0, 1), (51, .new 43, 3), (54, .dup, 1), (55, .aload_n 0, 1), (56, .getfield 32, 3), (59, .invokespecial 45, 3), (62, .putfield 48, 3), (65, .aload_n 0, 1), (66, .new 52, 3), (69, .dup, 1), (70, .invokespecial 54, 3), (73, .putfield 55, 3), (76, .aload_n 0, 1), (77, .new 59, 3), (80, .dup, 1), (81, .aload_n 0, 1), (82, .getfield 18, 3), (85, .aload_n 0, 1), (86, .getfield 25, 3), (89, .aload_n 0, 1), (90, .getfield 32, 3), (93, .aload_n 0, 1), (94, .getfield 39, 3), (97, .aload_n 0, 1), (98, .getfield 48, 3), (101, .aload_n 0, 1), (102, .getfield 55, 3), (105, .invokespecial 61, 3), (108, .putfield 64, 3), (111, .return_, 1)]
def tb_l1 : List tb_K := [(1, 3, 0, 0, 0, 0, 68), (9, 8, 0, 0, 0, 0, 71), (15, 7, 0, 0, 0, 0, 74), (18, 0, 0, 0, 0, 0, 277), (22, 5, 8, 0, 0, 0, 77), (24, 2, 2, 0, 2, 8, 79), (25, 0, 0, 1, 0, 0, 278), (29, 5, 5, 0, 0, 0, 170), (31, 2, 6, 0, 2, 5, 172), (32, 0, 0, 2, 0, 0, 279), (36, 5, 7, 0, 0, 0, 192), (38, 2, 8, 0, 5, 7, 194), (39, 0, 0, 3, 0, 0, 280), (43, 5, 10, 0, 0, 0, 214), (45, 2, 9, 1, 2, 10, 216), (48, 0, 0, 4, 0, 0, 281), (52, 5, 3, 0, 0, 0, 233), (54, 2, 10, 0, 5, 3, 235), (55, 0, 0, 5, 0, 0, 282), (59, 5, 6, 0, 0, 0, 246), (61, 2, 11, 6, 2, 6, 248), (64, 0, 0, 6, 0, 0, 283)]
def tb_m1 : tb_T := (⟨"CountedActors", "<init>", "(I)V"⟩, prog_1_method_1_code, 2, none, 4, 82, tb_c1, tb_l1, [], 67, 66, 0, 48, 2)
def tb_c2 : List (Nat × am_I × Nat) := [(0, .aload_n 0, 1), (1, .invokespecial 3, 3), (4, .aload_n 0, 1), (5, .bipush 6, 2), (7, .anewarray 9, 3), (10, .putfield 11, 3), (13, .aload_n 0, 1), (14, .new 17, 3), (17, .dup, 1), (18, .invokespecial 19, 3), (21, .putfield 20, 3), (24, .iconst 0, 1), (25, .istore_n 1, 1), (26, .iload_n 1, 1), (27, .bipush 6, 2), (29, .if_icmp .ge (22), 3), (32, .aload_n 0, 1), (33, .getfield 11, 3), (36, .iload_n 1, 1), (37, .new 9, 3), (40, .dup, 1), (41, .invokespecial 24, 3), (44, .aastore, 1), (45, .iinc 1 (1), 3), (48, .goto (-22), 3), (51, .return_, 1)]
def tb_l2 : List tb_K := [(3, 3, 0, 0, 0, 0, 82), (9, 5, 2, 0, 0, 0, 83), (100009, 6, 2, 0, 0, 0, 83), (11, 0, 8, 0, 0, 0, 157), (17, 5, 4, 0, 0, 0, 85), (19, 2, 3, 0, 5, 4, 87), (20, 0, 8, 1, 0, 0, 158), (24, 2, 4, 0, 2, 2, 107)]
def tb_m2 : tb_T := (⟨"CountedActors$Program", "<init>", "()V"⟩, prog_9_method_1_code, 2, none, 3, 61, tb_c2, tb_l2, [], 81, 80, 0, 50, 2)
def tb_c3 : List (Nat × am_I × Nat) := [(0, .aload_n 0, 1), (1, .invokespecial 3, 3), (4, .aload_n 0, 1), (5, .bipush 7, 2), (7, .newarray .int, 2), (9, .putfield 9, 3), (12, .aload_n 0, 1), (13, .bipush 7, 2), (15, .newarray .boolean, 2), (17, .putfield 15, 3), (20, .aload_n 0, 1), (21, .bipush 6, 2), (23, .newarray .boolean, 2), (25, .putfield 19, 3), (28, .return_, 1)]
def tb_l3 : List tb_K := [(3, 3, 0, 0, 0, 0, 90), (9, 0, 4, 0, 0, 0, 91), (15, 0, 4, 1, 0, 0, 92), (19, 0, 4, 2, 0, 0, 93)]
def tb_m3 : tb_T := (⟨"CountedActors$Draft", "<init>", "()V"⟩, prog_5_method_1_code, 1, none, 1, 20, tb_c3, tb_l3, [], 89, 88, 0, 51, 2)
def tb_c4 : List (Nat × am_I × Nat) := [(0, .aload_n 0, 1), (1, .invokespecial 3, 3), (4, .aload_n 0, 1), (5, .bipush 10, 2), (7, .anewarray 9, 3), (10, .putfield 11, 3), (13, .iconst 0, 1), (14, .istore_n 1, 1), (15, .iload_n 1, 1), (16, .bipush 10, 2), (18, .if_icmp .ge (22), 3), (21, .aload_n 0, 1), (22, .getfield 11, 3), (25, .iload_n 1, 1), (26, .new 9, 3), (29, .dup, 1), (30, .invokespecial 17, 3), (33, .aastore, 1), (34, .iinc 1 (1), 3), (37, .goto (-22), 3), (40, .return_, 1)]
def tb_l4 : List tb_K := [(3, 3, 0, 0, 0, 0, 110), (9, 5, 9, 0, 0, 0, 111), (100009, 6, 9, 0, 0, 0, 111), (11, 0, 2, 0, 0, 0, 147), (17, 2, 5, 0, 5, 9, 114)]
def tb_m4 : tb_T := (⟨"CountedActors$Behaviour", "<init>", "()V"⟩, prog_2_method_1_code, 2, none, 2, 40, tb_c4, tb_l4, [], 109, 108, 0, 52, 2)
def tb_c5 : List (Nat × am_I × Nat) := [(0, .aload_n 0, 1), (1, .invokespecial 3, 3), (4, .return_, 1)]
def tb_l5 : List tb_K := [(3, 3, 0, 0, 0, 0, 117)]
def tb_m5 : tb_T := (⟨"CountedActors$Statement", "<init>", "()V"⟩, prog_10_method_1_code, 1, none, 1, 20, tb_c5, tb_l5, [], 116, 115, 0, 53, 2)
def tb_c6 : List (Nat × am_I × Nat) := [(0, .aload_n 0, 1), (1, .invokespecial 3, 3), (4, .aload_n 0, 1), (5, .bipush 16, 2), (7, .newarray .int, 2), (9, .putfield 9, 3), (12, .aload_n 0, 1), (13, .bipush 16, 2), (15, .newarray .int, 2), (17, .putfield 15, 3), (20, .aload_n 0, 1), (21, .bipush 120, 2), (23, .newarray .int, 2), (25, .putfield 18, 3), (28, .aload_n 0, 1), (29, .bipush 64, 2), (31, .newarray .int, 2), (33, .putfield 21, 3), (36, .aload_n 0, 1), (37, .getfield 9, 3), (40, .iconst (-1), 1), (41, .invokestatic 24, 3), (44, .aload_n 0, 1), (45, .getfield 18, 3), (48, .iconst (-1), 1), (49, .invokestatic 24, 3), (52, .return_, 1)]
def tb_l6 : List tb_K := [(3, 3, 0, 0, 0, 0, 175), (9, 0, 5, 0, 0, 0, 179), (15, 0, 5, 1, 0, 0, 180), (18, 0, 5, 2, 0, 0, 181), (21, 0, 5, 3, 0, 0, 182), (24, 2, 7, 2, 1, 0, 176)]
def tb_m6 : tb_T := (⟨"CountedActors$Heap", "<init>", "()V"⟩, prog_6_method_1_code, 1, none, 1, 23, tb_c6, tb_l6, [], 174, 173, 0, 54, 2)
def tb_c7 : List (Nat × am_I × Nat) := [(0, .iconst 0, 1), (1, .istore_n 2, 1), (2, .aload_n 0, 1), (3, .arraylength, 1), (4, .istore_n 3, 1), (5, .iload_n 2, 1), (6, .iload_n 3, 1), (7, .if_icmp .ge (13), 3), (10, .aload_n 0, 1), (11, .iload_n 2, 1), (12, .iload_n 1, 1), (13, .iastore, 1), (14, .iinc 2 (1), 3), (17, .goto (-12), 3), (20, .return_, 1)]
def tb_l7 : List tb_K := []
def tb_m7 : tb_T := (⟨"java/util/Arrays", "fill", "([II)V"⟩, prog_16_method_103_code, 4, none, 0, 0, tb_c7, tb_l7, [], 178, 177, 0, 55, 1)
def tb_c8 : List (Nat × am_I × Nat) := [(0, .aload_n 0, 1), (1, .invokespecial 3, 3), (4, .aload_n 0, 1), (5, .bipush 20, 2), (7, .newarray .int, 2), (9, .putfield 9, 3), (12, .aload_n 0, 1), (13, .bipush 20, 2), (15, .newarray .int, 2), (17, .putfield 15, 3), (20, .aload_n 0, 1), (21, .bipush 20, 2), (23, .newarray .int, 2), (25, .putfield 18, 3), (28, .aload_n 0, 1), (29, .bipush 20, 2), (31, .newarray .int, 2), (33, .putfield 21, 3), (36, .return_, 1)]
def tb_l8 : List tb_K := [(3, 3, 0, 0, 0, 0, 197), (9, 0, 7, 0, 0, 0, 198), (15, 0, 7, 1, 0, 0, 199), (18, 0, 7, 2, 0, 0, 200), (21, 0, 7, 3, 0, 0, 201)]
def tb_m8 : tb_T := (⟨"CountedActors$Mail", "<init>", "()V"⟩, prog_8_method_1_code, 1, none, 1, 20, tb_c8, tb_l8, [], 196, 195, 0, 56, 2)
def tb_c9 : List (Nat × am_I × Nat) := [(0, .aload_n 0, 1), (1, .invokespecial 3, 3), (4, .aload_n 0, 1), (5, .bipush 16, 2), (7, .newarray .int, 2), (9, .putfield 9, 3), (12, .aload_n 0, 1), (13, .bipush 96, 2), (15, .newarray .int, 2), (17, .putfield 15, 3), (20, .aload_n 0, 1), (21, .aload_n 1, 1), (22, .putfield 18, 3), (25, .return_, 1)]
def tb_l9 : List tb_K := [(3, 3, 0, 0, 0, 0, 219), (9, 0, 10, 1, 0, 0, 221), (15, 0, 10, 2, 0, 0, 222), (18, 0, 10, 0, 0, 0, 220)]
def tb_m9 : tb_T := (⟨"CountedActors$Walk", "<init>", "(LCountedActors$Heap;)V"⟩, prog_11_method_1_code, 2, none, 1, 20, tb_c9, tb_l9, [], 218, 217, 0, 57, 2)
def tb_c10 : List (Nat × am_I × Nat) := [(0, .aload_n 0, 1), (1, .invokespecial 3, 3), (4, .aload_n 0, 1), (5, .bipush 16, 2), (7, .newarray .int, 2), (9, .putfield 9, 3), (12, .return_, 1)]
def tb_l10 : List tb_K := [(3, 3, 0, 0, 0, 0, 238), (9, 0, 3, 0, 0, 0, 239)]
def tb_m10 : tb_T := (⟨"CountedActors$Display", "<init>", "()V"⟩, prog_4_method_1_code, 1, none, 1, 20, tb_c10, tb_l10, [], 237, 236, 0, 58, 2)
def tb_c11 : List (Nat × am_I × Nat) := [(0, .aload_n 0, 1), (1, .invokespecial 3, 3), (4, .aload_n 0, 1), (5, .bipush 6, 2), (7, .newarray .int, 2), (9, .putfield 9, 3), (12, .aload_n 0, 1), (13, .iload_n 1, 1), (14, .putfield 15, 3), (17, .aload_n 0, 1), (18, .aload_n 2, 1), (19, .putfield 19, 3), (22, .aload_n 0, 1), (23, .aload_n 3, 1), (24, .putfield 23, 3), (27, .aload_n 0, 1), (28, .aload 4, 2), (30, .putfield 27, 3), (33, .aload_n 0, 1), (34, .aload 5, 2), (36, .putfield 31, 3), (39, .aload_n 0, 1), (40, .aload 6, 2), (42, .putfield 35, 3), (45, .return_, 1)]
def tb_l11 : List tb_K := [(3, 3, 0, 0, 0, 0, 251), (9, 0, 6, 6, 0, 0, 258), (15, 0, 6, 0, 0, 0, 252), (19, 0, 6, 1, 0, 0, 253), (23, 0, 6, 2, 0, 0, 254), (27, 0, 6, 3, 0, 0, 255), (31, 0, 6, 4, 0, 0, 256), (35, 0, 6, 5, 0, 0, 257)]
def tb_m11 : tb_T := (⟨"CountedActors$Machine", "<init>", "(ILCountedActors$Program;LCountedActors$Heap;LCountedActors$Mail;LCountedActors$Walk;LCountedActors$Display;)V"⟩, prog_7_method_1_code, 7, none, 1, 20, tb_c11, tb_l11, [], 250, 249, 0, 59, 2)
def tb_c12 : List (Nat × am_I × Nat) := [(0, .aload_n 0, 1), (1, .getfield 25, 3), (4, .iload_n 1, 1), (5, .invokevirtual 68, 3), (8, .ireturn, 1)]
def tb_l12 : List tb_K := [(25, 0, 0, 1, 0, 1, 278), (68, 2, 13, 1, 0, 8, 303)]
def tb_m12 : tb_T := (⟨"CountedActors", "begin", "(I)I"⟩, prog_1_method_2_code, 2, (some (.int)), 4, 82, tb_c12, tb_l12, [], 302, 300, 302, 48, 0)
def tb_c13 : List (Nat × am_I × Nat) := [(0, .aload_n 0, 1), (1, .getfield 25, 3), (4, .ifCond .ne (19), 3), (7, .aload_n 0, 1), (8, .getfield 29, 3), (11, .bipush 6, 2), (13, .if_icmp .ge (10), 3), (16, .iload_n 1, 1), (17, .invokestatic 33, 3), (20, .ifCond .ne (5), 3), (23, .iconst (-1), 1), (24, .ireturn, 1), (25, .aload_n 0, 1), (26, .getfield 11, 3), (29, .aload_n 0, 1), (30, .getfield 29, 3), (33, .aaload, 1), (34, .iload_n 1, 1), (35, .invokevirtual 37, 3), (38, .aload_n 0, 1), (39, .getfield 20, 3), (42, .iload_n 1, 1), (43, .invokevirtual 41, 3), (46, .aload_n 0, 1), (47, .iconst 1, 1), (48, .putfield 25, 3), (51, .aload_n 0, 1), (52, .dup, 1), (53, .getfield 29, 3), (56, .iconst 1, 1), (57, .iadd, 1), (58, .putfield 29, 3), (61, .aload_n 0, 1), (62, .getfield 29, 3), (65, .iconst 1, 1), (66, .isub, 1), (67, .ireturn, 1)]
def tb_l13 : List tb_K := [(25, 0, 8, 3, 0, 0, 160), (29, 0, 8, 2, 0, 0, 159), (33, 2, 14, 1, 1, 8, 307), (11, 0, 8, 0, 0, 1, 157), (37, 2, 18, 1, 0, 2, 319), (20, 0, 8, 1, 0, 1, 158), (41, 2, 19, 1, 0, 4, 323)]
def tb_m13 : tb_T := (⟨"CountedActors$Program", "open", "(I)I"⟩, prog_9_method_2_code, 2, (some (.int)), 3, 61, tb_c13, tb_l13, [], 306, 304, 306, 50, 0)
def tb_c14 : List (Nat × am_I × Nat) := [(0, .iload_n 0, 1), (1, .invokestatic 109, 3), (4, .ifCond .eq (14), 3), (7, .iload_n 0, 1), (8, .invokestatic 112, 3), (11, .ifCond .eq (7), 3), (14, .iconst 1, 1), (15, .goto (4), 3), (18, .iconst 0, 1), (19, .ireturn, 1)]
def tb_l14 : List tb_K := [(109, 2, 15, 1, 1, 0, 310), (112, 2, 16, 1, 1, 0, 313)]
def tb_m14 : tb_T := (⟨"CountedActors$Program", "isParameter", "(I)Z"⟩, prog_9_method_11_code, 1, (some (.boolean)), 2, 41, tb_c14, tb_l14, [], 309, 308, 0, 50, 1)
def tb_c15 : List (Nat × am_I × Nat) := [(0, .iload_n 0, 1), (1, .ifCond .lt (13), 3), (4, .iload_n 0, 1), (5, .bipush 6, 2), (7, .if_icmp .ge (7), 3), (10, .iconst 1, 1), (11, .goto (4), 3), (14, .iconst 0, 1), (15, .ireturn, 1)]
def tb_l15 : List tb_K := []
def tb_m15 : tb_T := (⟨"CountedActors$Capability", "isOne", "(I)Z"⟩, prog_3_method_2_code, 1, (some (.boolean)), 0, 0, tb_c15, tb_l15, [], 312, 311, 0, 61, 1)
def tb_c16 : List (Nat × am_I × Nat) := [(0, .iload_n 0, 1), (1, .bipush 41, 2), (3, .invokestatic 11, 3), (6, .ireturn, 1)]
def tb_l16 : List tb_K := [(11, 2, 17, 2, 1, 0, 316)]
def tb_m16 : tb_T := (⟨"CountedActors$Capability", "isSendable", "(I)Z"⟩, prog_3_method_4_code, 1, (some (.boolean)), 1, 21, tb_c16, tb_l16, [], 315, 314, 0, 61, 1)
def tb_c17 : List (Nat × am_I × Nat) := [(0, .iload_n 1, 1), (1, .iload_n 0, 1), (2, .ishr, 1), (3, .iconst 1, 1), (4, .iand, 1), (5, .ifCond .eq (7), 3), (8, .iconst 1, 1), (9, .goto (4), 3), (12, .iconst 0, 1), (13, .ireturn, 1)]
def tb_l17 : List tb_K := []
def tb_m17 : tb_T := (⟨"CountedActors$Capability", "isIn", "(II)Z"⟩, prog_3_method_3_code, 2, (some (.boolean)), 0, 0, tb_c17, tb_l17, [], 318, 317, 0, 61, 1)
def tb_c18 : List (Nat × am_I × Nat) := [(0, .aload_n 0, 1), (1, .iload_n 1, 1), (2, .putfield 18, 3), (5, .aload_n 0, 1), (6, .iconst 0, 1), (7, .putfield 22, 3), (10, .return_, 1)]
def tb_l18 : List tb_K := [(18, 0, 2, 1, 0, 0, 148), (22, 0, 2, 2, 0, 0, 149)]
def tb_m18 : tb_T := (⟨"CountedActors$Behaviour", "restart", "(I)V"⟩, prog_2_method_2_code, 2, none, 0, 0, tb_c18, tb_l18, [], 322, 320, 322, 52, 0)
def tb_c19 : List (Nat × am_I × Nat) := [(0, .iconst 0, 1), (1, .istore_n 2, 1), (2, .iload_n 2, 1), (3, .bipush 6, 2), (5, .if_icmp .ge (16), 3), (8, .aload_n 0, 1), (9, .getfield 9, 3), (12, .iload_n 2, 1), (13, .iconst (-1), 1), (14, .iastore, 1), (15, .iinc 2 (1), 3), (18, .goto (-16), 3), (21, .aload_n 0, 1), (22, .getfield 9, 3), (25, .iconst 0, 1), (26, .iload_n 1, 1), (27, .iastore, 1), (28, .aload_n 0, 1), (29, .getfield 9, 3), (32, .bipush 6, 2), (34, .iconst 2, 1), (35, .iastore, 1), (36, .aload_n 0, 1), (37, .invokevirtual 22, 3), (40, .return_, 1)]
def tb_l19 : List tb_K := [(9, 0, 4, 0, 0, 1, 91), (22, 2, 20, 0, 0, 4, 327)]
def tb_m19 : tb_T := (⟨"CountedActors$Draft", "restart", "(I)V"⟩, prog_5_method_2_code, 3, none, 1, 21, tb_c19, tb_l19, [], 326, 324, 326, 51, 0)
def tb_c20 : List (Nat × am_I × Nat) := [(0, .aload_n 0, 1), (1, .iconst 0, 1), (2, .putfield 25, 3), (5, .iconst 0, 1), (6, .istore_n 1, 1), (7, .iload_n 1, 1), (8, .bipush 6, 2), (10, .if_icmp .ge (23), 3), (13, .aload_n 0, 1), (14, .getfield 15, 3), (17, .iload_n 1, 1), (18, .iconst 0, 1), (19, .bastore, 1), (20, .aload_n 0, 1), (21, .getfield 19, 3), (24, .iload_n 1, 1), (25, .iconst 0, 1), (26, .bastore, 1), (27, .iinc 1 (1), 3), (30, .goto (-23), 3), (33, .aload_n 0, 1), (34, .getfield 15, 3), (37, .bipush 6, 2), (39, .iconst 0, 1), (40, .bastore, 1), (41, .return_, 1)]
def tb_l20 : List tb_K := [(25, 0, 4, 3, 0, 0, 94), (15, 0, 4, 1, 0, 1, 92), (19, 0, 4, 2, 0, 1, 93)]
def tb_m20 : tb_T := (⟨"CountedActors$Draft", "leaveBlock", "()V"⟩, prog_5_method_14_code, 2, none, 0, 0, tb_c20, tb_l20, [], 330, 329, 1, 51, 0)
def tb_c21 : List (Nat × am_I × Nat) := [(0, .aload_n 0, 1), (1, .getfield 25, 3), (4, .iload_n 1, 1), (5, .iload_n 2, 1), (6, .iload_n 3, 1), (7, .iload 4, 2), (9, .iload 5, 2), (11, .invokevirtual 72, 3), (14, .ireturn, 1)]
def tb_l21 : List tb_K := [(25, 0, 0, 1, 0, 1, 278), (72, 2, 22, 5, 0, 8, 335)]
def tb_m21 : tb_T := (⟨"CountedActors", "add", "(IIIII)I"⟩, prog_1_method_3_code, 6, (some (.int)), 6, 136, tb_c21, tb_l21, [], 334, 332, 334, 48, 0)
def tb_c22 : List (Nat × am_I × Nat) := [(0, .aload_n 0, 1), (1, .getfield 25, 3), (4, .ifCond .ne (5), 3), (7, .iconst 1, 1), (8, .ireturn, 1), (9, .aload_n 0, 1), (10, .getfield 11, 3), (13, .aload_n 0, 1), (14, .getfield 29, 3), (17, .iconst 1, 1), (18, .isub, 1), (19, .aaload, 1), (20, .astore 6, 2), (22, .aload 6, 2), (24, .invokevirtual 42, 3), (27, .ifCond .eq (5), 3), (30, .iconst 2, 1), (31, .ireturn, 1), (32, .aload 6, 2), (34, .aload 6, 2), (36, .invokevirtual 46, 3), (39, .invokevirtual 50, 3), (42, .astore 7, 2), (44, .aload 7, 2), (46, .iload_n 1, 1), (47, .iload_n 2, 1), (48, .iload_n 3, 1), (49, .iload 4, 2), (51, .iload 5, 2), (53, .invokevirtual 54, 3), (56, .aload_n 0, 1), (57, .aload 7, 2), (59, .invokevirtual 60, 3), (62, .istore 8, 2), (64, .iload 8, 2), (66, .ifCond .ne (17), 3), (69, .aload_n 0, 1), (70, .getfield 20, 3), (73, .aload 7, 2), (75, .invokevirtual 64, 3), (78, .aload 6, 2), (80, .invokevirtual 68, 3), (83, .iload 8, 2), (85, .ireturn, 1)]
def tb_l22 : List tb_K := [(25, 0, 8, 3, 0, 0, 160), (11, 0, 8, 0, 0, 1, 157), (29, 0, 8, 2, 0, 0, 159), (42, 2, 23, 0, 0, 2, 339), (46, 2, 24, 0, 0, 2, 343), (50, 2, 25, 1, 0, 2, 347), (54, 2, 26, 5, 0, 9, 351), (60, 2, 27, 1, 0, 8, 355), (20, 0, 8, 1, 0, 1, 158), (64, 2, 45, 1, 0, 4, 427), (68, 2, 53, 0, 0, 2, 463)]
def tb_m22 : tb_T := (⟨"CountedActors$Program", "write", "(IIIII)I"⟩, prog_9_method_3_code, 9, (some (.int)), 5, 108, tb_c22, tb_l22, [], 338, 336, 338, 50, 0)
def tb_c23 : List (Nat × am_I × Nat) := [(0, .aload_n 0, 1), (1, .getfield 22, 3), (4, .bipush 10, 2), (6, .if_icmp .lt (7), 3), (9, .iconst 1, 1), (10, .goto (4), 3), (13, .iconst 0, 1), (14, .ireturn, 1)]
def tb_l23 : List tb_K := [(22, 0, 2, 2, 0, 0, 149)]
def tb_m23 : tb_T := (⟨"CountedActors$Behaviour", "isFull", "()Z"⟩, prog_2_method_5_code, 1, (some (.boolean)), 0, 0, tb_c23, tb_l23, [], 342, 340, 342, 52, 0)
def tb_c24 : List (Nat × am_I × Nat) := [(0, .aload_n 0, 1), (1, .getfield 22, 3), (4, .ireturn, 1)]
def tb_l24 : List tb_K := [(22, 0, 2, 2, 0, 0, 149)]
def tb_m24 : tb_T := (⟨"CountedActors$Behaviour", "size", "()I"⟩, prog_2_method_4_code, 1, (some (.int)), 0, 0, tb_c24, tb_l24, [], 346, 344, 346, 52, 0)
def tb_c25 : List (Nat × am_I × Nat) := [(0, .aload_n 0, 1), (1, .getfield 11, 3), (4, .iload_n 1, 1), (5, .aaload, 1), (6, .areturn, 1)]
def tb_l25 : List tb_K := [(11, 0, 2, 0, 0, 1, 147)]
def tb_m25 : tb_T := (⟨"CountedActors$Behaviour", "at", "(I)LCountedActors$Statement;"⟩, prog_2_method_6_code, 2, (some (.object "CountedActors$Statement")), 0, 0, tb_c25, tb_l25, [], 350, 348, 350, 52, 0)
def tb_c26 : List (Nat × am_I × Nat) := [(0, .aload_n 0, 1), (1, .iload_n 1, 1), (2, .putfield 9, 3), (5, .aload_n 0, 1), (6, .iload_n 2, 1), (7, .putfield 15, 3), (10, .aload_n 0, 1), (11, .iload_n 3, 1), (12, .putfield 18, 3), (15, .aload_n 0, 1), (16, .iload 4, 2), (18, .putfield 21, 3), (21, .aload_n 0, 1), (22, .iload 5, 2), (24, .putfield 24, 3), (27, .return_, 1)]
def tb_l26 : List tb_K := [(9, 0, 9, 0, 0, 0, 118), (15, 0, 9, 1, 0, 0, 122), (18, 0, 9, 2, 0, 0, 125), (21, 0, 9, 3, 0, 0, 129), (24, 0, 9, 4, 0, 0, 132)]
def tb_m26 : tb_T := (⟨"CountedActors$Statement", "set", "(IIIII)V"⟩, prog_10_method_2_code, 6, none, 0, 0, tb_c26, tb_l26, [], 354, 352, 354, 53, 0)
def tb_c27 : List (Nat × am_I × Nat) := [(0, .aload_n 1, 1), (1, .aload_n 0, 1), (2, .getfield 29, 3), (5, .invokevirtual 71, 3), (8, .ifCond .ne (5), 3), (11, .iconst 3, 1), (12, .ireturn, 1), (13, .aload_n 0, 1), (14, .getfield 20, 3), (17, .aload_n 1, 1), (18, .invokevirtual 74, 3), (21, .istore_n 2, 1), (22, .iload_n 2, 1), (23, .ifCond .ne (12), 3), (26, .aload_n 1, 1), (27, .getfield 75, 3), (30, .bipush 8, 2), (32, .if_icmp .eq (5), 3), (35, .iload_n 2, 1), (36, .ireturn, 1), (37, .aload_n 0, 1), (38, .getfield 20, 3), (41, .aload_n 1, 1), (42, .getfield 78, 3), (45, .invokevirtual 81, 3), (48, .aload_n 0, 1), (49, .aload_n 1, 1), (50, .getfield 85, 3), (53, .invokevirtual 88, 3), (56, .invokestatic 91, 3), (59, .ifCond .eq (7), 3), (62, .iconst 0, 1), (63, .goto (5), 3), (66, .bipush 9, 2), (68, .ireturn, 1)]
def tb_l27 : List tb_K := [(29, 0, 8, 2, 0, 0, 159), (71, 2, 28, 1, 0, 9, 359), (20, 0, 8, 1, 0, 1, 158), (74, 2, 32, 1, 0, 4, 373), (75, 0, 9, 0, 0, 0, 119), (78, 0, 9, 4, 0, 0, 133), (81, 2, 42, 1, 0, 4, 414), (85, 0, 9, 2, 0, 0, 126), (88, 2, 43, 1, 0, 8, 418), (91, 2, 41, 2, 1, 0, 426)]
def tb_m27 : tb_T := (⟨"CountedActors$Program", "refusal", "(LCountedActors$Statement;)I"⟩, prog_9_method_4_code, 3, (some (.int)), 4, 86, tb_c27, tb_l27, [], 358, 357, 2, 50, 0)
def tb_c28 : List (Nat × am_I × Nat) := [(0, .aload_n 0, 1), (1, .getfield 9, 3), (4, .tableswitch 286 0 10 #[60, 86, 86, 112, 148, 184, 230, 230, 238, 284, 86], 60), (64, .aload_n 0, 1), (65, .getfield 15, 3), (68, .invokestatic 27, 3), (71, .ifCond .eq (17), 3), (74, .aload_n 0, 1), (75, .getfield 21, 3), (78, .invokestatic 31, 3), (81, .ifCond .eq (7), 3), (84, .iconst 1, 1), (85, .goto (4), 3), (88, .iconst 0, 1), (89, .ireturn, 1), (90, .aload_n 0, 1), (91, .getfield 15, 3), (94, .invokestatic 27, 3), (97, .ifCond .eq (17), 3), (100, .aload_n 0, 1), (101, .getfield 18, 3), (104, .invokestatic 27, 3), (107, .ifCond .eq (7), 3), (110, .iconst 1, 1), (111, .goto (4), 3), (114, .iconst 0, 1), (115, .ireturn, 1), (116, .aload_n 0, 1), (117, .getfield 15, 3), (120, .invokestatic 27, 3), (123, .ifCond .eq (27), 3), (126, .aload_n 0, 1), (127, .getfield 18, 3), (130, .invokestatic 36, 3), (133, .ifCond .eq (17), 3), (136, .aload_n 0, 1), (137, .getfield 21, 3), (140, .invokestatic 39, 3), (143, .ifCond .eq (7), 3), (146, .iconst 1, 1), (147, .goto (4), 3), (150, .iconst 0, 1), (151, .ireturn, 1), (152, .aload_n 0, 1), (153, .getfield 18, 3), (156, .invokestatic 36, 3), (159, .ifCond .eq (27), 3), (162, .aload_n 0, 1), (163, .getfield 21, 3), (166, .invokestatic 39, 3), (169, .ifCond .eq (17), 3), (172, .aload_n 0, 1), (173, .getfield 24, 3), (176, .invokestatic 27, 3), (179, .ifCond .eq (7), 3), (182, .iconst 1, 1), (183, .goto (4), 3), (186, .iconst 0, 1), (187, .ireturn, 1), (188, .aload_n 0, 1), (189, .getfield 15, 3), (192, .invokestatic 27, 3), (195, .ifCond .eq (37), 3), (198, .aload_n 0, 1), (199, .getfield 18, 3), (202, .invokestatic 36, 3), (205, .ifCond .eq (27), 3), (208, .aload_n 0, 1), (209, .getfield 21, 3), (212, .invokestatic 39, 3), (215, .ifCond .eq (17), 3), (218, .aload_n 0, 1), (219, .getfield 24, 3), (222, .invokestatic 27, 3), (225, .ifCond .eq (7), 3), (228, .iconst 1, 1), (229, .goto (4), 3), (232, .iconst 0, 1), (233, .ireturn, 1), (234, .aload_n 0, 1), (235, .getfield 18, 3), (238, .invokestatic 27, 3), (241, .ireturn, 1), (242, .aload_n 0, 1), (243, .getfield 15, 3), (246, .ifCond .lt (40), 3), (249, .aload_n 0, 1), (250, .getfield 15, 3), (253, .iconst 4, 1), (254, .if_icmp .ge (32), 3), (257, .aload_n 0, 1), (258, .getfield 18, 3), (261, .ifCond .lt (25), 3), (264, .aload_n 0, 1), (265, .getfield 18, 3), (268, .iload_n 1, 1), (269, .if_icmp .ge (17), 3), (272, .aload_n 0, 1), (273, .getfield 24, 3), (276, .invokestatic 27, 3), (279, .ifCond .eq (7), 3), (282, .iconst 1, 1), (283, .goto (4), 3), (286, .iconst 0, 1), (287, .ireturn, 1), (288, .iconst 1, 1), (289, .ireturn, 1), (290, .iconst 0, 1), (291, .ireturn, 1)]
def tb_l28 : List tb_K := [(9, 0, 9, 0, 0, 0, 118), (15, 0, 9, 1, 0, 0, 122), (27, 2, 29, 1, 1, 9, 363), (21, 0, 9, 3, 0, 0, 129), (31, 2, 15, 1, 1, 0, 366), (18, 0, 9, 2, 0, 0, 125), (36, 2, 30, 1, 1, 9, 367), (39, 2, 31, 1, 4, 0, 370), (24, 0, 9, 4, 0, 0, 132)]
def tb_m28 : tb_T := (⟨"CountedActors$Statement", "namesOnlyWhatIs", "(I)Z"⟩, prog_10_method_5_code, 2, (some (.boolean)), 2, 40, tb_c28, tb_l28, [], 362, 360, 362, 53, 0)
def tb_c29 : List (Nat × am_I × Nat) := [(0, .iload_n 0, 1), (1, .ifCond .lt (13), 3), (4, .iload_n 0, 1), (5, .bipush 6, 2), (7, .if_icmp .ge (7), 3), (10, .iconst 1, 1), (11, .goto (4), 3), (14, .iconst 0, 1), (15, .ireturn, 1)]
def tb_l29 : List tb_K := []
def tb_m29 : tb_T := (⟨"CountedActors$Statement", "isLocal", "(I)Z"⟩, prog_10_method_6_code, 1, (some (.boolean)), 0, 0, tb_c29, tb_l29, [], 365, 364, 0, 53, 1)
def tb_c30 : List (Nat × am_I × Nat) := [(0, .iload_n 0, 1), (1, .invokestatic 27, 3), (4, .ifCond .ne (9), 3), (7, .iload_n 0, 1), (8, .bipush 6, 2), (10, .if_icmp .ne (7), 3), (13, .iconst 1, 1), (14, .goto (4), 3), (17, .iconst 0, 1), (18, .ireturn, 1)]
def tb_l30 : List tb_K := [(27, 2, 29, 1, 1, 9, 363)]
def tb_m30 : tb_T := (⟨"CountedActors$Statement", "isLocalOrThis", "(I)Z"⟩, prog_10_method_7_code, 1, (some (.boolean)), 1, 20, tb_c30, tb_l30, [], 369, 368, 0, 53, 1)
def tb_c31 : List (Nat × am_I × Nat) := [(0, .iload_n 0, 1), (1, .ifCond .lt (13), 3), (4, .iload_n 0, 1), (5, .bipush 6, 2), (7, .if_icmp .ge (7), 3), (10, .iconst 1, 1), (11, .goto (4), 3), (14, .iconst 0, 1), (15, .ireturn, 1)]
def tb_l31 : List tb_K := []
def tb_m31 : tb_T := (⟨"CountedActors", "isField", "(I)Z"⟩, prog_1_method_21_code, 1, (some (.boolean)), 0, 0, tb_c31, tb_l31, [], 372, 371, 0, 48, 1)
def tb_c32 : List (Nat × am_I × Nat) := [(0, .aload_n 1, 1), (1, .getfield 29, 3), (4, .bipush 9, 2), (6, .if_icmp .ne (10), 3), (9, .aload_n 0, 1), (10, .getfield 25, 3), (13, .ifCond .ne (19), 3), (16, .aload_n 1, 1), (17, .getfield 29, 3), (20, .bipush 10, 2), (22, .if_icmp .ne (12), 3), (25, .aload_n 0, 1), (26, .getfield 25, 3), (29, .ifCond .ne (5), 3), (32, .iconst 4, 1), (33, .ireturn, 1), (34, .aload_n 1, 1), (35, .invokevirtual 35, 3), (38, .ifCond .eq (15), 3), (41, .aload_n 0, 1), (42, .getfield 15, 3), (45, .aload_n 1, 1), (46, .getfield 39, 3), (49, .baload, 1), (50, .ifCond .ne (22), 3), (53, .aload_n 1, 1), (54, .invokevirtual 42, 3), (57, .ifCond .eq (17), 3), (60, .aload_n 0, 1), (61, .getfield 15, 3), (64, .aload_n 1, 1), (65, .getfield 45, 3), (68, .baload, 1), (69, .ifCond .eq (5), 3), (72, .iconst 5, 1), (73, .ireturn, 1), (74, .aload_n 1, 1), (75, .invokevirtual 35, 3), (78, .ifCond .eq (14), 3), (81, .aload_n 0, 1), (82, .aload_n 1, 1), (83, .getfield 39, 3), (86, .invokevirtual 48, 3), (89, .ifCond .ne (21), 3), (92, .aload_n 1, 1), (93, .invokevirtual 42, 3), (96, .ifCond .eq (17), 3), (99, .aload_n 0, 1), (100, .aload_n 1, 1), (101, .getfield 45, 3), (104, .invokevirtual 48, 3), (107, .ifCond .eq (6), 3), (110, .bipush 6, 2), (112, .ireturn, 1), (113, .aload_n 1, 1), (114, .getfield 29, 3), (117, .iconst 5, 1), (118, .if_icmp .ne (17), 3), (121, .aload_n 1, 1), (122, .getfield 39, 3), (125, .aload_n 1, 1), (126, .getfield 45, 3), (129, .if_icmp .ne (6), 3), (132, .bipush 6, 2), (134, .ireturn, 1), (135, .aload_n 1, 1), (136, .getfield 29, 3), (139, .tableswitch 110 3 7 #[33, 77, 95, 55, 33], 33), (172, .aload_n 0, 1), (173, .getfield 9, 3), (176, .aload_n 1, 1), (177, .getfield 39, 3), (180, .iaload, 1), (181, .invokestatic 52, 3), (184, .ifCond .eq (7), 3), (187, .iconst 0, 1), (188, .goto (5), 3), (191, .bipush 7, 2), (193, .ireturn, 1), (194, .aload_n 0, 1), (195, .getfield 9, 3), (198, .aload_n 1, 1), (199, .getfield 39, 3), (202, .iaload, 1), (203, .invokestatic 57, 3), (206, .ifCond .eq (7), 3), (209, .iconst 0, 1), (210, .goto (5), 3), (213, .bipush 7, 2), (215, .ireturn, 1), (216, .aload_n 0, 1), (217, .aload_n 1, 1), (218, .aload_n 0, 1), (219, .getfield 9, 3), (222, .aload_n 1, 1), (223, .getfield 45, 3), (226, .iaload, 1), (227, .invokestatic 60, 3), (230, .invokevirtual 64, 3), (233, .ireturn, 1), (234, .aload_n 0, 1), (235, .aload_n 1, 1), (236, .aload_n 0, 1), (237, .getfield 9, 3), (240, .aload_n 1, 1), (241, .getfield 45, 3), (244, .iaload, 1), (245, .invokevirtual 64, 3), (248, .ireturn, 1), (249, .iconst 0, 1), (250, .ireturn, 1)]
def tb_l32 : List tb_K := [(29, 0, 9, 0, 0, 0, 120), (25, 0, 4, 3, 0, 0, 94), (35, 2, 33, 0, 0, 9, 377), (15, 0, 4, 1, 0, 1, 92), (39, 0, 9, 2, 0, 0, 127), (42, 2, 34, 0, 0, 9, 381), (45, 0, 9, 4, 0, 0, 134), (48, 2, 35, 1, 0, 4, 385), (9, 0, 4, 0, 0, 1, 91), (52, 2, 36, 1, 1, 0, 389), (57, 2, 37, 1, 1, 0, 392), (60, 2, 38, 1, 1, 0, 395), (64, 2, 39, 2, 0, 4, 400)]
def tb_m32 : tb_T := (⟨"CountedActors$Draft", "refusal", "(LCountedActors$Statement;)I"⟩, prog_5_method_6_code, 2, (some (.int)), 3, 65, tb_c32, tb_l32, [], 376, 374, 376, 51, 0)
def tb_c33 : List (Nat × am_I × Nat) := [(0, .aload_n 0, 1), (1, .getfield 9, 3), (4, .iconst 1, 1), (5, .if_icmp .lt (12), 3), (8, .aload_n 0, 1), (9, .getfield 9, 3), (12, .bipush 7, 2), (14, .if_icmp .le (12), 3), (17, .aload_n 0, 1), (18, .getfield 9, 3), (21, .bipush 10, 2), (23, .if_icmp .ne (7), 3), (26, .iconst 1, 1), (27, .goto (4), 3), (30, .iconst 0, 1), (31, .ireturn, 1)]
def tb_l33 : List tb_K := [(9, 0, 9, 0, 0, 0, 118)]
def tb_m33 : tb_T := (⟨"CountedActors$Statement", "looksIntoY", "()Z"⟩, prog_10_method_3_code, 1, (some (.boolean)), 0, 0, tb_c33, tb_l33, [], 380, 378, 380, 53, 0)
def tb_c34 : List (Nat × am_I × Nat) := [(0, .aload_n 0, 1), (1, .getfield 9, 3), (4, .iconst 4, 1), (5, .if_icmp .eq (20), 3), (8, .aload_n 0, 1), (9, .getfield 9, 3), (12, .iconst 5, 1), (13, .if_icmp .eq (12), 3), (16, .aload_n 0, 1), (17, .getfield 9, 3), (20, .bipush 8, 2), (22, .if_icmp .ne (7), 3), (25, .iconst 1, 1), (26, .goto (4), 3), (29, .iconst 0, 1), (30, .ireturn, 1)]
def tb_l34 : List tb_K := [(9, 0, 9, 0, 0, 0, 118)]
def tb_m34 : tb_T := (⟨"CountedActors$Statement", "looksIntoZ", "()Z"⟩, prog_10_method_4_code, 1, (some (.boolean)), 0, 0, tb_c34, tb_l34, [], 384, 382, 384, 53, 0)
def tb_c35 : List (Nat × am_I × Nat) := [(0, .aload_n 0, 1), (1, .getfield 9, 3), (4, .iload_n 1, 1), (5, .iaload, 1), (6, .iconst (-1), 1), (7, .if_icmp .ne (7), 3), (10, .iconst 1, 1), (11, .goto (4), 3), (14, .iconst 0, 1), (15, .ireturn, 1)]
def tb_l35 : List tb_K := [(9, 0, 4, 0, 0, 1, 91)]
def tb_m35 : tb_T := (⟨"CountedActors$Draft", "isEmpty", "(I)Z"⟩, prog_5_method_9_code, 2, (some (.boolean)), 0, 0, tb_c35, tb_l35, [], 388, 387, 3, 51, 0)
def tb_c36 : List (Nat × am_I × Nat) := [(0, .iload_n 0, 1), (1, .bipush 31, 2), (3, .invokestatic 11, 3), (6, .ireturn, 1)]
def tb_l36 : List tb_K := [(11, 2, 17, 2, 1, 0, 316)]
def tb_m36 : tb_T := (⟨"CountedActors$Capability", "isReadable", "(I)Z"⟩, prog_3_method_5_code, 1, (some (.boolean)), 1, 21, tb_c36, tb_l36, [], 391, 390, 0, 61, 1)
def tb_c37 : List (Nat × am_I × Nat) := [(0, .iload_n 0, 1), (1, .bipush 7, 2), (3, .invokestatic 11, 3), (6, .ireturn, 1)]
def tb_l37 : List tb_K := [(11, 2, 17, 2, 1, 0, 316)]
def tb_m37 : tb_T := (⟨"CountedActors$Capability", "isWritable", "(I)Z"⟩, prog_3_method_6_code, 1, (some (.boolean)), 1, 21, tb_c37, tb_l37, [], 394, 393, 0, 61, 1)
def tb_c38 : List (Nat × am_I × Nat) := [(0, .getstatic 15, 3), (3, .iload_n 0, 1), (4, .iaload, 1), (5, .ireturn, 1)]
def tb_l38 : List tb_K := [(15, 1, 0, 0, 0, 0, 398)]
def tb_m38 : tb_T := (⟨"CountedActors$Capability", "alias", "(I)I"⟩, prog_3_method_7_code, 1, (some (.int)), 0, 0, tb_c38, tb_l38, [], 397, 396, 0, 61, 1)
def tb_c39 : List (Nat × am_I × Nat) := [(0, .aload_n 0, 1), (1, .getfield 9, 3), (4, .aload_n 1, 1), (5, .getfield 39, 3), (8, .iaload, 1), (9, .istore_n 3, 1), (10, .iload_n 3, 1), (11, .invokestatic 57, 3), (14, .ifCond .ne (6), 3), (17, .bipush 7, 2), (19, .ireturn, 1), (20, .iload_n 2, 1), (21, .iload_n 3, 1), (22, .invokestatic 68, 3), (25, .ifCond .ne (6), 3), (28, .bipush 8, 2), (30, .ireturn, 1), (31, .iload_n 2, 1), (32, .aload_n 1, 1), (33, .getfield 72, 3), (36, .invokestatic 75, 3), (39, .ifCond .eq (7), 3), (42, .iconst 0, 1), (43, .goto (5), 3), (46, .bipush 9, 2), (48, .ireturn, 1)]
def tb_l39 : List tb_K := [(9, 0, 4, 0, 0, 1, 91), (39, 0, 9, 2, 0, 0, 127), (57, 2, 37, 1, 1, 0, 392), (68, 2, 40, 2, 1, 0, 404), (72, 0, 9, 3, 0, 0, 131), (75, 2, 41, 2, 1, 0, 409)]
def tb_m39 : tb_T := (⟨"CountedActors$Draft", "refusalOfStoring", "(LCountedActors$Statement;I)I"⟩, prog_5_method_7_code, 4, (some (.int)), 2, 42, tb_c39, tb_l39, [], 403, 402, 4, 51, 0)
def tb_c40 : List (Nat × am_I × Nat) := [(0, .iload_n 0, 1), (1, .getstatic 31, 3), (4, .iload_n 1, 1), (5, .iaload, 1), (6, .invokestatic 11, 3), (9, .ireturn, 1)]
def tb_l40 : List tb_K := [(31, 1, 1, 0, 0, 0, 407), (11, 2, 17, 2, 1, 0, 316)]
def tb_m40 : tb_T := (⟨"CountedActors$Capability", "isSafe", "(II)Z"⟩, prog_3_method_12_code, 2, (some (.boolean)), 1, 21, tb_c40, tb_l40, [], 406, 405, 0, 61, 1)
def tb_c41 : List (Nat × am_I × Nat) := [(0, .iload_n 1, 1), (1, .getstatic 28, 3), (4, .iload_n 0, 1), (5, .iaload, 1), (6, .invokestatic 11, 3), (9, .ireturn, 1)]
def tb_l41 : List tb_K := [(28, 1, 2, 0, 0, 0, 412), (11, 2, 17, 2, 1, 0, 316)]
def tb_m41 : tb_T := (⟨"CountedActors$Capability", "fits", "(II)Z"⟩, prog_3_method_11_code, 2, (some (.boolean)), 1, 21, tb_c41, tb_l41, [], 411, 410, 0, 61, 1)
def tb_c42 : List (Nat × am_I × Nat) := [(0, .aload_n 0, 1), (1, .getfield 9, 3), (4, .iload_n 1, 1), (5, .iaload, 1), (6, .ireturn, 1)]
def tb_l42 : List tb_K := [(9, 0, 4, 0, 0, 1, 91)]
def tb_m42 : tb_T := (⟨"CountedActors$Draft", "capabilityOf", "(I)I"⟩, prog_5_method_5_code, 2, (some (.int)), 0, 0, tb_c42, tb_l42, [], 417, 415, 417, 51, 0)
def tb_c43 : List (Nat × am_I × Nat) := [(0, .aload_n 0, 1), (1, .getfield 11, 3), (4, .iload_n 1, 1), (5, .aaload, 1), (6, .invokevirtual 106, 3), (9, .ireturn, 1)]
def tb_l43 : List tb_K := [(11, 0, 8, 0, 0, 1, 157), (106, 2, 44, 0, 0, 2, 422)]
def tb_m43 : tb_T := (⟨"CountedActors$Program", "parameterOf", "(I)I"⟩, prog_9_method_10_code, 2, (some (.int)), 1, 20, tb_c43, tb_l43, [], 421, 419, 421, 50, 0)
def tb_c44 : List (Nat × am_I × Nat) := [(0, .aload_n 0, 1), (1, .getfield 18, 3), (4, .ireturn, 1)]
def tb_l44 : List tb_K := [(18, 0, 2, 1, 0, 0, 148)]
def tb_m44 : tb_T := (⟨"CountedActors$Behaviour", "parameter", "()I"⟩, prog_2_method_3_code, 1, (some (.int)), 0, 0, tb_c44, tb_l44, [], 425, 423, 425, 52, 0)
def tb_c45 : List (Nat × am_I × Nat) := [(0, .aload_n 1, 1), (1, .getfield 29, 3), (4, .tableswitch 217 0 10 #[60, 75, 98, 117, 217, 147, 217, 217, 183, 195, 202], 60), (64, .aload_n 0, 1), (65, .aload_n 1, 1), (66, .getfield 78, 3), (69, .aload_n 1, 1), (70, .getfield 72, 3), (73, .invokevirtual 81, 3), (76, .goto (145), 3), (79, .aload_n 0, 1), (80, .aload_n 1, 1), (81, .getfield 78, 3), (84, .aload_n 0, 1), (85, .getfield 9, 3), (88, .aload_n 1, 1), (89, .getfield 39, 3), (92, .iaload, 1), (93, .invokestatic 60, 3), (96, .invokevirtual 81, 3), (99, .goto (122), 3), (102, .aload_n 0, 1), (103, .aload_n 1, 1), (104, .getfield 78, 3), (107, .aload_n 0, 1), (108, .aload_n 1, 1), (109, .getfield 39, 3), (112, .invokevirtual 85, 3), (115, .invokevirtual 81, 3), (118, .goto (103), 3), (121, .aload_n 0, 1), (122, .aload_n 1, 1), (123, .getfield 78, 3), (126, .aload_n 0, 1), (127, .getfield 9, 3), (130, .aload_n 1, 1), (131, .getfield 39, 3), (134, .iaload, 1), (135, .aload_n 1, 1), (136, .getfield 72, 3), (139, .invokestatic 88, 3), (142, .invokestatic 60, 3), (145, .invokevirtual 81, 3), (148, .goto (73), 3), (151, .aload_n 0, 1), (152, .aload_n 1, 1), (153, .getfield 45, 3), (156, .invokevirtual 85, 3), (159, .pop, 1), (160, .aload_n 0, 1), (161, .aload_n 1, 1), (162, .getfield 78, 3), (165, .aload_n 0, 1), (166, .getfield 9, 3), (169, .aload_n 1, 1), (170, .getfield 39, 3), (173, .iaload, 1), (174, .aload_n 1, 1), (175, .getfield 72, 3), (178, .invokestatic 92, 3), (181, .invokevirtual 81, 3), (184, .goto (37), 3), (187, .aload_n 0, 1), (188, .aload_n 1, 1), (189, .getfield 45, 3), (192, .invokevirtual 85, 3), (195, .pop, 1), (196, .goto (25), 3), (199, .aload_n 0, 1), (200, .invokevirtual 95, 3), (203, .goto (18), 3), (206, .aload_n 0, 1), (207, .aload_n 1, 1), (208, .getfield 78, 3), (211, .aload_n 1, 1), (212, .getfield 39, 3), (215, .invokevirtual 98, 3), (218, .goto (3), 3), (221, .return_, 1)]
def tb_l45 : List tb_K := [(29, 0, 9, 0, 0, 0, 120), (78, 0, 9, 1, 0, 0, 124), (72, 0, 9, 3, 0, 0, 131), (81, 2, 46, 2, 0, 4, 431), (9, 0, 4, 0, 0, 1, 91), (39, 0, 9, 2, 0, 0, 127), (60, 2, 38, 1, 1, 0, 395), (85, 2, 47, 1, 0, 4, 435), (88, 2, 48, 2, 1, 0, 439), (45, 0, 9, 4, 0, 0, 134), (92, 2, 49, 2, 1, 0, 444), (95, 2, 50, 0, 0, 4, 449), (98, 2, 51, 2, 0, 4, 454)]
def tb_m45 : tb_T := (⟨"CountedActors$Draft", "follow", "(LCountedActors$Statement;)V"⟩, prog_5_method_8_code, 2, none, 3, 62, tb_c45, tb_l45, [], 430, 428, 430, 51, 0)
def tb_c46 : List (Nat × am_I × Nat) := [(0, .aload_n 0, 1), (1, .getfield 9, 3), (4, .iload_n 1, 1), (5, .iload_n 2, 1), (6, .iastore, 1), (7, .aload_n 0, 1), (8, .getfield 15, 3), (11, .iload_n 1, 1), (12, .iconst 0, 1), (13, .bastore, 1), (14, .aload_n 0, 1), (15, .getfield 19, 3), (18, .iload_n 1, 1), (19, .aload_n 0, 1), (20, .getfield 25, 3), (23, .bastore, 1), (24, .return_, 1)]
def tb_l46 : List tb_K := [(9, 0, 4, 0, 0, 1, 91), (15, 0, 4, 1, 0, 1, 92), (19, 0, 4, 2, 0, 1, 93), (25, 0, 4, 3, 0, 0, 94)]
def tb_m46 : tb_T := (⟨"CountedActors$Draft", "become", "(II)V"⟩, prog_5_method_10_code, 3, none, 0, 0, tb_c46, tb_l46, [], 434, 433, 5, 51, 0)
def tb_c47 : List (Nat × am_I × Nat) := [(0, .aload_n 0, 1), (1, .getfield 9, 3), (4, .iload_n 1, 1), (5, .iaload, 1), (6, .istore_n 2, 1), (7, .aload_n 0, 1), (8, .getfield 9, 3), (11, .iload_n 1, 1), (12, .iconst (-1), 1), (13, .iastore, 1), (14, .iload_n 2, 1), (15, .ireturn, 1)]
def tb_l47 : List tb_K := [(9, 0, 4, 0, 0, 1, 91)]
def tb_m47 : tb_T := (⟨"CountedActors$Draft", "emptied", "(I)I"⟩, prog_5_method_11_code, 3, (some (.int)), 0, 0, tb_c47, tb_l47, [], 438, 437, 6, 51, 0)
def tb_c48 : List (Nat × am_I × Nat) := [(0, .getstatic 19, 3), (3, .iload_n 0, 1), (4, .bipush 6, 2), (6, .imul, 1), (7, .iload_n 1, 1), (8, .iadd, 1), (9, .iaload, 1), (10, .ireturn, 1)]
def tb_l48 : List tb_K := [(19, 1, 3, 0, 0, 0, 442)]
def tb_m48 : tb_T := (⟨"CountedActors$Capability", "view", "(II)I"⟩, prog_3_method_8_code, 2, (some (.int)), 0, 0, tb_c48, tb_l48, [], 441, 440, 0, 61, 1)
def tb_c49 : List (Nat × am_I × Nat) := [(0, .getstatic 22, 3), (3, .iload_n 0, 1), (4, .bipush 6, 2), (6, .imul, 1), (7, .iload_n 1, 1), (8, .iadd, 1), (9, .iaload, 1), (10, .ireturn, 1)]
def tb_l49 : List tb_K := [(22, 1, 4, 0, 0, 0, 447)]
def tb_m49 : tb_T := (⟨"CountedActors$Capability", "drawn", "(II)I"⟩, prog_3_method_9_code, 2, (some (.int)), 0, 0, tb_c49, tb_l49, [], 446, 445, 0, 61, 1)
def tb_c50 : List (Nat × am_I × Nat) := [(0, .aload_n 0, 1), (1, .iconst 1, 1), (2, .putfield 25, 3), (5, .iconst 0, 1), (6, .istore_n 1, 1), (7, .iload_n 1, 1), (8, .bipush 6, 2), (10, .if_icmp .ge (40), 3), (13, .aload_n 0, 1), (14, .getfield 15, 3), (17, .iload_n 1, 1), (18, .aload_n 0, 1), (19, .iload_n 1, 1), (20, .invokevirtual 48, 3), (23, .ifCond .ne (19), 3), (26, .aload_n 0, 1), (27, .getfield 9, 3), (30, .iload_n 1, 1), (31, .iaload, 1), (32, .invokestatic 101, 3), (35, .ifCond .ne (7), 3), (38, .iconst 1, 1), (39, .goto (4), 3), (42, .iconst 0, 1), (43, .bastore, 1), (44, .iinc 1 (1), 3), (47, .goto (-40), 3), (50, .aload_n 0, 1), (51, .getfield 15, 3), (54, .bipush 6, 2), (56, .iconst 1, 1), (57, .bastore, 1), (58, .return_, 1)]
def tb_l50 : List tb_K := [(25, 0, 4, 3, 0, 0, 94), (15, 0, 4, 1, 0, 1, 92), (48, 2, 35, 1, 0, 4, 385), (9, 0, 4, 0, 0, 1, 91), (101, 2, 16, 1, 1, 0, 453)]
def tb_m50 : tb_T := (⟨"CountedActors$Draft", "enterBlock", "()V"⟩, prog_5_method_12_code, 2, none, 2, 41, tb_c50, tb_l50, [], 452, 451, 7, 51, 0)
def tb_c51 : List (Nat × am_I × Nat) := [(0, .aload_n 0, 1), (1, .iload_n 2, 1), (2, .invokevirtual 85, 3), (5, .invokestatic 104, 3), (8, .istore_n 3, 1), (9, .iconst 0, 1), (10, .istore 4, 2), (12, .iload 4, 2), (14, .bipush 6, 2), (16, .if_icmp .ge (26), 3), (19, .aload_n 0, 1), (20, .getfield 19, 3), (23, .iload 4, 2), (25, .baload, 1), (26, .ifCond .eq (10), 3), (29, .aload_n 0, 1), (30, .iload 4, 2), (32, .invokevirtual 85, 3), (35, .pop, 1), (36, .iinc 4 (1), 3), (39, .goto (-27), 3), (42, .aload_n 0, 1), (43, .invokevirtual 22, 3), (46, .aload_n 0, 1), (47, .iload_n 1, 1), (48, .iload_n 3, 1), (49, .invokevirtual 81, 3), (52, .return_, 1)]
def tb_l51 : List tb_K := [(85, 2, 47, 1, 0, 4, 435), (104, 2, 52, 1, 1, 0, 458), (19, 0, 4, 2, 0, 1, 93), (22, 2, 20, 0, 0, 4, 327), (81, 2, 46, 2, 0, 4, 431)]
def tb_m51 : tb_T := (⟨"CountedActors$Draft", "shut", "(II)V"⟩, prog_5_method_13_code, 5, none, 1, 22, tb_c51, tb_l51, [], 457, 456, 8, 51, 0)
def tb_c52 : List (Nat × am_I × Nat) := [(0, .getstatic 25, 3), (3, .iload_n 0, 1), (4, .iaload, 1), (5, .ireturn, 1)]
def tb_l52 : List tb_K := [(25, 1, 5, 0, 0, 0, 461)]
def tb_m52 : tb_T := (⟨"CountedActors$Capability", "outOfBlock", "(I)I"⟩, prog_3_method_10_code, 1, (some (.int)), 0, 0, tb_c52, tb_l52, [], 460, 459, 0, 61, 1)
def tb_c53 : List (Nat × am_I × Nat) := [(0, .aload_n 0, 1), (1, .dup, 1), (2, .getfield 22, 3), (5, .iconst 1, 1), (6, .iadd, 1), (7, .putfield 22, 3), (10, .return_, 1)]
def tb_l53 : List tb_K := [(22, 0, 2, 2, 0, 0, 149)]
def tb_m53 : tb_T := (⟨"CountedActors$Behaviour", "keepNext", "()V"⟩, prog_2_method_7_code, 1, none, 0, 0, tb_c53, tb_l53, [], 466, 464, 466, 52, 0)
def tb_c54 : List (Nat × am_I × Nat) := [(0, .aload_n 0, 1), (1, .getfield 25, 3), (4, .invokevirtual 76, 3), (7, .ireturn, 1)]
def tb_l54 : List tb_K := [(25, 0, 0, 1, 0, 1, 278), (76, 2, 55, 0, 0, 8, 471)]
def tb_m54 : tb_T := (⟨"CountedActors", "end", "()Z"⟩, prog_1_method_4_code, 1, (some (.boolean)), 2, 40, tb_c54, tb_l54, [], 470, 468, 470, 48, 0)
def tb_c55 : List (Nat × am_I × Nat) := [(0, .aload_n 0, 1), (1, .getfield 25, 3), (4, .ifCond .eq (13), 3), (7, .aload_n 0, 1), (8, .getfield 20, 3), (11, .invokevirtual 97, 3), (14, .ifCond .eq (5), 3), (17, .iconst 0, 1), (18, .ireturn, 1), (19, .aload_n 0, 1), (20, .iconst 0, 1), (21, .putfield 25, 3), (24, .iconst 1, 1), (25, .ireturn, 1)]
def tb_l55 : List tb_K := [(25, 0, 8, 3, 0, 0, 160), (20, 0, 8, 1, 0, 1, 158), (97, 2, 56, 0, 0, 4, 475)]
def tb_m55 : tb_T := (⟨"CountedActors$Program", "finish", "()Z"⟩, prog_9_method_5_code, 1, (some (.boolean)), 1, 20, tb_c55, tb_l55, [], 474, 472, 474, 50, 0)
def tb_c56 : List (Nat × am_I × Nat) := [(0, .aload_n 0, 1), (1, .getfield 25, 3), (4, .ireturn, 1)]
def tb_l56 : List tb_K := [(25, 0, 4, 3, 0, 0, 94)]
def tb_m56 : tb_T := (⟨"CountedActors$Draft", "isInBlock", "()Z"⟩, prog_5_method_3_code, 1, (some (.boolean)), 0, 0, tb_c56, tb_l56, [], 478, 476, 478, 51, 0)
def tb_c57 : List (Nat × am_I × Nat) := [(0, .aload_n 0, 1), (1, .getfield 25, 3), (4, .invokevirtual 80, 3), (7, .ireturn, 1)]
def tb_l57 : List tb_K := [(25, 0, 0, 1, 0, 1, 278), (80, 2, 58, 0, 0, 8, 483)]
def tb_m57 : tb_T := (⟨"CountedActors", "drop", "()Z"⟩, prog_1_method_5_code, 1, (some (.boolean)), 1, 20, tb_c57, tb_l57, [], 482, 480, 482, 48, 0)
def tb_c58 : List (Nat × am_I × Nat) := [(0, .aload_n 0, 1), (1, .getfield 25, 3), (4, .ifCond .ne (5), 3), (7, .iconst 0, 1), (8, .ireturn, 1), (9, .aload_n 0, 1), (10, .iconst 0, 1), (11, .putfield 25, 3), (14, .aload_n 0, 1), (15, .dup, 1), (16, .getfield 29, 3), (19, .iconst 1, 1), (20, .isub, 1), (21, .putfield 29, 3), (24, .iconst 1, 1), (25, .ireturn, 1)]
def tb_l58 : List tb_K := [(25, 0, 8, 3, 0, 0, 160), (29, 0, 8, 2, 0, 0, 159)]
def tb_m58 : tb_T := (⟨"CountedActors$Program", "giveUp", "()Z"⟩, prog_9_method_6_code, 1, (some (.boolean)), 0, 0, tb_c58, tb_l58, [], 486, 484, 486, 50, 0)
def tb_c59 : List (Nat × am_I × Nat) := [(0, .aload_n 0, 1), (1, .getfield 25, 3), (4, .iload_n 1, 1), (5, .invokevirtual 83, 3), (8, .ireturn, 1)]
def tb_l59 : List tb_K := [(25, 0, 0, 1, 0, 1, 278), (83, 2, 60, 1, 0, 8, 491)]
def tb_m59 : tb_T := (⟨"CountedActors", "holds", "(I)I"⟩, prog_1_method_6_code, 2, (some (.int)), 2, 42, tb_c59, tb_l59, [], 490, 488, 490, 48, 0)
def tb_c60 : List (Nat × am_I × Nat) := [(0, .aload_n 0, 1), (1, .getfield 25, 3), (4, .ifCond .eq (10), 3), (7, .iload_n 1, 1), (8, .invokestatic 100, 3), (11, .ifCond .ne (5), 3), (14, .iconst (-1), 1), (15, .ireturn, 1), (16, .aload_n 0, 1), (17, .getfield 20, 3), (20, .iload_n 1, 1), (21, .invokevirtual 103, 3), (24, .ifCond .eq (8), 3), (27, .bipush (-2), 2), (29, .goto (11), 3), (32, .aload_n 0, 1), (33, .getfield 20, 3), (36, .iload_n 1, 1), (37, .invokevirtual 81, 3), (40, .ireturn, 1)]
def tb_l60 : List tb_K := [(25, 0, 8, 3, 0, 0, 160), (100, 2, 29, 1, 1, 9, 495), (20, 0, 8, 1, 0, 1, 158), (103, 2, 61, 1, 0, 4, 496), (81, 2, 42, 1, 0, 4, 414)]
def tb_m60 : tb_T := (⟨"CountedActors$Program", "capabilityShown", "(I)I"⟩, prog_9_method_7_code, 2, (some (.int)), 1, 21, tb_c60, tb_l60, [], 494, 492, 494, 50, 0)
def tb_c61 : List (Nat × am_I × Nat) := [(0, .aload_n 0, 1), (1, .getfield 15, 3), (4, .iload_n 1, 1), (5, .baload, 1), (6, .ireturn, 1)]
def tb_l61 : List tb_K := [(15, 0, 4, 1, 0, 1, 92)]
def tb_m61 : tb_T := (⟨"CountedActors$Draft", "isHidden", "(I)Z"⟩, prog_5_method_4_code, 2, (some (.boolean)), 0, 0, tb_c61, tb_l61, [], 499, 497, 499, 51, 0)
def tb_c62 : List (Nat × am_I × Nat) := [(0, .aload_n 0, 1), (1, .iload_n 1, 1), (2, .invokevirtual 86, 3), (5, .ifCond .eq (25), 3), (8, .aload_n 0, 1), (9, .getfield 25, 3), (12, .iload_n 2, 1), (13, .invokevirtual 90, 3), (16, .ifCond .eq (14), 3), (19, .aload_n 0, 1), (20, .getfield 39, 3), (23, .invokevirtual 93, 3), (26, .iconst 1, 1), (27, .if_icmp .ge (5), 3), (30, .iconst 0, 1), (31, .ireturn, 1), (32, .aload_n 0, 1), (33, .getfield 39, 3), (36, .iconst 0, 1), (37, .iload_n 1, 1), (38, .iconst (-1), 1), (39, .iload_n 2, 1), (40, .invokevirtual 97, 3), (43, .iconst 1, 1), (44, .ireturn, 1)]
def tb_l62 : List tb_K := [(86, 2, 63, 1, 0, 0, 504), (25, 0, 0, 1, 0, 1, 278), (90, 2, 64, 1, 0, 8, 508), (39, 0, 0, 3, 0, 1, 280), (93, 2, 65, 0, 0, 7, 512), (97, 2, 66, 4, 0, 7, 516)]
def tb_m62 : tb_T := (⟨"CountedActors", "post", "(II)Z"⟩, prog_1_method_7_code, 3, (some (.boolean)), 1, 24, tb_c62, tb_l62, [], 503, 501, 503, 48, 0)
def tb_c63 : List (Nat × am_I × Nat) := [(0, .iload_n 1, 1), (1, .ifCond .lt (15), 3), (4, .iload_n 1, 1), (5, .aload_n 0, 1), (6, .getfield 18, 3), (9, .if_icmp .ge (7), 3), (12, .iconst 1, 1), (13, .goto (4), 3), (16, .iconst 0, 1), (17, .ireturn, 1)]
def tb_l63 : List tb_K := [(18, 0, 0, 0, 0, 1, 277)]
def tb_m63 : tb_T := (⟨"CountedActors", "isActor", "(I)Z"⟩, prog_1_method_20_code, 2, (some (.boolean)), 0, 0, tb_c63, tb_l63, [], 507, 506, 9, 48, 0)
def tb_c64 : List (Nat × am_I × Nat) := [(0, .iload_n 1, 1), (1, .ifCond .lt (31), 3), (4, .iload_n 1, 1), (5, .aload_n 0, 1), (6, .getfield 25, 3), (9, .ifCond .eq (12), 3), (12, .aload_n 0, 1), (13, .getfield 29, 3), (16, .iconst 1, 1), (17, .isub, 1), (18, .goto (7), 3), (21, .aload_n 0, 1), (22, .getfield 29, 3), (25, .if_icmp .ge (7), 3), (28, .iconst 1, 1), (29, .goto (4), 3), (32, .iconst 0, 1), (33, .ireturn, 1)]
def tb_l64 : List tb_K := [(25, 0, 8, 3, 0, 0, 160), (29, 0, 8, 2, 0, 0, 159)]
def tb_m64 : tb_T := (⟨"CountedActors$Program", "isFinished", "(I)Z"⟩, prog_9_method_8_code, 2, (some (.boolean)), 0, 0, tb_c64, tb_l64, [], 511, 509, 511, 50, 0)
def tb_c65 : List (Nat × am_I × Nat) := [(0, .bipush 20, 2), (2, .aload_n 0, 1), (3, .getfield 24, 3), (6, .isub, 1), (7, .ireturn, 1)]
def tb_l65 : List tb_K := [(24, 0, 7, 4, 0, 0, 202)]
def tb_m65 : tb_T := (⟨"CountedActors$Mail", "room", "()I"⟩, prog_8_method_3_code, 1, (some (.int)), 0, 0, tb_c65, tb_l65, [], 515, 513, 515, 56, 0)
def tb_c66 : List (Nat × am_I × Nat) := [(0, .aload_n 0, 1), (1, .getfield 9, 3), (4, .aload_n 0, 1), (5, .getfield 24, 3), (8, .iload_n 1, 1), (9, .iastore, 1), (10, .aload_n 0, 1), (11, .getfield 15, 3), (14, .aload_n 0, 1), (15, .getfield 24, 3), (18, .iload_n 2, 1), (19, .iastore, 1), (20, .aload_n 0, 1), (21, .getfield 18, 3), (24, .aload_n 0, 1), (25, .getfield 24, 3), (28, .iload_n 3, 1), (29, .iastore, 1), (30, .aload_n 0, 1), (31, .getfield 21, 3), (34, .aload_n 0, 1), (35, .getfield 24, 3), (38, .iload 4, 2), (40, .iastore, 1), (41, .aload_n 0, 1), (42, .dup, 1), (43, .getfield 24, 3), (46, .iconst 1, 1), (47, .iadd, 1), (48, .putfield 24, 3), (51, .return_, 1)]
def tb_l66 : List tb_K := [(9, 0, 7, 0, 0, 1, 198), (24, 0, 7, 4, 0, 0, 202), (15, 0, 7, 1, 0, 1, 199), (18, 0, 7, 2, 0, 1, 200), (21, 0, 7, 3, 0, 1, 201)]
def tb_m66 : tb_T := (⟨"CountedActors$Mail", "put", "(IIII)V"⟩, prog_8_method_5_code, 5, none, 0, 0, tb_c66, tb_l66, [], 519, 517, 519, 56, 0)
def tb_c67 : List (Nat × am_I × Nat) := [(0, .aload_n 0, 1), (1, .iload_n 1, 1), (2, .invokevirtual 86, 3), (5, .ifCond .eq (14), 3), (8, .aload_n 0, 1), (9, .getfield 64, 3), (12, .iload_n 1, 1), (13, .invokevirtual 101, 3), (16, .goto (4), 3), (19, .iconst (-1), 1), (20, .ireturn, 1)]
def tb_l67 : List tb_K := [(86, 2, 63, 1, 0, 0, 504), (64, 0, 0, 6, 0, 1, 283), (101, 2, 68, 1, 0, 6, 524)]
def tb_m67 : tb_T := (⟨"CountedActors", "step", "(I)I"⟩, prog_1_method_8_code, 2, (some (.int)), 7, 161, tb_c67, tb_l67, [], 523, 521, 523, 48, 0)
def tb_c68 : List (Nat × am_I × Nat) := [(0, .aload_n 0, 1), (1, .getfield 27, 3), (4, .iload_n 1, 1), (5, .invokevirtual 42, 3), (8, .istore_n 2, 1), (9, .iload_n 2, 1), (10, .iconst (-1), 1), (11, .if_icmp .ne (5), 3), (14, .iconst (-1), 1), (15, .ireturn, 1), (16, .aload_n 0, 1), (17, .getfield 27, 3), (20, .iload_n 2, 1), (21, .invokevirtual 48, 3), (24, .istore_n 3, 1), (25, .aload_n 0, 1), (26, .getfield 27, 3), (29, .iload_n 2, 1), (30, .invokevirtual 51, 3), (33, .istore 4, 2), (35, .aload_n 0, 1), (36, .getfield 27, 3), (39, .iload_n 2, 1), (40, .invokevirtual 54, 3), (43, .istore 5, 2), (45, .aload_n 0, 1), (46, .getfield 27, 3), (49, .iload_n 2, 1), (50, .invokevirtual 57, 3), (53, .iload_n 3, 1), (54, .ifCond .ne (31), 3), (57, .aload_n 0, 1), (58, .iload_n 1, 1), (59, .iload 4, 2), (61, .iload 5, 2), (63, .invokevirtual 61, 3), (66, .aload_n 0, 1), (67, .iload_n 1, 1), (68, .iload 4, 2), (70, .aload_n 0, 1), (71, .getfield 19, 3), (74, .iload 5, 2), (76, .invokevirtual 65, 3), (79, .invokevirtual 71, 3), (82, .goto (26), 3), (85, .aload_n 0, 1), (86, .getfield 23, 3), (89, .iload_n 1, 1), (90, .iload 4, 2), (92, .iload_n 3, 1), (93, .iconst 1, 1), (94, .if_icmp .ne (8), 3), (97, .iload 5, 2), (99, .goto (6), 3), (102, .iload 5, 2), (104, .ineg, 1), (105, .invokevirtual 75, 3), (108, .iload_n 3, 1), (109, .ireturn, 1)]
def tb_l68 : List tb_K := [(27, 0, 6, 3, 0, 1, 255), (42, 2, 69, 1, 0, 7, 528), (48, 2, 70, 1, 0, 7, 532), (51, 2, 71, 1, 0, 7, 536), (54, 2, 72, 1, 0, 7, 540), (57, 2, 73, 1, 0, 7, 544), (61, 2, 74, 3, 0, 6, 551), (19, 0, 6, 1, 0, 1, 253), (65, 2, 83, 1, 0, 8, 589), (71, 2, 84, 3, 0, 6, 593), (23, 0, 6, 2, 0, 1, 254), (75, 2, 82, 3, 0, 5, 585)]
def tb_m68 : tb_T := (⟨"CountedActors$Machine", "takeMessage", "(I)I"⟩, prog_7_method_3_code, 6, (some (.int)), 6, 136, tb_c68, tb_l68, [], 527, 525, 527, 59, 0)
def tb_c69 : List (Nat × am_I × Nat) := [(0, .iconst 0, 1), (1, .istore_n 2, 1), (2, .iload_n 2, 1), (3, .aload_n 0, 1), (4, .getfield 24, 3), (7, .if_icmp .ge (21), 3), (10, .aload_n 0, 1), (11, .getfield 15, 3), (14, .iload_n 2, 1), (15, .iaload, 1), (16, .iload_n 1, 1), (17, .if_icmp .ne (5), 3), (20, .iload_n 2, 1), (21, .ireturn, 1), (22, .iinc 2 (1), 3), (25, .goto (-23), 3), (28, .iconst (-1), 1), (29, .ireturn, 1)]
def tb_l69 : List tb_K := [(24, 0, 7, 4, 0, 0, 202), (15, 0, 7, 1, 0, 1, 199)]
def tb_m69 : tb_T := (⟨"CountedActors$Mail", "frontOf", "(I)I"⟩, prog_8_method_6_code, 3, (some (.int)), 0, 0, tb_c69, tb_l69, [], 531, 529, 531, 56, 0)
def tb_c70 : List (Nat × am_I × Nat) := [(0, .aload_n 0, 1), (1, .getfield 9, 3), (4, .iload_n 1, 1), (5, .iaload, 1), (6, .ireturn, 1)]
def tb_l70 : List tb_K := [(9, 0, 7, 0, 0, 1, 198)]
def tb_m70 : tb_T := (⟨"CountedActors$Mail", "kindAt", "(I)I"⟩, prog_8_method_8_code, 2, (some (.int)), 0, 0, tb_c70, tb_l70, [], 535, 533, 535, 56, 0)
def tb_c71 : List (Nat × am_I × Nat) := [(0, .aload_n 0, 1), (1, .getfield 18, 3), (4, .iload_n 1, 1), (5, .iaload, 1), (6, .ireturn, 1)]
def tb_l71 : List tb_K := [(18, 0, 7, 2, 0, 1, 200)]
def tb_m71 : tb_T := (⟨"CountedActors$Mail", "objectAt", "(I)I"⟩, prog_8_method_9_code, 2, (some (.int)), 0, 0, tb_c71, tb_l71, [], 539, 537, 539, 56, 0)
def tb_c72 : List (Nat × am_I × Nat) := [(0, .aload_n 0, 1), (1, .getfield 21, 3), (4, .iload_n 1, 1), (5, .iaload, 1), (6, .ireturn, 1)]
def tb_l72 : List tb_K := [(21, 0, 7, 3, 0, 1, 201)]
def tb_m72 : tb_T := (⟨"CountedActors$Mail", "numberAt", "(I)I"⟩, prog_8_method_10_code, 2, (some (.int)), 0, 0, tb_c72, tb_l72, [], 543, 541, 543, 56, 0)
def tb_c73 : List (Nat × am_I × Nat) := [(0, .aload_n 0, 1), (1, .dup, 1), (2, .getfield 24, 3), (5, .iconst 1, 1), (6, .isub, 1), (7, .putfield 24, 3), (10, .aload_n 0, 1), (11, .getfield 9, 3), (14, .iload_n 1, 1), (15, .iconst 1, 1), (16, .iadd, 1), (17, .aload_n 0, 1), (18, .getfield 9, 3), (21, .iload_n 1, 1), (22, .aload_n 0, 1), (23, .getfield 24, 3), (26, .iload_n 1, 1), (27, .isub, 1), (28, .invokestatic 28, 3), (31, .aload_n 0, 1), (32, .getfield 15, 3), (35, .iload_n 1, 1), (36, .iconst 1, 1), (37, .iadd, 1), (38, .aload_n 0, 1), (39, .getfield 15, 3), (42, .iload_n 1, 1), (43, .aload_n 0, 1), (44, .getfield 24, 3), (47, .iload_n 1, 1), (48, .isub, 1), (49, .invokestatic 28, 3), (52, .aload_n 0, 1), (53, .getfield 18, 3), (56, .iload_n 1, 1), (57, .iconst 1, 1), (58, .iadd, 1), (59, .aload_n 0, 1), (60, .getfield 18, 3), (63, .iload_n 1, 1), (64, .aload_n 0, 1), (65, .getfield 24, 3), (68, .iload_n 1, 1), (69, .isub, 1), (70, .invokestatic 28, 3), (73, .aload_n 0, 1), (74, .getfield 21, 3), (77, .iload_n 1, 1), (78, .iconst 1, 1), (79, .iadd, 1), (80, .aload_n 0, 1), (81, .getfield 21, 3), (84, .iload_n 1, 1), (85, .aload_n 0, 1), (86, .getfield 24, 3), (89, .iload_n 1, 1), (90, .isub, 1), (91, .invokestatic 28, 3), (94, .return_, 1)]
def tb_l73 : List tb_K := [(24, 0, 7, 4, 0, 0, 202), (9, 0, 7, 0, 0, 1, 198), (28, 4, 0, 0, 0, 0, 548), (15, 0, 7, 1, 0, 1, 199), (18, 0, 7, 2, 0, 1, 200), (21, 0, 7, 3, 0, 1, 201)]
def tb_m73 : tb_T := (⟨"CountedActors$Mail", "removeAt", "(I)V"⟩, prog_8_method_11_code, 2, none, 1, 60, tb_c73, tb_l73, [], 547, 545, 547, 56, 0)
def tb_c74 : List (Nat × am_I × Nat) := [(0, .aload_n 0, 1), (1, .getfield 31, 3), (4, .iload_n 2, 1), (5, .aload_n 0, 1), (6, .getfield 19, 3), (9, .iload_n 3, 1), (10, .invokevirtual 80, 3), (13, .invokevirtual 83, 3), (16, .aload_n 0, 1), (17, .getfield 31, 3), (20, .invokevirtual 89, 3), (23, .iconst 0, 1), (24, .istore 4, 2), (26, .iload 4, 2), (28, .bipush 16, 2), (30, .if_icmp .ge (49), 3), (33, .aload_n 0, 1), (34, .getfield 31, 3), (37, .iload 4, 2), (39, .invokevirtual 92, 3), (42, .ifCond .eq (31), 3), (45, .aload_n 0, 1), (46, .getfield 23, 3), (49, .iload_n 1, 1), (50, .iload 4, 2), (52, .aload_n 0, 1), (53, .getfield 23, 3), (56, .iload 4, 2), (58, .invokevirtual 96, 3), (61, .iload_n 1, 1), (62, .if_icmp .ne (7), 3), (65, .iconst (-1), 1), (66, .goto (4), 3), (69, .iconst 1, 1), (70, .invokevirtual 75, 3), (73, .iinc 4 (1), 3), (76, .goto (-50), 3), (79, .return_, 1)]
def tb_l74 : List tb_K := [(31, 0, 6, 4, 0, 1, 256), (19, 0, 6, 1, 0, 1, 253), (80, 2, 43, 1, 0, 8, 555), (83, 2, 75, 2, 0, 10, 556), (89, 2, 78, 0, 0, 10, 569), (92, 2, 80, 1, 0, 10, 577), (23, 0, 6, 2, 0, 1, 254), (96, 2, 81, 1, 0, 5, 581), (75, 2, 82, 3, 0, 5, 585)]
def tb_m74 : tb_T := (⟨"CountedActors$Machine", "countTaken", "(III)V"⟩, prog_7_method_4_code, 5, none, 3, 65, tb_c74, tb_l74, [], 554, 553, 10, 59, 0)
def tb_c75 : List (Nat × am_I × Nat) := [(0, .aload_n 0, 1), (1, .invokevirtual 32, 3), (4, .aload_n 0, 1), (5, .iload_n 1, 1), (6, .iload_n 2, 1), (7, .invokevirtual 35, 3), (10, .return_, 1)]
def tb_l75 : List tb_K := [(32, 2, 76, 0, 0, 10, 560), (35, 2, 77, 2, 0, 10, 565)]
def tb_m75 : tb_T := (⟨"CountedActors$Walk", "startFrom", "(II)V"⟩, prog_11_method_3_code, 3, none, 2, 43, tb_c75, tb_l75, [], 559, 557, 559, 57, 0)
def tb_c76 : List (Nat × am_I × Nat) := [(0, .aload_n 0, 1), (1, .getfield 9, 3), (4, .iconst 0, 1), (5, .invokestatic 22, 3), (8, .aload_n 0, 1), (9, .iconst 0, 1), (10, .putfield 28, 3), (13, .return_, 1)]
def tb_l76 : List tb_K := [(9, 0, 10, 1, 0, 1, 221), (22, 2, 7, 2, 1, 0, 564), (28, 0, 10, 3, 0, 0, 223)]
def tb_m76 : tb_T := (⟨"CountedActors$Walk", "start", "()V"⟩, prog_11_method_2_code, 1, none, 1, 23, tb_c76, tb_l76, [], 563, 561, 563, 57, 0)
def tb_c77 : List (Nat × am_I × Nat) := [(0, .iconst 1, 1), (1, .iload_n 2, 1), (2, .ishl, 1), (3, .istore_n 3, 1), (4, .iload_n 1, 1), (5, .iconst (-1), 1), (6, .if_icmp .eq (14), 3), (9, .aload_n 0, 1), (10, .getfield 9, 3), (13, .iload_n 1, 1), (14, .iaload, 1), (15, .iload_n 3, 1), (16, .iand, 1), (17, .ifCond .eq (4), 3), (20, .return_, 1), (21, .aload_n 0, 1), (22, .getfield 9, 3), (25, .iload_n 1, 1), (26, .dup2, 1), (27, .iaload, 1), (28, .iload_n 3, 1), (29, .ior, 1), (30, .iastore, 1), (31, .iload_n 2, 1), (32, .iconst 5, 1), (33, .if_icmp .eq (28), 3), (36, .aload_n 0, 1), (37, .getfield 15, 3), (40, .aload_n 0, 1), (41, .getfield 28, 3), (44, .iload_n 1, 1), (45, .bipush 6, 2), (47, .imul, 1), (48, .iload_n 2, 1), (49, .iadd, 1), (50, .iastore, 1), (51, .aload_n 0, 1), (52, .dup, 1), (53, .getfield 28, 3), (56, .iconst 1, 1), (57, .iadd, 1), (58, .putfield 28, 3), (61, .return_, 1)]
def tb_l77 : List tb_K := [(9, 0, 10, 1, 0, 1, 221), (15, 0, 10, 2, 0, 1, 222), (28, 0, 10, 3, 0, 0, 223)]
def tb_m77 : tb_T := (⟨"CountedActors$Walk", "meet", "(II)V"⟩, prog_11_method_4_code, 4, none, 0, 0, tb_c77, tb_l77, [], 568, 566, 568, 57, 0)
def tb_c78 : List (Nat × am_I × Nat) := [(0, .iconst 0, 1), (1, .istore_n 1, 1), (2, .iload_n 1, 1), (3, .aload_n 0, 1), (4, .getfield 28, 3), (7, .if_icmp .ge (56), 3), (10, .iload_n 1, 1), (11, .aload_n 0, 1), (12, .getfield 15, 3), (15, .arraylength, 1), (16, .if_icmp .ge (47), 3), (19, .aload_n 0, 1), (20, .getfield 15, 3), (23, .iload_n 1, 1), (24, .iaload, 1), (25, .bipush 6, 2), (27, .idiv, 1), (28, .istore_n 2, 1), (29, .iconst 0, 1), (30, .istore_n 3, 1), (31, .iload_n 3, 1), (32, .bipush 6, 2), (34, .if_icmp .ge (23), 3), (37, .aload_n 0, 1), (38, .aload_n 0, 1), (39, .getfield 18, 3), (42, .iload_n 2, 1), (43, .iload_n 3, 1), (44, .invokevirtual 39, 3), (47, .iload_n 3, 1), (48, .invokevirtual 35, 3), (51, .iinc 3 (1), 3), (54, .goto (-23), 3), (57, .iinc 1 (1), 3), (60, .goto (-58), 3), (63, .return_, 1)]
def tb_l78 : List tb_K := [(28, 0, 10, 3, 0, 0, 223), (15, 0, 10, 2, 0, 1, 222), (18, 0, 10, 0, 0, 1, 220), (39, 2, 79, 2, 0, 5, 573), (35, 2, 77, 2, 0, 10, 565)]
def tb_m78 : tb_T := (⟨"CountedActors$Walk", "followClosure", "()V"⟩, prog_11_method_5_code, 4, none, 1, 23, tb_c78, tb_l78, [], 572, 570, 572, 57, 0)
def tb_c79 : List (Nat × am_I × Nat) := [(0, .aload_n 0, 1), (1, .getfield 18, 3), (4, .iload_n 1, 1), (5, .bipush 6, 2), (7, .imul, 1), (8, .iload_n 2, 1), (9, .iadd, 1), (10, .iaload, 1), (11, .ireturn, 1)]
def tb_l79 : List tb_K := [(18, 0, 5, 2, 0, 1, 181)]
def tb_m79 : tb_T := (⟨"CountedActors$Heap", "heldBy", "(II)I"⟩, prog_6_method_7_code, 3, (some (.int)), 0, 0, tb_c79, tb_l79, [], 576, 574, 576, 54, 0)
def tb_c80 : List (Nat × am_I × Nat) := [(0, .aload_n 0, 1), (1, .getfield 9, 3), (4, .iload_n 1, 1), (5, .iaload, 1), (6, .ifCond .eq (7), 3), (9, .iconst 1, 1), (10, .goto (4), 3), (13, .iconst 0, 1), (14, .ireturn, 1)]
def tb_l80 : List tb_K := [(9, 0, 10, 1, 0, 1, 221)]
def tb_m80 : tb_T := (⟨"CountedActors$Walk", "hasMet", "(I)Z"⟩, prog_11_method_7_code, 2, (some (.boolean)), 0, 0, tb_c80, tb_l80, [], 580, 578, 580, 57, 0)
def tb_c81 : List (Nat × am_I × Nat) := [(0, .aload_n 0, 1), (1, .getfield 9, 3), (4, .iload_n 1, 1), (5, .iaload, 1), (6, .ireturn, 1)]
def tb_l81 : List tb_K := [(9, 0, 5, 0, 0, 1, 179)]
def tb_m81 : tb_T := (⟨"CountedActors$Heap", "ownerOf", "(I)I"⟩, prog_6_method_4_code, 2, (some (.int)), 0, 0, tb_c81, tb_l81, [], 584, 582, 584, 54, 0)
def tb_c82 : List (Nat × am_I × Nat) := [(0, .aload_n 0, 1), (1, .getfield 21, 3), (4, .iload_n 1, 1), (5, .bipush 16, 2), (7, .imul, 1), (8, .iload_n 2, 1), (9, .iadd, 1), (10, .dup2, 1), (11, .iaload, 1), (12, .iload_n 3, 1), (13, .iadd, 1), (14, .iastore, 1), (15, .return_, 1)]
def tb_l82 : List tb_K := [(21, 0, 5, 3, 0, 1, 182)]
def tb_m82 : tb_T := (⟨"CountedActors$Heap", "growCount", "(III)V"⟩, prog_6_method_10_code, 4, none, 0, 0, tb_c82, tb_l82, [], 588, 586, 588, 54, 0)
def tb_c83 : List (Nat × am_I × Nat) := [(0, .aload_n 0, 1), (1, .getfield 11, 3), (4, .iload_n 1, 1), (5, .aaload, 1), (6, .areturn, 1)]
def tb_l83 : List tb_K := [(11, 0, 8, 0, 0, 1, 157)]
def tb_m83 : tb_T := (⟨"CountedActors$Program", "behaviour", "(I)LCountedActors$Behaviour;"⟩, prog_9_method_9_code, 2, (some (.object "CountedActors$Behaviour")), 0, 0, tb_c83, tb_l83, [], 592, 590, 592, 50, 0)
def tb_c84 : List (Nat × am_I × Nat) := [(0, .aload_n 0, 1), (1, .getfield 9, 3), (4, .iconst (-1), 1), (5, .invokestatic 99, 3), (8, .aload_n 0, 1), (9, .getfield 9, 3), (12, .iconst 0, 1), (13, .iload_n 2, 1), (14, .iastore, 1), (15, .iconst 0, 1), (16, .istore 4, 2), (18, .iload 4, 2), (20, .aload_n 3, 1), (21, .invokevirtual 105, 3), (24, .if_icmp .ge (20), 3), (27, .aload_n 0, 1), (28, .iload_n 1, 1), (29, .aload_n 3, 1), (30, .iload 4, 2), (32, .invokevirtual 111, 3), (35, .invokevirtual 115, 3), (38, .iinc 4 (1), 3), (41, .goto (-23), 3), (44, .return_, 1)]
def tb_l84 : List tb_K := [(9, 0, 6, 6, 0, 1, 258), (99, 2, 7, 2, 1, 0, 597), (105, 2, 24, 0, 0, 2, 598), (111, 2, 25, 1, 0, 2, 599), (115, 2, 85, 2, 0, 6, 600)]
def tb_m84 : tb_T := (⟨"CountedActors$Machine", "run", "(IILCountedActors$Behaviour;)V"⟩, prog_7_method_5_code, 5, none, 5, 112, tb_c84, tb_l84, [], 596, 595, 11, 59, 0)
def tb_c85 : List (Nat × am_I × Nat) := [(0, .aload_n 2, 1), (1, .getfield 119, 3), (4, .tableswitch 263 0 10 #[60, 77, 77, 98, 127, 157, 195, 215, 231, 263, 77], 60), (64, .aload_n 0, 1), (65, .getfield 9, 3), (68, .aload_n 2, 1), (69, .getfield 124, 3), (72, .aload_n 0, 1), (73, .iload_n 1, 1), (74, .invokevirtual 127, 3), (77, .iastore, 1), (78, .goto (189), 3), (81, .aload_n 0, 1), (82, .getfield 9, 3), (85, .aload_n 2, 1), (86, .getfield 124, 3), (89, .aload_n 0, 1), (90, .getfield 9, 3), (93, .aload_n 2, 1), (94, .getfield 130, 3), (97, .iaload, 1), (98, .iastore, 1), (99, .goto (168), 3), (102, .aload_n 0, 1), (103, .getfield 9, 3), (106, .aload_n 2, 1), (107, .getfield 124, 3), (110, .aload_n 0, 1), (111, .aload_n 0, 1), (112, .iload_n 1, 1), (113, .aload_n 2, 1), (114, .getfield 130, 3), (117, .invokevirtual 133, 3), (120, .aload_n 2, 1), (121, .getfield 137, 3), (124, .invokevirtual 140, 3), (127, .iastore, 1), (128, .goto (139), 3), (131, .aload_n 0, 1), (132, .aload_n 0, 1), (133, .iload_n 1, 1), (134, .aload_n 2, 1), (135, .getfield 130, 3), (138, .invokevirtual 133, 3), (141, .aload_n 2, 1), (142, .getfield 137, 3), (145, .aload_n 0, 1), (146, .getfield 9, 3), (149, .aload_n 2, 1), (150, .getfield 143, 3), (153, .iaload, 1), (154, .invokevirtual 146, 3), (157, .pop, 1), (158, .goto (109), 3), (161, .aload_n 0, 1), (162, .getfield 9, 3), (165, .aload_n 2, 1), (166, .getfield 124, 3), (169, .aload_n 0, 1), (170, .aload_n 0, 1), (171, .iload_n 1, 1), (172, .aload_n 2, 1), (173, .getfield 130, 3), (176, .invokevirtual 133, 3), (179, .aload_n 2, 1), (180, .getfield 137, 3), (183, .aload_n 0, 1), (184, .getfield 9, 3), (187, .aload_n 2, 1), (188, .getfield 143, 3), (191, .iaload, 1), (192, .invokevirtual 146, 3), (195, .iastore, 1), (196, .goto (71), 3), (199, .aload_n 0, 1), (200, .aload_n 0, 1), (201, .getfield 9, 3), (204, .aload_n 2, 1), (205, .getfield 130, 3), (208, .iaload, 1), (209, .aload_n 2, 1), (210, .getfield 143, 3), (213, .invokevirtual 150, 3), (216, .goto (51), 3), (219, .aload_n 0, 1), (220, .aload_n 0, 1), (221, .getfield 9, 3), (224, .aload_n 2, 1), (225, .getfield 130, 3), (228, .iaload, 1), (229, .invokevirtual 153, 3), (232, .goto (35), 3), (235, .aload_n 0, 1), (236, .iload_n 1, 1), (237, .iload_n 1, 1), (238, .aload_n 2, 1), (239, .getfield 124, 3), (242, .iadd, 1), (243, .aload_n 0, 1), (244, .getfield 15, 3), (247, .irem, 1), (248, .aload_n 0, 1), (249, .getfield 9, 3), (252, .aload_n 2, 1), (253, .getfield 143, 3), (256, .iaload, 1), (257, .aload_n 2, 1), (258, .getfield 130, 3), (261, .invokevirtual 156, 3), (264, .goto (3), 3), (267, .return_, 1)]
def tb_l85 : List tb_K := [(119, 0, 9, 0, 0, 0, 121), (9, 0, 6, 6, 0, 1, 258), (124, 0, 9, 1, 0, 0, 123), (127, 2, 86, 1, 0, 6, 604), (130, 0, 9, 2, 0, 0, 128), (133, 2, 90, 2, 0, 6, 620), (137, 0, 9, 3, 0, 0, 130), (140, 2, 92, 2, 0, 6, 627), (143, 0, 9, 4, 0, 0, 135), (146, 2, 93, 3, 0, 6, 632), (150, 2, 94, 2, 0, 6, 637), (153, 2, 96, 1, 0, 6, 645), (15, 0, 6, 0, 0, 1, 252), (156, 2, 99, 4, 0, 6, 660)]
def tb_m85 : tb_T := (⟨"CountedActors$Machine", "perform", "(ILCountedActors$Statement;)V"⟩, prog_7_method_6_code, 3, none, 4, 90, tb_c85, tb_l85, [], 603, 602, 12, 59, 0)
def tb_c86 : List (Nat × am_I × Nat) := [(0, .aload_n 0, 1), (1, .getfield 23, 3), (4, .iload_n 1, 1), (5, .invokevirtual 160, 3), (8, .istore_n 2, 1), (9, .iload_n 2, 1), (10, .iconst (-1), 1), (11, .if_icmp .ne (13), 3), (14, .aload_n 0, 1), (15, .dup, 1), (16, .getfield 39, 3), (19, .iconst 1, 1), (20, .iadd, 1), (21, .putfield 39, 3), (24, .iload_n 2, 1), (25, .ireturn, 1)]
def tb_l86 : List tb_K := [(23, 0, 6, 2, 0, 1, 254), (160, 2, 87, 1, 0, 5, 608), (39, 0, 6, 7, 0, 0, 259)]
def tb_m86 : tb_T := (⟨"CountedActors$Machine", "makeObject", "(I)I"⟩, prog_7_method_7_code, 3, (some (.int)), 3, 67, tb_c86, tb_l86, [], 607, 606, 13, 59, 0)
def tb_c87 : List (Nat × am_I × Nat) := [(0, .iconst 0, 1), (1, .istore_n 2, 1), (2, .iload_n 2, 1), (3, .bipush 16, 2), (5, .if_icmp .ge (33), 3), (8, .aload_n 0, 1), (9, .getfield 9, 3), (12, .iload_n 2, 1), (13, .iaload, 1), (14, .iconst (-1), 1), (15, .if_icmp .ne (17), 3), (18, .aload_n 0, 1), (19, .getfield 9, 3), (22, .iload_n 2, 1), (23, .iload_n 1, 1), (24, .iastore, 1), (25, .aload_n 0, 1), (26, .iload_n 2, 1), (27, .invokevirtual 30, 3), (30, .iload_n 2, 1), (31, .ireturn, 1), (32, .iinc 2 (1), 3), (35, .goto (-33), 3), (38, .iconst (-1), 1), (39, .ireturn, 1)]
def tb_l87 : List tb_K := [(9, 0, 5, 0, 0, 1, 179), (30, 2, 88, 1, 0, 5, 612)]
def tb_m87 : tb_T := (⟨"CountedActors$Heap", "make", "(I)I"⟩, prog_6_method_11_code, 3, (some (.int)), 2, 45, tb_c87, tb_l87, [], 611, 609, 611, 54, 0)
def tb_c88 : List (Nat × am_I × Nat) := [(0, .aload_n 0, 1), (1, .getfield 15, 3), (4, .iload_n 1, 1), (5, .iconst 0, 1), (6, .iastore, 1), (7, .iconst 0, 1), (8, .istore_n 2, 1), (9, .iload_n 2, 1), (10, .bipush 6, 2), (12, .if_icmp .ge (16), 3), (15, .aload_n 0, 1), (16, .iload_n 1, 1), (17, .iload_n 2, 1), (18, .iconst (-1), 1), (19, .invokevirtual 34, 3), (22, .iinc 2 (1), 3), (25, .goto (-16), 3), (28, .iconst 0, 1), (29, .istore_n 2, 1), (30, .iload_n 2, 1), (31, .iconst 4, 1), (32, .if_icmp .ge (21), 3), (35, .aload_n 0, 1), (36, .getfield 21, 3), (39, .iload_n 2, 1), (40, .bipush 16, 2), (42, .imul, 1), (43, .iload_n 1, 1), (44, .iadd, 1), (45, .iconst 0, 1), (46, .iastore, 1), (47, .iinc 2 (1), 3), (50, .goto (-20), 3), (53, .return_, 1)]
def tb_l88 : List tb_K := [(15, 0, 5, 1, 0, 1, 180), (34, 2, 89, 3, 0, 5, 616), (21, 0, 5, 3, 0, 1, 182)]
def tb_m88 : tb_T := (⟨"CountedActors$Heap", "clear", "(I)V"⟩, prog_6_method_12_code, 3, none, 1, 23, tb_c88, tb_l88, [], 615, 614, 14, 54, 0)
def tb_c89 : List (Nat × am_I × Nat) := [(0, .aload_n 0, 1), (1, .getfield 18, 3), (4, .iload_n 1, 1), (5, .bipush 6, 2), (7, .imul, 1), (8, .iload_n 2, 1), (9, .iadd, 1), (10, .iload_n 3, 1), (11, .iastore, 1), (12, .return_, 1)]
def tb_l89 : List tb_K := [(18, 0, 5, 2, 0, 1, 181)]
def tb_m89 : tb_T := (⟨"CountedActors$Heap", "hold", "(III)V"⟩, prog_6_method_8_code, 4, none, 0, 0, tb_c89, tb_l89, [], 619, 617, 619, 54, 0)
def tb_c90 : List (Nat × am_I × Nat) := [(0, .iload_n 2, 1), (1, .bipush 6, 2), (3, .if_icmp .ne (10), 3), (6, .iload_n 1, 1), (7, .invokestatic 163, 3), (10, .goto (9), 3), (13, .aload_n 0, 1), (14, .getfield 9, 3), (17, .iload_n 2, 1), (18, .iaload, 1), (19, .ireturn, 1)]
def tb_l90 : List tb_K := [(163, 2, 91, 1, 1, 5, 624), (9, 0, 6, 6, 0, 1, 258)]
def tb_m90 : tb_T := (⟨"CountedActors$Machine", "holderOf", "(II)I"⟩, prog_7_method_8_code, 3, (some (.int)), 1, 20, tb_c90, tb_l90, [], 623, 622, 15, 59, 0)
def tb_c91 : List (Nat × am_I × Nat) := [(0, .bipush 16, 2), (2, .iload_n 0, 1), (3, .iadd, 1), (4, .ireturn, 1)]
def tb_l91 : List tb_K := []
def tb_m91 : tb_T := (⟨"CountedActors$Heap", "holderOfActor", "(I)I"⟩, prog_6_method_2_code, 1, (some (.int)), 0, 0, tb_c91, tb_l91, [], 626, 625, 0, 54, 1)
def tb_c92 : List (Nat × am_I × Nat) := [(0, .iload_n 1, 1), (1, .iconst (-1), 1), (2, .if_icmp .ne (7), 3), (5, .iconst (-1), 1), (6, .goto (12), 3), (9, .aload_n 0, 1), (10, .getfield 23, 3), (13, .iload_n 1, 1), (14, .iload_n 2, 1), (15, .invokevirtual 166, 3), (18, .ireturn, 1)]
def tb_l92 : List tb_K := [(23, 0, 6, 2, 0, 1, 254), (166, 2, 79, 2, 0, 5, 631)]
def tb_m92 : tb_T := (⟨"CountedActors$Machine", "read", "(II)I"⟩, prog_7_method_9_code, 3, (some (.int)), 1, 22, tb_c92, tb_l92, [], 630, 629, 16, 59, 0)
def tb_c93 : List (Nat × am_I × Nat) := [(0, .iload_n 1, 1), (1, .iconst (-1), 1), (2, .if_icmp .ne (5), 3), (5, .iconst (-1), 1), (6, .ireturn, 1), (7, .aload_n 0, 1), (8, .getfield 23, 3), (11, .iload_n 1, 1), (12, .iload_n 2, 1), (13, .invokevirtual 166, 3), (16, .istore 4, 2), (18, .aload_n 0, 1), (19, .getfield 23, 3), (22, .iload_n 1, 1), (23, .iload_n 2, 1), (24, .iload_n 3, 1), (25, .invokevirtual 169, 3), (28, .iload 4, 2), (30, .ireturn, 1)]
def tb_l93 : List tb_K := [(23, 0, 6, 2, 0, 1, 254), (166, 2, 79, 2, 0, 5, 631), (169, 2, 89, 3, 0, 5, 636)]
def tb_m93 : tb_T := (⟨"CountedActors$Machine", "replace", "(III)I"⟩, prog_7_method_10_code, 5, (some (.int)), 1, 23, tb_c93, tb_l93, [], 635, 634, 17, 59, 0)
def tb_c94 : List (Nat × am_I × Nat) := [(0, .iload_n 1, 1), (1, .iconst (-1), 1), (2, .if_icmp .eq (12), 3), (5, .aload_n 0, 1), (6, .getfield 23, 3), (9, .iload_n 1, 1), (10, .iload_n 2, 1), (11, .invokevirtual 172, 3), (14, .return_, 1)]
def tb_l94 : List tb_K := [(23, 0, 6, 2, 0, 1, 254), (172, 2, 95, 2, 0, 5, 641)]
def tb_m94 : tb_T := (⟨"CountedActors$Machine", "growCell", "(II)V"⟩, prog_7_method_11_code, 3, none, 1, 22, tb_c94, tb_l94, [], 640, 639, 18, 59, 0)
def tb_c95 : List (Nat × am_I × Nat) := [(0, .aload_n 0, 1), (1, .getfield 15, 3), (4, .iload_n 1, 1), (5, .dup2, 1), (6, .iaload, 1), (7, .iload_n 2, 1), (8, .iadd, 1), (9, .iastore, 1), (10, .return_, 1)]
def tb_l95 : List tb_K := [(15, 0, 5, 1, 0, 1, 180)]
def tb_m95 : tb_T := (⟨"CountedActors$Heap", "growCell", "(II)V"⟩, prog_6_method_6_code, 3, none, 0, 0, tb_c95, tb_l95, [], 644, 642, 644, 54, 0)
def tb_c96 : List (Nat × am_I × Nat) := [(0, .iload_n 1, 1), (1, .iconst (-1), 1), (2, .if_icmp .eq (18), 3), (5, .aload_n 0, 1), (6, .getfield 35, 3), (9, .aload_n 0, 1), (10, .getfield 23, 3), (13, .iload_n 1, 1), (14, .invokevirtual 173, 3), (17, .invokevirtual 176, 3), (20, .return_, 1)]
def tb_l96 : List tb_K := [(35, 0, 6, 5, 0, 1, 257), (23, 0, 6, 2, 0, 1, 254), (173, 2, 97, 1, 0, 5, 649), (176, 2, 98, 1, 0, 3, 653)]
def tb_m96 : tb_T := (⟨"CountedActors$Machine", "showCell", "(I)V"⟩, prog_7_method_12_code, 2, none, 2, 43, tb_c96, tb_l96, [], 648, 647, 19, 59, 0)
def tb_c97 : List (Nat × am_I × Nat) := [(0, .aload_n 0, 1), (1, .getfield 15, 3), (4, .iload_n 1, 1), (5, .iaload, 1), (6, .ireturn, 1)]
def tb_l97 : List tb_K := [(15, 0, 5, 1, 0, 1, 180)]
def tb_m97 : tb_T := (⟨"CountedActors$Heap", "cellOf", "(I)I"⟩, prog_6_method_5_code, 2, (some (.int)), 0, 0, tb_c97, tb_l97, [], 652, 650, 652, 54, 0)
def tb_c98 : List (Nat × am_I × Nat) := [(0, .aload_n 0, 1), (1, .getfield 9, 3), (4, .aload_n 0, 1), (5, .getfield 15, 3), (8, .bipush 16, 2), (10, .invokestatic 19, 3), (13, .iload_n 1, 1), (14, .iastore, 1), (15, .aload_n 0, 1), (16, .dup, 1), (17, .getfield 15, 3), (20, .iconst 1, 1), (21, .iadd, 1), (22, .putfield 15, 3), (25, .return_, 1)]
def tb_l98 : List tb_K := [(9, 0, 3, 0, 0, 1, 239), (15, 0, 3, 1, 0, 0, 240), (19, 9, 0, 0, 0, 0, 657)]
def tb_m98 : tb_T := (⟨"CountedActors$Display", "put", "(I)V"⟩, prog_4_method_2_code, 2, none, 1, 22, tb_c98, tb_l98, [], 656, 654, 656, 58, 0)
def tb_c99 : List (Nat × am_I × Nat) := [(0, .aload_n 0, 1), (1, .getfield 31, 3), (4, .iload_n 3, 1), (5, .aload_n 0, 1), (6, .getfield 19, 3), (9, .iload 4, 2), (11, .invokevirtual 80, 3), (14, .invokevirtual 83, 3), (17, .aload_n 0, 1), (18, .getfield 31, 3), (21, .invokevirtual 89, 3), (24, .aload_n 0, 1), (25, .getfield 27, 3), (28, .invokevirtual 181, 3), (31, .iconst 1, 1), (32, .aload_n 0, 1), (33, .iload_n 1, 1), (34, .invokevirtual 184, 3), (37, .iadd, 1), (38, .if_icmp .ge (14), 3), (41, .aload_n 0, 1), (42, .dup, 1), (43, .getfield 39, 3), (46, .iconst 1, 1), (47, .iadd, 1), (48, .putfield 39, 3), (51, .return_, 1), (52, .iconst 0, 1), (53, .istore 5, 2), (55, .iload 5, 2), (57, .bipush 16, 2), (59, .if_icmp .ge (28), 3), (62, .aload_n 0, 1), (63, .getfield 31, 3), (66, .iload 5, 2), (68, .invokevirtual 92, 3), (71, .ifCond .eq (10), 3), (74, .aload_n 0, 1), (75, .iload_n 1, 1), (76, .iload 5, 2), (78, .invokevirtual 187, 3), (81, .iinc 5 (1), 3), (84, .goto (-29), 3), (87, .aload_n 0, 1), (88, .getfield 27, 3), (91, .iconst 0, 1), (92, .iload_n 2, 1), (93, .iload_n 3, 1), (94, .iload 4, 2), (96, .invokevirtual 190, 3), (99, .return_, 1)]
def tb_l99 : List tb_K := [(31, 0, 6, 4, 0, 1, 256), (19, 0, 6, 1, 0, 1, 253), (80, 2, 43, 1, 0, 8, 555), (83, 2, 75, 2, 0, 10, 556), (89, 2, 78, 0, 0, 10, 569), (27, 0, 6, 3, 0, 1, 255), (181, 2, 65, 0, 0, 7, 664), (184, 2, 100, 1, 0, 6, 665), (39, 0, 6, 7, 0, 0, 259), (92, 2, 80, 1, 0, 10, 577), (187, 2, 102, 2, 0, 6, 673), (190, 2, 66, 4, 0, 7, 677)]
def tb_m99 : tb_T := (⟨"CountedActors$Machine", "send", "(IIII)V"⟩, prog_7_method_13_code, 6, none, 3, 65, tb_c99, tb_l99, [], 663, 662, 20, 59, 0)
def tb_c100 : List (Nat × am_I × Nat) := [(0, .iconst 0, 1), (1, .istore_n 2, 1), (2, .iconst 0, 1), (3, .istore_n 3, 1), (4, .iload_n 3, 1), (5, .bipush 16, 2), (7, .if_icmp .ge (48), 3), (10, .aload_n 0, 1), (11, .getfield 31, 3), (14, .iload_n 3, 1), (15, .invokevirtual 92, 3), (18, .ifCond .eq (31), 3), (21, .aload_n 0, 1), (22, .getfield 23, 3), (25, .iload_n 3, 1), (26, .invokevirtual 96, 3), (29, .iload_n 1, 1), (30, .if_icmp .eq (19), 3), (33, .aload_n 0, 1), (34, .getfield 23, 3), (37, .iload_n 1, 1), (38, .iload_n 3, 1), (39, .invokevirtual 192, 3), (42, .iconst 2, 1), (43, .if_icmp .ge (6), 3), (46, .iinc 2 (1), 3), (49, .iinc 3 (1), 3), (52, .goto (-48), 3), (55, .iload_n 2, 1), (56, .ireturn, 1)]
def tb_l100 : List tb_K := [(31, 0, 6, 4, 0, 1, 256), (92, 2, 80, 1, 0, 10, 577), (23, 0, 6, 2, 0, 1, 254), (96, 2, 81, 1, 0, 5, 581), (192, 2, 101, 2, 0, 5, 669)]
def tb_m100 : tb_T := (⟨"CountedActors$Machine", "raisesNeeded", "(I)I"⟩, prog_7_method_14_code, 4, (some (.int)), 1, 22, tb_c100, tb_l100, [], 668, 667, 21, 59, 0)
def tb_c101 : List (Nat × am_I × Nat) := [(0, .aload_n 0, 1), (1, .getfield 21, 3), (4, .iload_n 1, 1), (5, .bipush 16, 2), (7, .imul, 1), (8, .iload_n 2, 1), (9, .iadd, 1), (10, .iaload, 1), (11, .ireturn, 1)]
def tb_l101 : List tb_K := [(21, 0, 5, 3, 0, 1, 182)]
def tb_m101 : tb_T := (⟨"CountedActors$Heap", "countOf", "(II)I"⟩, prog_6_method_9_code, 3, (some (.int)), 0, 0, tb_c101, tb_l101, [], 672, 670, 672, 54, 0)
def tb_c102 : List (Nat × am_I × Nat) := [(0, .aload_n 0, 1), (1, .getfield 23, 3), (4, .iload_n 2, 1), (5, .invokevirtual 96, 3), (8, .iload_n 1, 1), (9, .if_icmp .ne (16), 3), (12, .aload_n 0, 1), (13, .getfield 23, 3), (16, .iload_n 1, 1), (17, .iload_n 2, 1), (18, .iconst 1, 1), (19, .invokevirtual 75, 3), (22, .goto (59), 3), (25, .aload_n 0, 1), (26, .getfield 23, 3), (29, .iload_n 1, 1), (30, .iload_n 2, 1), (31, .invokevirtual 192, 3), (34, .iconst 2, 1), (35, .if_icmp .lt (16), 3), (38, .aload_n 0, 1), (39, .getfield 23, 3), (42, .iload_n 1, 1), (43, .iload_n 2, 1), (44, .iconst (-1), 1), (45, .invokevirtual 75, 3), (48, .goto (33), 3), (51, .aload_n 0, 1), (52, .getfield 27, 3), (55, .iconst 1, 1), (56, .aload_n 0, 1), (57, .getfield 23, 3), (60, .iload_n 2, 1), (61, .invokevirtual 96, 3), (64, .iload_n 2, 1), (65, .bipush 8, 2), (67, .invokevirtual 190, 3), (70, .aload_n 0, 1), (71, .getfield 23, 3), (74, .iload_n 1, 1), (75, .iload_n 2, 1), (76, .bipush 7, 2), (78, .invokevirtual 75, 3), (81, .return_, 1)]
def tb_l102 : List tb_K := [(23, 0, 6, 2, 0, 1, 254), (96, 2, 81, 1, 0, 5, 581), (75, 2, 82, 3, 0, 5, 585), (192, 2, 101, 2, 0, 5, 669), (27, 0, 6, 3, 0, 1, 255), (190, 2, 66, 4, 0, 7, 677)]
def tb_m102 : tb_T := (⟨"CountedActors$Machine", "countSent", "(II)V"⟩, prog_7_method_15_code, 3, none, 1, 24, tb_c102, tb_l102, [], 676, 675, 22, 59, 0)
def tb_c103 : List (Nat × am_I × Nat) := [(0, .aload_n 0, 1), (1, .iload_n 1, 1), (2, .invokevirtual 86, 3), (5, .ifCond .eq (14), 3), (8, .aload_n 0, 1), (9, .getfield 64, 3), (12, .iload_n 1, 1), (13, .invokevirtual 104, 3), (16, .goto (4), 3), (19, .iconst (-1), 1), (20, .ireturn, 1)]
def tb_l103 : List tb_K := [(86, 2, 63, 1, 0, 0, 504), (64, 0, 0, 6, 0, 1, 283), (104, 2, 104, 1, 0, 6, 682)]
def tb_m103 : tb_T := (⟨"CountedActors", "collect", "(I)I"⟩, prog_1_method_9_code, 2, (some (.int)), 3, 70, tb_c103, tb_l103, [], 681, 679, 681, 48, 0)
def tb_c104 : List (Nat × am_I × Nat) := [(0, .aload_n 0, 1), (1, .getfield 31, 3), (4, .invokevirtual 195, 3), (7, .aload_n 0, 1), (8, .iload_n 1, 1), (9, .invokevirtual 198, 3), (12, .aload_n 0, 1), (13, .getfield 31, 3), (16, .invokevirtual 89, 3), (19, .iconst 0, 1), (20, .istore_n 2, 1), (21, .iconst 0, 1), (22, .istore_n 3, 1), (23, .iload_n 3, 1), (24, .bipush 16, 2), (26, .if_icmp .ge (52), 3), (29, .aload_n 0, 1), (30, .iload_n 3, 1), (31, .invokevirtual 201, 3), (34, .ifCond .eq (38), 3), (37, .aload_n 0, 1), (38, .getfield 23, 3), (41, .iload_n 3, 1), (42, .invokevirtual 96, 3), (45, .iload_n 1, 1), (46, .if_icmp .ne (26), 3), (49, .aload_n 0, 1), (50, .getfield 23, 3), (53, .iload_n 1, 1), (54, .iload_n 3, 1), (55, .invokevirtual 192, 3), (58, .ifCond .ne (14), 3), (61, .aload_n 0, 1), (62, .getfield 23, 3), (65, .iload_n 3, 1), (66, .invokevirtual 204, 3), (69, .iinc 2 (1), 3), (72, .iinc 3 (1), 3), (75, .goto (-52), 3), (78, .iconst 0, 1), (79, .istore_n 3, 1), (80, .iload_n 3, 1), (81, .bipush 16, 2), (83, .if_icmp .ge (47), 3), (86, .aload_n 0, 1), (87, .iload_n 3, 1), (88, .invokevirtual 201, 3), (91, .ifCond .eq (33), 3), (94, .aload_n 0, 1), (95, .getfield 23, 3), (98, .iload_n 3, 1), (99, .invokevirtual 96, 3), (102, .iload_n 1, 1), (103, .if_icmp .eq (21), 3), (106, .aload_n 0, 1), (107, .getfield 23, 3), (110, .iload_n 1, 1), (111, .iload_n 3, 1), (112, .invokevirtual 192, 3), (115, .ifCond .eq (9), 3), (118, .aload_n 0, 1), (119, .iload_n 1, 1), (120, .iload_n 3, 1), (121, .invokevirtual 207, 3), (124, .iinc 3 (1), 3), (127, .goto (-47), 3), (130, .iload_n 2, 1), (131, .ireturn, 1)]
def tb_l104 : List tb_K := [(31, 0, 6, 4, 0, 1, 256), (195, 2, 76, 0, 0, 10, 686), (198, 2, 105, 1, 0, 6, 687), (89, 2, 78, 0, 0, 10, 569), (201, 2, 106, 1, 0, 6, 692), (23, 0, 6, 2, 0, 1, 254), (96, 2, 81, 1, 0, 5, 581), (192, 2, 101, 2, 0, 5, 669), (204, 2, 108, 1, 0, 5, 700), (207, 2, 109, 2, 0, 6, 704)]
def tb_m104 : tb_T := (⟨"CountedActors$Machine", "collectFor", "(I)I"⟩, prog_7_method_16_code, 4, (some (.int)), 2, 47, tb_c104, tb_l104, [], 685, 683, 685, 59, 0)
def tb_c105 : List (Nat × am_I × Nat) := [(0, .iconst 0, 1), (1, .istore_n 2, 1), (2, .iload_n 2, 1), (3, .bipush 6, 2), (5, .if_icmp .ge (29), 3), (8, .aload_n 0, 1), (9, .getfield 31, 3), (12, .aload_n 0, 1), (13, .getfield 23, 3), (16, .iload_n 1, 1), (17, .invokestatic 163, 3), (20, .iload_n 2, 1), (21, .invokevirtual 166, 3), (24, .iload_n 2, 1), (25, .invokevirtual 213, 3), (28, .iinc 2 (1), 3), (31, .goto (-29), 3), (34, .return_, 1)]
def tb_l105 : List tb_K := [(31, 0, 6, 4, 0, 1, 256), (23, 0, 6, 2, 0, 1, 254), (163, 2, 91, 1, 1, 5, 624), (166, 2, 79, 2, 0, 5, 631), (213, 2, 77, 2, 0, 10, 691)]
def tb_m105 : tb_T := (⟨"CountedActors$Machine", "meetFields", "(I)V"⟩, prog_7_method_19_code, 3, none, 1, 23, tb_c105, tb_l105, [], 690, 688, 690, 59, 0)
def tb_c106 : List (Nat × am_I × Nat) := [(0, .aload_n 0, 1), (1, .getfield 23, 3), (4, .iload_n 1, 1), (5, .invokevirtual 210, 3), (8, .ifCond .eq (18), 3), (11, .aload_n 0, 1), (12, .getfield 31, 3), (15, .iload_n 1, 1), (16, .invokevirtual 92, 3), (19, .ifCond .ne (7), 3), (22, .iconst 1, 1), (23, .goto (4), 3), (26, .iconst 0, 1), (27, .ireturn, 1)]
def tb_l106 : List tb_K := [(23, 0, 6, 2, 0, 1, 254), (210, 2, 107, 1, 0, 5, 696), (31, 0, 6, 4, 0, 1, 256), (92, 2, 80, 1, 0, 10, 577)]
def tb_m106 : tb_T := (⟨"CountedActors$Machine", "isUnkept", "(I)Z"⟩, prog_7_method_17_code, 2, (some (.boolean)), 1, 21, tb_c106, tb_l106, [], 695, 694, 23, 59, 0)
def tb_c107 : List (Nat × am_I × Nat) := [(0, .iload_n 1, 1), (1, .ifCond .lt (23), 3), (4, .iload_n 1, 1), (5, .bipush 16, 2), (7, .if_icmp .ge (17), 3), (10, .aload_n 0, 1), (11, .getfield 9, 3), (14, .iload_n 1, 1), (15, .iaload, 1), (16, .iconst (-1), 1), (17, .if_icmp .eq (7), 3), (20, .iconst 1, 1), (21, .goto (4), 3), (24, .iconst 0, 1), (25, .ireturn, 1)]
def tb_l107 : List tb_K := [(9, 0, 5, 0, 0, 1, 179)]
def tb_m107 : tb_T := (⟨"CountedActors$Heap", "exists", "(I)Z"⟩, prog_6_method_3_code, 2, (some (.boolean)), 0, 0, tb_c107, tb_l107, [], 699, 697, 699, 54, 0)
def tb_c108 : List (Nat × am_I × Nat) := [(0, .aload_n 0, 1), (1, .getfield 9, 3), (4, .iload_n 1, 1), (5, .iconst (-1), 1), (6, .iastore, 1), (7, .iconst 0, 1), (8, .istore_n 2, 1), (9, .iload_n 2, 1), (10, .bipush 96, 2), (12, .if_icmp .ge (26), 3), (15, .aload_n 0, 1), (16, .getfield 18, 3), (19, .iload_n 2, 1), (20, .iaload, 1), (21, .iload_n 1, 1), (22, .if_icmp .ne (10), 3), (25, .aload_n 0, 1), (26, .getfield 18, 3), (29, .iload_n 2, 1), (30, .iconst (-1), 1), (31, .iastore, 1), (32, .iinc 2 (1), 3), (35, .goto (-26), 3), (38, .return_, 1)]
def tb_l108 : List tb_K := [(9, 0, 5, 0, 0, 1, 179), (18, 0, 5, 2, 0, 1, 181)]
def tb_m108 : tb_T := (⟨"CountedActors$Heap", "free", "(I)V"⟩, prog_6_method_13_code, 3, none, 0, 0, tb_c108, tb_l108, [], 703, 701, 703, 54, 0)
def tb_c109 : List (Nat × am_I × Nat) := [(0, .aload_n 0, 1), (1, .getfield 27, 3), (4, .invokevirtual 181, 3), (7, .iconst 1, 1), (8, .if_icmp .ge (4), 3), (11, .return_, 1), (12, .aload_n 0, 1), (13, .getfield 23, 3), (16, .iload_n 1, 1), (17, .iload_n 2, 1), (18, .invokevirtual 192, 3), (21, .istore_n 3, 1), (22, .aload_n 0, 1), (23, .getfield 27, 3), (26, .iconst 2, 1), (27, .aload_n 0, 1), (28, .getfield 23, 3), (31, .iload_n 2, 1), (32, .invokevirtual 96, 3), (35, .iload_n 2, 1), (36, .iload_n 3, 1), (37, .invokevirtual 190, 3), (40, .aload_n 0, 1), (41, .getfield 23, 3), (44, .iload_n 1, 1), (45, .iload_n 2, 1), (46, .iload_n 3, 1), (47, .ineg, 1), (48, .invokevirtual 75, 3), (51, .return_, 1)]
def tb_l109 : List tb_K := [(27, 0, 6, 3, 0, 1, 255), (181, 2, 65, 0, 0, 7, 664), (23, 0, 6, 2, 0, 1, 254), (192, 2, 101, 2, 0, 5, 669), (96, 2, 81, 1, 0, 5, 581), (190, 2, 66, 4, 0, 7, 677), (75, 2, 82, 3, 0, 5, 585)]
def tb_m109 : tb_T := (⟨"CountedActors$Machine", "giveBack", "(II)V"⟩, prog_7_method_18_code, 4, none, 1, 24, tb_c109, tb_l109, [], 707, 706, 24, 59, 0)
def tb_c110 : List (Nat × am_I × Nat) := [(0, .aload_n 0, 1), (1, .iload_n 1, 1), (2, .invokevirtual 86, 3), (5, .ifCond .eq (14), 3), (8, .aload_n 0, 1), (9, .getfield 39, 3), (12, .iload_n 1, 1), (13, .invokevirtual 107, 3), (16, .goto (4), 3), (19, .iconst (-1), 1), (20, .ireturn, 1)]
def tb_l110 : List tb_K := [(86, 2, 63, 1, 0, 0, 504), (39, 0, 0, 3, 0, 1, 280), (107, 2, 111, 1, 0, 7, 712)]
def tb_m110 : tb_T := (⟨"CountedActors", "waiting", "(I)I"⟩, prog_1_method_10_code, 2, (some (.int)), 1, 23, tb_c110, tb_l110, [], 711, 709, 711, 48, 0)
def tb_c111 : List (Nat × am_I × Nat) := [(0, .iconst 0, 1), (1, .istore_n 2, 1), (2, .iconst 0, 1), (3, .istore_n 3, 1), (4, .iload_n 3, 1), (5, .aload_n 0, 1), (6, .getfield 24, 3), (9, .if_icmp .ge (22), 3), (12, .aload_n 0, 1), (13, .getfield 15, 3), (16, .iload_n 3, 1), (17, .iaload, 1), (18, .iload_n 1, 1), (19, .if_icmp .ne (6), 3), (22, .iinc 2 (1), 3), (25, .iinc 3 (1), 3), (28, .goto (-24), 3), (31, .iload_n 2, 1), (32, .ireturn, 1)]
def tb_l111 : List tb_K := [(24, 0, 7, 4, 0, 0, 202), (15, 0, 7, 1, 0, 1, 199)]
def tb_m111 : tb_T := (⟨"CountedActors$Mail", "sizeFor", "(I)I"⟩, prog_8_method_4_code, 4, (some (.int)), 0, 0, tb_c111, tb_l111, [], 715, 713, 715, 56, 0)
def tb_c112 : List (Nat × am_I × Nat) := [(0, .aload_n 0, 1), (1, .getfield 32, 3), (4, .iload_n 1, 1), (5, .invokevirtual 110, 3), (8, .ifCond .eq (14), 3), (11, .aload_n 0, 1), (12, .getfield 32, 3), (15, .iload_n 1, 1), (16, .invokevirtual 113, 3), (19, .goto (4), 3), (22, .iconst (-1), 1), (23, .ireturn, 1)]
def tb_l112 : List tb_K := [(32, 0, 0, 2, 0, 1, 279), (110, 2, 107, 1, 0, 5, 720), (113, 2, 81, 1, 0, 5, 721)]
def tb_m112 : tb_T := (⟨"CountedActors", "owner", "(I)I"⟩, prog_1_method_11_code, 2, (some (.int)), 1, 21, tb_c112, tb_l112, [], 719, 717, 719, 48, 0)
def tb_c113 : List (Nat × am_I × Nat) := [(0, .aload_n 0, 1), (1, .getfield 32, 3), (4, .iload_n 1, 1), (5, .invokevirtual 110, 3), (8, .ifCond .eq (14), 3), (11, .aload_n 0, 1), (12, .getfield 32, 3), (15, .iload_n 1, 1), (16, .invokevirtual 116, 3), (19, .goto (4), 3), (22, .iconst 0, 1), (23, .ireturn, 1)]
def tb_l113 : List tb_K := [(32, 0, 0, 2, 0, 1, 279), (110, 2, 107, 1, 0, 5, 720), (116, 2, 97, 1, 0, 5, 726)]
def tb_m113 : tb_T := (⟨"CountedActors", "cell", "(I)I"⟩, prog_1_method_12_code, 2, (some (.int)), 1, 21, tb_c113, tb_l113, [], 725, 723, 725, 48, 0)
def tb_c114 : List (Nat × am_I × Nat) := [(0, .aload_n 0, 1), (1, .iload_n 1, 1), (2, .invokevirtual 86, 3), (5, .ifCond .eq (26), 3), (8, .aload_n 0, 1), (9, .getfield 32, 3), (12, .iload_n 2, 1), (13, .invokevirtual 110, 3), (16, .ifCond .eq (15), 3), (19, .aload_n 0, 1), (20, .getfield 32, 3), (23, .iload_n 1, 1), (24, .iload_n 2, 1), (25, .invokevirtual 119, 3), (28, .goto (4), 3), (31, .iconst (-1), 1), (32, .ireturn, 1)]
def tb_l114 : List tb_K := [(86, 2, 63, 1, 0, 0, 504), (32, 0, 0, 2, 0, 1, 279), (110, 2, 107, 1, 0, 5, 720), (119, 2, 101, 2, 0, 5, 731)]
def tb_m114 : tb_T := (⟨"CountedActors", "count", "(II)I"⟩, prog_1_method_13_code, 3, (some (.int)), 1, 22, tb_c114, tb_l114, [], 730, 728, 730, 48, 0)
def tb_c115 : List (Nat × am_I × Nat) := [(0, .aload_n 0, 1), (1, .iload_n 1, 1), (2, .invokevirtual 86, 3), (5, .ifCond .eq (25), 3), (8, .iload_n 2, 1), (9, .invokestatic 122, 3), (12, .ifCond .eq (18), 3), (15, .aload_n 0, 1), (16, .getfield 32, 3), (19, .iload_n 1, 1), (20, .invokestatic 125, 3), (23, .iload_n 2, 1), (24, .invokevirtual 128, 3), (27, .goto (4), 3), (30, .iconst (-1), 1), (31, .ireturn, 1)]
def tb_l115 : List tb_K := [(86, 2, 63, 1, 0, 0, 504), (122, 2, 31, 1, 1, 0, 736), (32, 0, 0, 2, 0, 1, 279), (125, 2, 91, 1, 1, 5, 737), (128, 2, 79, 2, 0, 5, 738)]
def tb_m115 : tb_T := (⟨"CountedActors", "field", "(II)I"⟩, prog_1_method_14_code, 3, (some (.int)), 1, 22, tb_c115, tb_l115, [], 735, 733, 735, 48, 0)
def tb_c116 : List (Nat × am_I × Nat) := [(0, .aload_n 0, 1), (1, .getfield 32, 3), (4, .iload_n 1, 1), (5, .invokevirtual 110, 3), (8, .ifCond .eq (22), 3), (11, .iload_n 2, 1), (12, .invokestatic 122, 3), (15, .ifCond .eq (15), 3), (18, .aload_n 0, 1), (19, .getfield 32, 3), (22, .iload_n 1, 1), (23, .iload_n 2, 1), (24, .invokevirtual 128, 3), (27, .goto (4), 3), (30, .iconst (-1), 1), (31, .ireturn, 1)]
def tb_l116 : List tb_K := [(32, 0, 0, 2, 0, 1, 279), (110, 2, 107, 1, 0, 5, 720), (122, 2, 31, 1, 1, 0, 736), (128, 2, 79, 2, 0, 5, 738)]
def tb_m116 : tb_T := (⟨"CountedActors", "inner", "(II)I"⟩, prog_1_method_15_code, 3, (some (.int)), 1, 22, tb_c116, tb_l116, [], 742, 740, 742, 48, 0)
def tb_c117 : List (Nat × am_I × Nat) := [(0, .aload_n 0, 1), (1, .iload_n 1, 1), (2, .invokevirtual 86, 3), (5, .ifCond .eq (14), 3), (8, .aload_n 0, 1), (9, .getfield 32, 3), (12, .iload_n 2, 1), (13, .invokevirtual 110, 3), (16, .ifCond .ne (5), 3), (19, .iconst 0, 1), (20, .ireturn, 1), (21, .aload_n 0, 1), (22, .getfield 48, 3), (25, .invokevirtual 131, 3), (28, .aload_n 0, 1), (29, .getfield 64, 3), (32, .iload_n 1, 1), (33, .invokevirtual 134, 3), (36, .aload_n 0, 1), (37, .getfield 64, 3), (40, .iload_n 1, 1), (41, .invokevirtual 138, 3), (44, .aload_n 0, 1), (45, .getfield 48, 3), (48, .invokevirtual 141, 3), (51, .aload_n 0, 1), (52, .getfield 48, 3), (55, .iload_n 2, 1), (56, .invokevirtual 144, 3), (59, .ireturn, 1)]
def tb_l117 : List tb_K := [(86, 2, 63, 1, 0, 0, 504), (32, 0, 0, 2, 0, 1, 279), (110, 2, 107, 1, 0, 5, 720), (48, 0, 0, 4, 0, 1, 281), (131, 2, 76, 0, 0, 10, 747), (64, 0, 0, 6, 0, 1, 283), (134, 2, 105, 1, 0, 6, 748), (138, 2, 118, 1, 0, 6, 749), (141, 2, 121, 0, 0, 10, 761), (144, 2, 122, 1, 0, 10, 766)]
def tb_m117 : tb_T := (⟨"CountedActors", "rights", "(II)I"⟩, prog_1_method_16_code, 3, (some (.int)), 3, 63, tb_c117, tb_l117, [], 746, 744, 746, 48, 0)
def tb_c118 : List (Nat × am_I × Nat) := [(0, .iconst 0, 1), (1, .istore_n 2, 1), (2, .iload_n 2, 1), (3, .aload_n 0, 1), (4, .getfield 27, 3), (7, .invokevirtual 216, 3), (10, .if_icmp .ge (51), 3), (13, .aload_n 0, 1), (14, .getfield 27, 3), (17, .iload_n 2, 1), (18, .iload_n 1, 1), (19, .invokevirtual 217, 3), (22, .ifCond .eq (33), 3), (25, .aload_n 0, 1), (26, .getfield 31, 3), (29, .aload_n 0, 1), (30, .getfield 27, 3), (33, .iload_n 2, 1), (34, .invokevirtual 51, 3), (37, .aload_n 0, 1), (38, .getfield 19, 3), (41, .aload_n 0, 1), (42, .getfield 27, 3), (45, .iload_n 2, 1), (46, .invokevirtual 54, 3), (49, .invokevirtual 80, 3), (52, .invokevirtual 213, 3), (55, .iinc 2 (1), 3), (58, .goto (-56), 3), (61, .return_, 1)]
def tb_l118 : List tb_K := [(27, 0, 6, 3, 0, 1, 255), (216, 2, 119, 0, 0, 7, 753), (217, 2, 120, 2, 0, 7, 757), (31, 0, 6, 4, 0, 1, 256), (51, 2, 71, 1, 0, 7, 536), (19, 0, 6, 1, 0, 1, 253), (54, 2, 72, 1, 0, 7, 540), (80, 2, 43, 1, 0, 8, 555), (213, 2, 77, 2, 0, 10, 691)]
def tb_m118 : tb_T := (⟨"CountedActors$Machine", "meetCalls", "(I)V"⟩, prog_7_method_20_code, 3, none, 2, 41, tb_c118, tb_l118, [], 752, 750, 752, 59, 0)
def tb_c119 : List (Nat × am_I × Nat) := [(0, .aload_n 0, 1), (1, .getfield 24, 3), (4, .ireturn, 1)]
def tb_l119 : List tb_K := [(24, 0, 7, 4, 0, 0, 202)]
def tb_m119 : tb_T := (⟨"CountedActors$Mail", "size", "()I"⟩, prog_8_method_2_code, 1, (some (.int)), 0, 0, tb_c119, tb_l119, [], 756, 754, 756, 56, 0)
def tb_c120 : List (Nat × am_I × Nat) := [(0, .aload_n 0, 1), (1, .getfield 9, 3), (4, .iload_n 1, 1), (5, .iaload, 1), (6, .ifCond .ne (17), 3), (9, .aload_n 0, 1), (10, .getfield 15, 3), (13, .iload_n 1, 1), (14, .iaload, 1), (15, .iload_n 2, 1), (16, .if_icmp .ne (7), 3), (19, .iconst 1, 1), (20, .goto (4), 3), (23, .iconst 0, 1), (24, .ireturn, 1)]
def tb_l120 : List tb_K := [(9, 0, 7, 0, 0, 1, 198), (15, 0, 7, 1, 0, 1, 199)]
def tb_m120 : tb_T := (⟨"CountedActors$Mail", "isCallTo", "(II)Z"⟩, prog_8_method_7_code, 3, (some (.boolean)), 0, 0, tb_c120, tb_l120, [], 760, 758, 760, 56, 0)
def tb_c121 : List (Nat × am_I × Nat) := [(0, .iconst 0, 1), (1, .istore_n 1, 1), (2, .iload_n 1, 1), (3, .aload_n 0, 1), (4, .getfield 28, 3), (7, .if_icmp .ge (74), 3), (10, .iload_n 1, 1), (11, .aload_n 0, 1), (12, .getfield 15, 3), (15, .arraylength, 1), (16, .if_icmp .ge (65), 3), (19, .aload_n 0, 1), (20, .getfield 15, 3), (23, .iload_n 1, 1), (24, .iaload, 1), (25, .bipush 6, 2), (27, .idiv, 1), (28, .istore_n 2, 1), (29, .aload_n 0, 1), (30, .getfield 15, 3), (33, .iload_n 1, 1), (34, .iaload, 1), (35, .bipush 6, 2), (37, .irem, 1), (38, .istore_n 3, 1), (39, .iconst 0, 1), (40, .istore 4, 2), (42, .iload 4, 2), (44, .bipush 6, 2), (46, .if_icmp .ge (29), 3), (49, .aload_n 0, 1), (50, .aload_n 0, 1), (51, .getfield 18, 3), (54, .iload_n 2, 1), (55, .iload 4, 2), (57, .invokevirtual 39, 3), (60, .iload_n 3, 1), (61, .iload 4, 2), (63, .invokestatic 45, 3), (66, .invokevirtual 35, 3), (69, .iinc 4 (1), 3), (72, .goto (-30), 3), (75, .iinc 1 (1), 3), (78, .goto (-76), 3), (81, .return_, 1)]
def tb_l121 : List tb_K := [(28, 0, 10, 3, 0, 0, 223), (15, 0, 10, 2, 0, 1, 222), (18, 0, 10, 0, 0, 1, 220), (39, 2, 79, 2, 0, 5, 573), (45, 2, 48, 2, 1, 0, 765), (35, 2, 77, 2, 0, 10, 565)]
def tb_m121 : tb_T := (⟨"CountedActors$Walk", "followByView", "()V"⟩, prog_11_method_6_code, 5, none, 1, 23, tb_c121, tb_l121, [], 764, 762, 764, 57, 0)
def tb_c122 : List (Nat × am_I × Nat) := [(0, .aload_n 0, 1), (1, .iload_n 1, 1), (2, .invokevirtual 50, 3), (5, .ifCond .eq (7), 3), (8, .iconst 1, 1), (9, .goto (4), 3), (12, .iconst 0, 1), (13, .istore_n 2, 1), (14, .aload_n 0, 1), (15, .getfield 9, 3), (18, .iload_n 1, 1), (19, .iaload, 1), (20, .bipush 31, 2), (22, .iand, 1), (23, .ifCond .eq (6), 3), (26, .iinc 2 (2), 3), (29, .aload_n 0, 1), (30, .getfield 9, 3), (33, .iload_n 1, 1), (34, .iaload, 1), (35, .bipush 7, 2), (37, .iand, 1), (38, .ifCond .eq (6), 3), (41, .iinc 2 (4), 3), (44, .iload_n 2, 1), (45, .ireturn, 1)]
def tb_l122 : List tb_K := [(50, 2, 80, 1, 0, 10, 770), (9, 0, 10, 1, 0, 1, 221)]
def tb_m122 : tb_T := (⟨"CountedActors$Walk", "rightsOver", "(I)I"⟩, prog_11_method_8_code, 3, (some (.int)), 1, 21, tb_c122, tb_l122, [], 769, 767, 769, 57, 0)
def tb_c123 : List (Nat × am_I × Nat) := [(0, .iload_n 1, 1), (1, .iconst (-1), 1), (2, .if_icmp .ne (13), 3), (5, .aload_n 0, 1), (6, .getfield 55, 3), (9, .invokevirtual 147, 3), (12, .goto (11), 3), (15, .aload_n 0, 1), (16, .getfield 55, 3), (19, .iload_n 1, 1), (20, .invokevirtual 150, 3), (23, .ireturn, 1)]
def tb_l123 : List tb_K := [(55, 0, 0, 5, 0, 1, 282), (147, 2, 124, 0, 0, 3, 775), (150, 2, 125, 1, 0, 3, 779)]
def tb_m123 : tb_T := (⟨"CountedActors", "shown", "(I)I"⟩, prog_1_method_17_code, 2, (some (.int)), 2, 43, tb_c123, tb_l123, [], 774, 772, 774, 48, 0)
def tb_c124 : List (Nat × am_I × Nat) := [(0, .aload_n 0, 1), (1, .getfield 15, 3), (4, .ireturn, 1)]
def tb_l124 : List tb_K := [(15, 0, 3, 1, 0, 0, 240)]
def tb_m124 : tb_T := (⟨"CountedActors$Display", "times", "()I"⟩, prog_4_method_3_code, 1, (some (.int)), 0, 0, tb_c124, tb_l124, [], 778, 776, 778, 58, 0)
def tb_c125 : List (Nat × am_I × Nat) := [(0, .iload_n 1, 1), (1, .ifCond .lt (17), 3), (4, .iload_n 1, 1), (5, .bipush 16, 2), (7, .if_icmp .ge (11), 3), (10, .iload_n 1, 1), (11, .aload_n 0, 1), (12, .getfield 15, 3), (15, .if_icmp .lt (5), 3), (18, .iconst 0, 1), (19, .ireturn, 1), (20, .aload_n 0, 1), (21, .getfield 9, 3), (24, .aload_n 0, 1), (25, .getfield 15, 3), (28, .iconst 1, 1), (29, .isub, 1), (30, .iload_n 1, 1), (31, .isub, 1), (32, .bipush 16, 2), (34, .invokestatic 19, 3), (37, .iaload, 1), (38, .ireturn, 1)]
def tb_l125 : List tb_K := [(15, 0, 3, 1, 0, 0, 240), (9, 0, 3, 0, 0, 1, 239), (19, 9, 0, 0, 0, 0, 657)]
def tb_m125 : tb_T := (⟨"CountedActors$Display", "latest", "(I)I"⟩, prog_4_method_4_code, 2, (some (.int)), 1, 22, tb_c125, tb_l125, [], 782, 780, 782, 58, 0)
def tb_c126 : List (Nat × am_I × Nat) := [(0, .aload_n 0, 1), (1, .getfield 48, 3), (4, .invokevirtual 131, 3), (7, .iconst 0, 1), (8, .istore_n 1, 1), (9, .iload_n 1, 1), (10, .aload_n 0, 1), (11, .getfield 18, 3), (14, .if_icmp .ge (25), 3), (17, .aload_n 0, 1), (18, .getfield 64, 3), (21, .iload_n 1, 1), (22, .invokevirtual 134, 3), (25, .aload_n 0, 1), (26, .getfield 64, 3), (29, .iload_n 1, 1), (30, .invokevirtual 138, 3), (33, .iinc 1 (1), 3), (36, .goto (-27), 3), (39, .aload_n 0, 1), (40, .getfield 48, 3), (43, .invokevirtual 153, 3), (46, .iconst 0, 1), (47, .istore_n 1, 1), (48, .iconst 0, 1), (49, .istore_n 2, 1), (50, .iload_n 2, 1), (51, .bipush 16, 2), (53, .if_icmp .ge (34), 3), (56, .aload_n 0, 1), (57, .getfield 32, 3), (60, .iload_n 2, 1), (61, .invokevirtual 110, 3), (64, .ifCond .eq (17), 3), (67, .aload_n 0, 1), (68, .getfield 48, 3), (71, .iload_n 2, 1), (72, .invokevirtual 156, 3), (75, .ifCond .ne (6), 3), (78, .iinc 1 (1), 3), (81, .iinc 2 (1), 3), (84, .goto (-34), 3), (87, .iload_n 1, 1), (88, .ireturn, 1)]
def tb_l126 : List tb_K := [(48, 0, 0, 4, 0, 1, 281), (131, 2, 76, 0, 0, 10, 747), (18, 0, 0, 0, 0, 1, 277), (64, 0, 0, 6, 0, 1, 283), (134, 2, 105, 1, 0, 6, 748), (138, 2, 118, 1, 0, 6, 749), (153, 2, 78, 0, 0, 10, 787), (32, 0, 0, 2, 0, 1, 279), (110, 2, 107, 1, 0, 5, 720), (156, 2, 80, 1, 0, 10, 788)]
def tb_m126 : tb_T := (⟨"CountedActors", "garbage", "()I"⟩, prog_1_method_18_code, 3, (some (.int)), 3, 63, tb_c126, tb_l126, [], 786, 784, 786, 48, 0)
def tb_c127 : List (Nat × am_I × Nat) := [(0, .aload_n 0, 1), (1, .getfield 64, 3), (4, .invokevirtual 159, 3), (7, .ireturn, 1)]
def tb_l127 : List tb_K := [(64, 0, 0, 6, 0, 1, 283), (159, 2, 128, 0, 0, 6, 793)]
def tb_m127 : tb_T := (⟨"CountedActors", "lost", "()I"⟩, prog_1_method_19_code, 1, (some (.int)), 1, 20, tb_c127, tb_l127, [], 792, 790, 792, 48, 0)
def tb_c128 : List (Nat × am_I × Nat) := [(0, .aload_n 0, 1), (1, .getfield 39, 3), (4, .ireturn, 1)]
def tb_l128 : List tb_K := [(39, 0, 6, 7, 0, 0, 259)]
def tb_m128 : tb_T := (⟨"CountedActors$Machine", "timesLost", "()I"⟩, prog_7_method_2_code, 1, (some (.int)), 0, 0, tb_c128, tb_l128, [], 796, 794, 796, 59, 0)
def tb_c129 : List (Nat × am_I × Nat) := [(0, .iload_n 1, 1), (1, .aload_n 0, 1), (2, .arraylength, 1), (3, .if_icmp .ge (9), 3), (6, .aload_n 0, 1), (7, .iload_n 1, 1), (8, .iaload, 1), (9, .goto (4), 3), (12, .iconst 0, 1), (13, .ireturn, 1)]
def tb_l129 : List tb_K := []
def tb_m129 : tb_T := (⟨"CountedActorsLaw", "cell", "([II)I"⟩, method_2_code, 2, (some (.int)), 0, 0, tb_c129, tb_l129, [], 799, 798, 0, 47, 1)
def tb_c130 : List (Nat × am_I × Nat) := [(0, .aload_n 0, 1), (1, .invokespecial 1, 3), (4, .aload_n 0, 1), (5, .bipush 16, 2), (7, .newarray .int, 2), (9, .putfield 7, 3), (12, .aload_n 0, 1), (13, .bipush 16, 2), (15, .newarray .int, 2), (17, .putfield 13, 3), (20, .aload_n 0, 1), (21, .bipush 96, 2), (23, .newarray .int, 2), (25, .putfield 16, 3), (28, .aload_n 0, 1), (29, .bipush 64, 2), (31, .newarray .int, 2), (33, .putfield 19, 3), (36, .aload_n 0, 1), (37, .bipush 24, 2), (39, .newarray .int, 2), (41, .putfield 22, 3), (44, .aload_n 0, 1), (45, .bipush 6, 2), (47, .newarray .int, 2), (49, .putfield 25, 3), (52, .aload_n 0, 1), (53, .bipush 6, 2), (55, .newarray .int, 2), (57, .putfield 28, 3), (60, .aload_n 0, 1), (61, .sipush 300, 3), (64, .newarray .int, 2), (66, .putfield 31, 3), (69, .aload_n 0, 1), (70, .bipush 6, 2), (72, .newarray .int, 2), (74, .putfield 34, 3), (77, .aload_n 0, 1), (78, .bipush 6, 2), (80, .newarray .boolean, 2), (82, .putfield 37, 3), (85, .aload_n 0, 1), (86, .bipush 6, 2), (88, .newarray .boolean, 2), (90, .putfield 41, 3), (93, .aload_n 0, 1), (94, .bipush 20, 2), (96, .newarray .int, 2), (98, .putfield 44, 3), (101, .aload_n 0, 1), (102, .bipush 20, 2), (104, .newarray .int, 2), (106, .putfield 47, 3), (109, .aload_n 0, 1), (110, .bipush 20, 2), (112, .newarray .int, 2), (114, .putfield 50, 3), (117, .aload_n 0, 1), (118, .bipush 20, 2), (120, .newarray .int, 2), (122, .putfield 53, 3), (125, .aload_n 0, 1), (126, .bipush 16, 2), (128, .newarray .boolean, 2), (130, .putfield 56, 3), (133, .aload_n 0, 1), (134, .bipush 16, 2), (136, .newarray .boolean, 2), (138, .putfield 59, 3), (141, .aload_n 0, 1), (142, .bipush 96, 2), (144, .newarray .boolean, 2), (146, .putfield 62, 3), (149, .aload_n 0, 1), (150, .bipush 6, 2), (152, .newarray .int, 2), (154, .putfield 65, 3), (157, .aload_n 0, 1), (158, .bipush 16, 2), (160, .newarray .int, 2), (162, .putfield 68, 3), (165, .aload_n 0, 1), (166, .iload_n 1, 1), (167, .iconst 1, 1), (168, .if_icmp .ge (7), 3), (171, .iconst 1, 1), (172, .goto (13), 3), (175, .iload_n 1, 1), (176, .iconst 4, 1), (177, .if_icmp .le (7), 3), (180, .iconst 4, 1), (181, .goto (4), 3), (184, .iload_n 1, 1), (185, .putfield 71, 3), (188, .iconst 0, 1), (189, .istore_n 2, 1), (190, .iload_n 2, 1), (191, .bipush 16, 2), (193, .if_icmp .ge (16), 3), (196, .aload_n 0, 1), (197, .getfield 7, 3), (200, .iload_n 2, 1), (201, .iconst (-1), 1), (202, .iastore, 1), (203, .iinc 2 (1), 3), (206, .goto (-16), 3), (209, .iconst 0, 1), (210, .istore_n 2, 1), (211, .iload_n 2, 1), (212, .bipush 96, 2), (214, .if_icmp .ge (16), 3), (217, .aload_n 0, 1), (218, .getfield 16, 3), (221, .iload_n 2, 1), (222, .iconst (-1), 1), (223, .iastore, 1), (224, .iinc 2 (1), 3), (227, .goto (-16), 3), (230, .iconst 0, 1), (231, .istore_n 2, 1), (232, .iload_n 2, 1), (233, .bipush 24, 2), (235, .if_icmp .ge (16), 3), (238, .aload_n 0, 1), (239, .getfield 22, 3), (242, .iload_n 2, 1), (243, .iconst (-1), 1), (244, .iastore, 1), (245, .iinc 2 (1), 3), (248, .goto (-16), 3), (251, .return_, 1)]
def tb_l130 : List tb_K := [(1, 3, 0, 0, 0, 0, 805), (7, 0, 1, 1, 0, 0, 807), (13, 0, 1, 2, 0, 0, 808), (16, 0, 1, 3, 0, 0, 809), (19, 0, 1, 4, 0, 0, 810), (22, 0, 1, 5, 0, 0, 811), (25, 0, 1, 8, 0, 0, 814), (28, 0, 1, 9, 0, 0, 815), (31, 0, 1, 10, 0, 0, 816), (34, 0, 1, 11, 0, 0, 817), (37, 0, 1, 12, 0, 0, 818), (41, 0, 1, 13, 0, 0, 819), (44, 0, 1, 16, 0, 0, 822), (47, 0, 1, 17, 0, 0, 823), (50, 0, 1, 18, 0, 0, 824), (53, 0, 1, 19, 0, 0, 825), (56, 0, 1, 20, 0, 0, 826), (59, 0, 1, 21, 0, 0, 827), (62, 0, 1, 22, 0, 0, 828), (65, 0, 1, 23, 0, 0, 829), (68, 0, 1, 26, 0, 0, 832), (71, 0, 1, 0, 0, 0, 806)]
def tb_m130 : tb_T := (⟨"CountedActorsModel", "<init>", "(I)V"⟩, prog_13_method_1_code, 3, none, 1, 20, tb_c130, tb_l130, [], 804, 803, 0, 60, 2)
def tb_c131 : List (Nat × am_I × Nat) := [(0, .aload_n 0, 1), (1, .getfield 90, 3), (4, .ifCond .ne (19), 3), (7, .aload_n 0, 1), (8, .getfield 94, 3), (11, .bipush 6, 2), (13, .if_icmp .eq (10), 3), (16, .iload_n 1, 1), (17, .invokestatic 86, 3), (20, .ifCond .ne (5), 3), (23, .iconst (-1), 1), (24, .ireturn, 1), (25, .aload_n 0, 1), (26, .iconst 1, 1), (27, .putfield 90, 3), (30, .aload_n 0, 1), (31, .getfield 25, 3), (34, .aload_n 0, 1), (35, .getfield 94, 3), (38, .iload_n 1, 1), (39, .iastore, 1), (40, .aload_n 0, 1), (41, .getfield 28, 3), (44, .aload_n 0, 1), (45, .getfield 94, 3), (48, .iconst 0, 1), (49, .iastore, 1), (50, .aload_n 0, 1), (51, .dup, 1), (52, .getfield 94, 3), (55, .iconst 1, 1), (56, .iadd, 1), (57, .putfield 94, 3), (60, .aload_n 0, 1), (61, .getfield 94, 3), (64, .iconst 1, 1), (65, .isub, 1), (66, .ireturn, 1)]
def tb_l131 : List tb_K := [(90, 0, 1, 7, 0, 0, 813), (94, 0, 1, 6, 0, 0, 812), (86, 2, 132, 1, 1, 1, 892), (25, 0, 1, 8, 0, 1, 814), (28, 0, 1, 9, 0, 1, 815)]
def tb_m131 : tb_T := (⟨"CountedActorsModel", "begin", "(I)I"⟩, prog_13_method_10_code, 2, (some (.int)), 1, 20, tb_c131, tb_l131, [], 891, 889, 891, 60, 0)
def tb_c132 : List (Nat × am_I × Nat) := [(0, .iload_n 0, 1), (1, .ifCond .eq (13), 3), (4, .iload_n 0, 1), (5, .iconst 3, 1), (6, .if_icmp .eq (8), 3), (9, .iload_n 0, 1), (10, .iconst 5, 1), (11, .if_icmp .ne (7), 3), (14, .iconst 1, 1), (15, .goto (4), 3), (18, .iconst 0, 1), (19, .ireturn, 1)]
def tb_l132 : List tb_K := []
def tb_m132 : tb_T := (⟨"CountedActorsModel", "sendable", "(I)Z"⟩, prog_13_method_2_code, 1, (some (.boolean)), 0, 0, tb_c132, tb_l132, [], 894, 893, 0, 60, 1)
def tb_c133 : List (Nat × am_I × Nat) := [(0, .aload_n 0, 1), (1, .getfield 90, 3), (4, .ifCond .ne (5), 3), (7, .iconst 0, 1), (8, .ireturn, 1), (9, .aload_n 0, 1), (10, .iconst 0, 1), (11, .putfield 90, 3), (14, .aload_n 0, 1), (15, .dup, 1), (16, .getfield 94, 3), (19, .iconst 1, 1), (20, .isub, 1), (21, .putfield 94, 3), (24, .iconst 1, 1), (25, .ireturn, 1)]
def tb_l133 : List tb_K := [(90, 0, 1, 7, 0, 0, 813), (94, 0, 1, 6, 0, 0, 812)]
def tb_m133 : tb_T := (⟨"CountedActorsModel", "drop", "()Z"⟩, prog_13_method_11_code, 1, (some (.boolean)), 0, 0, tb_c133, tb_l133, [], 898, 896, 898, 60, 0)
def tb_c134 : List (Nat × am_I × Nat) := [(0, .aload_n 0, 1), (1, .getfield 90, 3), (4, .ifCond .ne (5), 3), (7, .iconst 0, 1), (8, .ireturn, 1), (9, .aload_n 0, 1), (10, .invokevirtual 97, 3), (13, .aload_n 0, 1), (14, .getfield 100, 3), (17, .ifCond .eq (5), 3), (20, .iconst 0, 1), (21, .ireturn, 1), (22, .aload_n 0, 1), (23, .iconst 0, 1), (24, .putfield 90, 3), (27, .iconst 1, 1), (28, .ireturn, 1)]
def tb_l134 : List tb_K := [(90, 0, 1, 7, 0, 0, 813), (97, 2, 135, 0, 0, 1, 903), (100, 0, 1, 14, 0, 0, 820)]
def tb_m134 : tb_T := (⟨"CountedActorsModel", "end", "()Z"⟩, prog_13_method_12_code, 1, (some (.boolean)), 4, 93, tb_c134, tb_l134, [], 902, 900, 902, 60, 0)
def tb_c135 : List (Nat × am_I × Nat) := [(0, .iconst 0, 1), (1, .istore_n 1, 1), (2, .iload_n 1, 1), (3, .bipush 6, 2), (5, .if_icmp .ge (30), 3), (8, .aload_n 0, 1), (9, .getfield 34, 3), (12, .iload_n 1, 1), (13, .iconst (-1), 1), (14, .iastore, 1), (15, .aload_n 0, 1), (16, .getfield 37, 3), (19, .iload_n 1, 1), (20, .iconst 0, 1), (21, .bastore, 1), (22, .aload_n 0, 1), (23, .getfield 41, 3), (26, .iload_n 1, 1), (27, .iconst 0, 1), (28, .bastore, 1), (29, .iinc 1 (1), 3), (32, .goto (-30), 3), (35, .aload_n 0, 1), (36, .iconst 0, 1), (37, .putfield 100, 3), (40, .aload_n 0, 1), (41, .getfield 94, 3), (44, .iconst 1, 1), (45, .isub, 1), (46, .istore_n 1, 1), (47, .aload_n 0, 1), (48, .getfield 34, 3), (51, .iconst 0, 1), (52, .aload_n 0, 1), (53, .getfield 25, 3), (56, .iload_n 1, 1), (57, .iaload, 1), (58, .iastore, 1), (59, .iconst 0, 1), (60, .istore_n 2, 1), (61, .iload_n 2, 1), (62, .aload_n 0, 1), (63, .getfield 28, 3), (66, .iload_n 1, 1), (67, .iaload, 1), (68, .if_icmp .ge (21), 3), (71, .aload_n 0, 1), (72, .bipush 50, 2), (74, .iload_n 1, 1), (75, .imul, 1), (76, .iconst 5, 1), (77, .iload_n 2, 1), (78, .imul, 1), (79, .iadd, 1), (80, .invokevirtual 103, 3), (83, .iinc 2 (1), 3), (86, .goto (-25), 3), (89, .return_, 1)]
def tb_l135 : List tb_K := [(34, 0, 1, 11, 0, 1, 817), (37, 0, 1, 12, 0, 1, 818), (41, 0, 1, 13, 0, 1, 819), (100, 0, 1, 14, 0, 0, 820), (94, 0, 1, 6, 0, 0, 812), (25, 0, 1, 8, 0, 1, 814), (28, 0, 1, 9, 0, 1, 815), (103, 2, 136, 1, 0, 1, 907)]
def tb_m135 : tb_T := (⟨"CountedActorsModel", "replay", "()V"⟩, prog_13_method_13_code, 3, none, 3, 71, tb_c135, tb_l135, [], 906, 905, 25, 60, 0)
def tb_c136 : List (Nat × am_I × Nat) := [(0, .aload_n 0, 1), (1, .getfield 31, 3), (4, .iload_n 1, 1), (5, .iaload, 1), (6, .istore_n 2, 1), (7, .aload_n 0, 1), (8, .getfield 31, 3), (11, .iload_n 1, 1), (12, .iconst 1, 1), (13, .iadd, 1), (14, .iaload, 1), (15, .istore_n 3, 1), (16, .aload_n 0, 1), (17, .getfield 31, 3), (20, .iload_n 1, 1), (21, .iconst 2, 1), (22, .iadd, 1), (23, .iaload, 1), (24, .istore 4, 2), (26, .aload_n 0, 1), (27, .getfield 31, 3), (30, .iload_n 1, 1), (31, .iconst 3, 1), (32, .iadd, 1), (33, .iaload, 1), (34, .istore 5, 2), (36, .aload_n 0, 1), (37, .getfield 31, 3), (40, .iload_n 1, 1), (41, .iconst 4, 1), (42, .iadd, 1), (43, .iaload, 1), (44, .istore 6, 2), (46, .iload_n 2, 1), (47, .ifCond .ne (13), 3), (50, .aload_n 0, 1), (51, .iload_n 3, 1), (52, .iload 5, 2), (54, .invokevirtual 107, 3), (57, .goto (229), 3), (60, .iload_n 2, 1), (61, .iconst 1, 1), (62, .if_icmp .ne (21), 3), (65, .aload_n 0, 1), (66, .iload_n 3, 1), (67, .aload_n 0, 1), (68, .getfield 34, 3), (71, .iload 4, 2), (73, .iaload, 1), (74, .invokestatic 111, 3), (77, .invokevirtual 107, 3), (80, .goto (206), 3), (83, .iload_n 2, 1), (84, .iconst 2, 1), (85, .if_icmp .ne (30), 3), (88, .aload_n 0, 1), (89, .getfield 34, 3), (92, .iload 4, 2), (94, .iaload, 1), (95, .istore 7, 2), (97, .aload_n 0, 1), (98, .getfield 34, 3), (101, .iload 4, 2), (103, .iconst (-1), 1), (104, .iastore, 1), (105, .aload_n 0, 1), (106, .iload_n 3, 1), (107, .iload 7, 2), (109, .invokevirtual 107, 3), (112, .goto (174), 3), (115, .iload_n 2, 1), (116, .iconst 3, 1), (117, .if_icmp .ne (29), 3), (120, .aload_n 0, 1), (121, .iload 4, 2), (123, .invokevirtual 115, 3), (126, .iload 5, 2), (128, .invokestatic 118, 3), (131, .istore 7, 2), (133, .aload_n 0, 1), (134, .iload_n 3, 1), (135, .iload 7, 2), (137, .invokestatic 111, 3), (140, .invokevirtual 107, 3), (143, .goto (143), 3), (146, .iload_n 2, 1), (147, .iconst 5, 1), (148, .if_icmp .ne (34), 3), (151, .aload_n 0, 1), (152, .iload 4, 2), (154, .invokevirtual 115, 3), (157, .iload 5, 2), (159, .invokestatic 121, 3), (162, .istore 7, 2), (164, .aload_n 0, 1), (165, .getfield 34, 3), (168, .iload 6, 2), (170, .iconst (-1), 1), (171, .iastore, 1), (172, .aload_n 0, 1), (173, .iload_n 3, 1), (174, .iload 7, 2), (176, .invokevirtual 107, 3), (179, .goto (107), 3), (182, .iload_n 2, 1), (183, .bipush 8, 2), (185, .if_icmp .ne (14), 3), (188, .aload_n 0, 1), (189, .getfield 34, 3), (192, .iload 6, 2), (194, .iconst (-1), 1), (195, .iastore, 1), (196, .goto (90), 3), (199, .iload_n 2, 1), (200, .bipush 9, 2), (202, .if_icmp .ne (71), 3), (205, .aload_n 0, 1), (206, .iconst 1, 1), (207, .putfield 100, 3), (210, .iconst 0, 1), (211, .istore 7, 2), (213, .iload 7, 2), (215, .bipush 6, 2), (217, .if_icmp .ge (53), 3), (220, .aload_n 0, 1), (221, .getfield 37, 3), (224, .iload 7, 2), (226, .aload_n 0, 1), (227, .getfield 34, 3), (230, .iload 7, 2), (232, .iaload, 1), (233, .iconst (-1), 1), (234, .if_icmp .eq (20), 3), (237, .aload_n 0, 1), (238, .getfield 34, 3), (241, .iload 7, 2), (243, .iaload, 1), (244, .invokestatic 86, 3), (247, .ifCond .ne (7), 3), (250, .iconst 1, 1), (251, .goto (4), 3), (254, .iconst 0, 1), (255, .bastore, 1), (256, .aload_n 0, 1), (257, .getfield 41, 3), (260, .iload 7, 2), (262, .iconst 0, 1), (263, .bastore, 1), (264, .iinc 7 (1), 3), (267, .goto (-54), 3), (270, .goto (16), 3), (273, .iload_n 2, 1), (274, .bipush 10, 2), (276, .if_icmp .ne (10), 3), (279, .aload_n 0, 1), (280, .iload_n 3, 1), (281, .iload 4, 2), (283, .invokevirtual 124, 3), (286, .return_, 1)]
def tb_l136 : List tb_K := [(31, 0, 1, 10, 0, 1, 816), (107, 2, 137, 2, 0, 1, 911), (34, 0, 1, 11, 0, 1, 817), (111, 2, 138, 1, 1, 1, 915), (115, 2, 139, 1, 0, 1, 918), (118, 2, 140, 2, 1, 1, 922), (121, 2, 142, 2, 1, 1, 933), (100, 0, 1, 14, 0, 0, 820), (37, 0, 1, 12, 0, 1, 818), (86, 2, 132, 1, 1, 1, 892), (41, 0, 1, 13, 0, 1, 819), (124, 2, 143, 2, 0, 1, 938)]
def tb_m136 : tb_T := (⟨"CountedActorsModel", "effect", "(I)V"⟩, prog_13_method_16_code, 8, none, 2, 44, tb_c136, tb_l136, [], 910, 909, 26, 60, 0)
def tb_c137 : List (Nat × am_I × Nat) := [(0, .aload_n 0, 1), (1, .getfield 34, 3), (4, .iload_n 1, 1), (5, .iload_n 2, 1), (6, .iastore, 1), (7, .aload_n 0, 1), (8, .getfield 100, 3), (11, .ifCond .eq (17), 3), (14, .aload_n 0, 1), (15, .getfield 41, 3), (18, .iload_n 1, 1), (19, .iconst 1, 1), (20, .bastore, 1), (21, .aload_n 0, 1), (22, .getfield 37, 3), (25, .iload_n 1, 1), (26, .iconst 0, 1), (27, .bastore, 1), (28, .return_, 1)]
def tb_l137 : List tb_K := [(34, 0, 1, 11, 0, 1, 817), (100, 0, 1, 14, 0, 0, 820), (41, 0, 1, 13, 0, 1, 819), (37, 0, 1, 12, 0, 1, 818)]
def tb_m137 : tb_T := (⟨"CountedActorsModel", "become", "(II)V"⟩, prog_13_method_14_code, 3, none, 0, 0, tb_c137, tb_l137, [], 914, 913, 27, 60, 0)
def tb_c138 : List (Nat × am_I × Nat) := [(0, .iload_n 0, 1), (1, .ifCond .ne (7), 3), (4, .iconst 5, 1), (5, .goto (13), 3), (8, .iload_n 0, 1), (9, .iconst 1, 1), (10, .if_icmp .ne (7), 3), (13, .iconst 4, 1), (14, .goto (4), 3), (17, .iload_n 0, 1), (18, .ireturn, 1)]
def tb_l138 : List tb_K := []
def tb_m138 : tb_T := (⟨"CountedActorsModel", "alias", "(I)I"⟩, prog_13_method_4_code, 1, (some (.int)), 0, 0, tb_c138, tb_l138, [], 917, 916, 0, 60, 1)
def tb_c139 : List (Nat × am_I × Nat) := [(0, .iload_n 1, 1), (1, .bipush 6, 2), (3, .if_icmp .ne (7), 3), (6, .iconst 2, 1), (7, .goto (9), 3), (10, .aload_n 0, 1), (11, .getfield 34, 3), (14, .iload_n 1, 1), (15, .iaload, 1), (16, .ireturn, 1)]
def tb_l139 : List tb_K := [(34, 0, 1, 11, 0, 1, 817)]
def tb_m139 : tb_T := (⟨"CountedActorsModel", "has", "(I)I"⟩, prog_13_method_15_code, 2, (some (.int)), 0, 0, tb_c139, tb_l139, [], 921, 920, 28, 60, 0)
def tb_c140 : List (Nat × am_I × Nat) := [(0, .iload_n 0, 1), (1, .ifCond .ne (8), 3), (4, .ldc 75, 2), (6, .goto (35), 3), (9, .iload_n 0, 1), (10, .iconst 1, 1), (11, .if_icmp .ne (8), 3), (14, .ldc 76, 2), (16, .goto (25), 3), (19, .iload_n 0, 1), (20, .iconst 2, 1), (21, .if_icmp .ne (8), 3), (24, .ldc 77, 2), (26, .goto (15), 3), (29, .iload_n 0, 1), (30, .iconst 3, 1), (31, .if_icmp .ne (8), 3), (34, .ldc 78, 2), (36, .goto (5), 3), (39, .ldc 79, 2), (41, .istore_n 2, 1), (42, .iload_n 2, 1), (43, .iload_n 1, 1), (44, .invokestatic 80, 3), (47, .ireturn, 1)]
def tb_l140 : List tb_K := [(80, 2, 141, 2, 1, 1, 930)]
def tb_m140 : tb_T := (⟨"CountedActorsModel", "view", "(II)I"⟩, prog_13_method_6_code, 3, (some (.int)), 1, 21, tb_c140, tb_l140, [(75, 5584208, 925), (76, 5518400, 926), (77, 5517840, 927), (78, 5452595, 928), (79, 5518405, 929)], 924, 923, 0, 60, 1)
def tb_c141 : List (Nat × am_I × Nat) := [(0, .iload_n 0, 1), (1, .iconst 4, 1), (2, .iload_n 1, 1), (3, .imul, 1), (4, .ishr, 1), (5, .bipush 15, 2), (7, .iand, 1), (8, .ireturn, 1)]
def tb_l141 : List tb_K := []
def tb_m141 : tb_T := (⟨"CountedActorsModel", "pick", "(II)I"⟩, prog_13_method_5_code, 2, (some (.int)), 0, 0, tb_c141, tb_l141, [], 932, 931, 0, 60, 1)
def tb_c142 : List (Nat × am_I × Nat) := [(0, .iload_n 0, 1), (1, .ifCond .ne (8), 3), (4, .ldc 84, 2), (6, .goto (15), 3), (9, .iload_n 0, 1), (10, .iconst 1, 1), (11, .if_icmp .ne (8), 3), (14, .ldc 85, 2), (16, .goto (5), 3), (19, .ldc 77, 2), (21, .istore_n 2, 1), (22, .iload_n 2, 1), (23, .iload_n 1, 1), (24, .invokestatic 80, 3), (27, .ireturn, 1)]
def tb_l142 : List tb_K := [(80, 2, 141, 2, 1, 1, 930)]
def tb_m142 : tb_T := (⟨"CountedActorsModel", "drawn", "(II)I"⟩, prog_13_method_7_code, 3, (some (.int)), 1, 21, tb_c142, tb_l142, [(84, 5584176, 936), (85, 5518384, 937), (77, 5517840, 927)], 935, 934, 0, 60, 1)
def tb_c143 : List (Nat × am_I × Nat) := [(0, .aload_n 0, 1), (1, .getfield 34, 3), (4, .iload_n 2, 1), (5, .iaload, 1), (6, .istore_n 3, 1), (7, .aload_n 0, 1), (8, .getfield 34, 3), (11, .iload_n 2, 1), (12, .iconst (-1), 1), (13, .iastore, 1), (14, .iconst 0, 1), (15, .istore 4, 2), (17, .iload 4, 2), (19, .bipush 6, 2), (21, .if_icmp .ge (43), 3), (24, .aload_n 0, 1), (25, .getfield 41, 3), (28, .iload 4, 2), (30, .baload, 1), (31, .ifCond .eq (11), 3), (34, .aload_n 0, 1), (35, .getfield 34, 3), (38, .iload 4, 2), (40, .iconst (-1), 1), (41, .iastore, 1), (42, .aload_n 0, 1), (43, .getfield 41, 3), (46, .iload 4, 2), (48, .iconst 0, 1), (49, .bastore, 1), (50, .aload_n 0, 1), (51, .getfield 37, 3), (54, .iload 4, 2), (56, .iconst 0, 1), (57, .bastore, 1), (58, .iinc 4 (1), 3), (61, .goto (-44), 3), (64, .aload_n 0, 1), (65, .iconst 0, 1), (66, .putfield 100, 3), (69, .aload_n 0, 1), (70, .getfield 34, 3), (73, .iload_n 1, 1), (74, .iload_n 3, 1), (75, .invokestatic 127, 3), (78, .ifCond .eq (7), 3), (81, .iconst 0, 1), (82, .goto (13), 3), (85, .iload_n 3, 1), (86, .iconst 5, 1), (87, .if_icmp .ne (7), 3), (90, .iconst 5, 1), (91, .goto (4), 3), (94, .iconst 3, 1), (95, .iastore, 1), (96, .return_, 1)]
def tb_l143 : List tb_K := [(34, 0, 1, 11, 0, 1, 817), (41, 0, 1, 13, 0, 1, 819), (37, 0, 1, 12, 0, 1, 818), (100, 0, 1, 14, 0, 0, 820), (127, 2, 144, 1, 1, 1, 942)]
def tb_m143 : tb_T := (⟨"CountedActorsModel", "leave", "(II)V"⟩, prog_13_method_17_code, 5, none, 1, 20, tb_c143, tb_l143, [], 941, 940, 29, 60, 0)
def tb_c144 : List (Nat × am_I × Nat) := [(0, .iload_n 0, 1), (1, .ifCond .eq (13), 3), (4, .iload_n 0, 1), (5, .iconst 1, 1), (6, .if_icmp .eq (8), 3), (9, .iload_n 0, 1), (10, .iconst 2, 1), (11, .if_icmp .ne (7), 3), (14, .iconst 1, 1), (15, .goto (4), 3), (18, .iconst 0, 1), (19, .ireturn, 1)]
def tb_l144 : List tb_K := []
def tb_m144 : tb_T := (⟨"CountedActorsModel", "writable", "(I)Z"⟩, prog_13_method_3_code, 1, (some (.boolean)), 0, 0, tb_c144, tb_l144, [], 944, 943, 0, 60, 1)
def tb_c145 : List (Nat × am_I × Nat) := [(0, .aload_n 0, 1), (1, .iload_n 1, 1), (2, .iload_n 2, 1), (3, .iload_n 3, 1), (4, .iload 4, 2), (6, .iload 5, 2), (8, .invokevirtual 150, 3), (11, .istore 6, 2), (13, .iload 6, 2), (15, .ifCond .eq (6), 3), (18, .iload 6, 2), (20, .ireturn, 1), (21, .bipush 50, 2), (23, .aload_n 0, 1), (24, .getfield 94, 3), (27, .iconst 1, 1), (28, .isub, 1), (29, .imul, 1), (30, .iconst 5, 1), (31, .aload_n 0, 1), (32, .getfield 28, 3), (35, .aload_n 0, 1), (36, .getfield 94, 3), (39, .iconst 1, 1), (40, .isub, 1), (41, .iaload, 1), (42, .imul, 1), (43, .iadd, 1), (44, .istore 7, 2), (46, .aload_n 0, 1), (47, .getfield 31, 3), (50, .iload 7, 2), (52, .iload_n 1, 1), (53, .iastore, 1), (54, .aload_n 0, 1), (55, .getfield 31, 3), (58, .iload 7, 2), (60, .iconst 1, 1), (61, .iadd, 1), (62, .iload_n 2, 1), (63, .iastore, 1), (64, .aload_n 0, 1), (65, .getfield 31, 3), (68, .iload 7, 2), (70, .iconst 2, 1), (71, .iadd, 1), (72, .iload_n 3, 1), (73, .iastore, 1), (74, .aload_n 0, 1), (75, .getfield 31, 3), (78, .iload 7, 2), (80, .iconst 3, 1), (81, .iadd, 1), (82, .iload 4, 2), (84, .iastore, 1), (85, .aload_n 0, 1), (86, .getfield 31, 3), (89, .iload 7, 2), (91, .iconst 4, 1), (92, .iadd, 1), (93, .iload 5, 2), (95, .iastore, 1), (96, .aload_n 0, 1), (97, .getfield 28, 3), (100, .aload_n 0, 1), (101, .getfield 94, 3), (104, .iconst 1, 1), (105, .isub, 1), (106, .dup2, 1), (107, .iaload, 1), (108, .iconst 1, 1), (109, .iadd, 1), (110, .iastore, 1), (111, .iconst 0, 1), (112, .ireturn, 1)]
def tb_l145 : List tb_K := [(150, 2, 146, 5, 0, 1, 949), (94, 0, 1, 6, 0, 0, 812), (28, 0, 1, 9, 0, 1, 815), (31, 0, 1, 10, 0, 1, 816)]
def tb_m145 : tb_T := (⟨"CountedActorsModel", "add", "(IIIII)I"⟩, prog_13_method_23_code, 8, (some (.int)), 5, 121, tb_c145, tb_l145, [], 948, 946, 948, 60, 0)
def tb_c146 : List (Nat × am_I × Nat) := [(0, .aload_n 0, 1), (1, .getfield 90, 3), (4, .ifCond .ne (5), 3), (7, .iconst 1, 1), (8, .ireturn, 1), (9, .aload_n 0, 1), (10, .getfield 28, 3), (13, .aload_n 0, 1), (14, .getfield 94, 3), (17, .iconst 1, 1), (18, .isub, 1), (19, .iaload, 1), (20, .bipush 10, 2), (22, .if_icmp .ne (5), 3), (25, .iconst 2, 1), (26, .ireturn, 1), (27, .aload_n 0, 1), (28, .iload_n 1, 1), (29, .iload_n 2, 1), (30, .iload_n 3, 1), (31, .iload 4, 2), (33, .iload 5, 2), (35, .invokevirtual 140, 3), (38, .ifCond .ne (5), 3), (41, .iconst 3, 1), (42, .ireturn, 1), (43, .aload_n 0, 1), (44, .invokevirtual 97, 3), (47, .iload_n 1, 1), (48, .bipush 9, 2), (50, .if_icmp .ne (10), 3), (53, .aload_n 0, 1), (54, .getfield 100, 3), (57, .ifCond .ne (16), 3), (60, .iload_n 1, 1), (61, .bipush 10, 2), (63, .if_icmp .ne (12), 3), (66, .aload_n 0, 1), (67, .getfield 100, 3), (70, .ifCond .ne (5), 3), (73, .iconst 4, 1), (74, .ireturn, 1), (75, .iload_n 1, 1), (76, .invokestatic 137, 3), (79, .ifCond .eq (13), 3), (82, .iload_n 3, 1), (83, .bipush 6, 2), (85, .if_icmp .ne (7), 3), (88, .iconst 1, 1), (89, .goto (4), 3), (92, .iconst 0, 1), (93, .istore 6, 2), (95, .iload 6, 2), (97, .ifCond .eq (10), 3), (100, .aload_n 0, 1), (101, .getfield 100, 3), (104, .ifCond .ne (41), 3), (107, .iload_n 1, 1), (108, .invokestatic 137, 3), (111, .ifCond .eq (17), 3), (114, .iload 6, 2), (116, .ifCond .ne (12), 3), (119, .aload_n 0, 1), (120, .getfield 37, 3), (123, .iload_n 3, 1), (124, .baload, 1), (125, .ifCond .ne (20), 3), (128, .iload_n 1, 1), (129, .invokestatic 134, 3), (132, .ifCond .eq (15), 3), (135, .aload_n 0, 1), (136, .getfield 37, 3), (139, .iload 5, 2), (141, .baload, 1), (142, .ifCond .eq (5), 3), (145, .iconst 5, 1), (146, .ireturn, 1), (147, .iload_n 1, 1), (148, .invokestatic 137, 3), (151, .ifCond .eq (18), 3), (154, .iload 6, 2), (156, .ifCond .ne (13), 3), (159, .aload_n 0, 1), (160, .getfield 34, 3), (163, .iload_n 3, 1), (164, .iaload, 1), (165, .iconst (-1), 1), (166, .if_icmp .eq (32), 3), (169, .iload_n 1, 1), (170, .invokestatic 134, 3), (173, .ifCond .eq (14), 3), (176, .aload_n 0, 1), (177, .getfield 34, 3), (180, .iload 5, 2), (182, .iaload, 1), (183, .iconst (-1), 1), (184, .if_icmp .eq (14), 3), (187, .iload_n 1, 1), (188, .iconst 5, 1), (189, .if_icmp .ne (12), 3), (192, .iload_n 3, 1), (193, .iload 5, 2), (195, .if_icmp .ne (6), 3), (198, .bipush 6, 2), (200, .ireturn, 1), (201, .iload_n 1, 1), (202, .invokestatic 137, 3), (205, .ifCond .eq (11), 3), (208, .aload_n 0, 1), (209, .iload_n 3, 1), (210, .invokevirtual 115, 3), (213, .goto (4), 3), (216, .iconst (-1), 1), (217, .istore 7, 2), (219, .iload_n 1, 1), (220, .iconst 3, 1), (221, .if_icmp .eq (9), 3), (224, .iload_n 1, 1), (225, .bipush 7, 2), (227, .if_icmp .ne (9), 3), (230, .iload 7, 2), (232, .iconst 5, 1), (233, .if_icmp .eq (22), 3), (236, .iload_n 1, 1), (237, .iconst 4, 1), (238, .if_icmp .lt (20), 3), (241, .iload_n 1, 1), (242, .bipush 6, 2), (244, .if_icmp .gt (14), 3), (247, .iload 7, 2), (249, .invokestatic 127, 3), (252, .ifCond .ne (6), 3), (255, .bipush 7, 2), (257, .ireturn, 1), (258, .iload_n 1, 1), (259, .invokestatic 134, 3), (262, .ifCond .eq (13), 3), (265, .aload_n 0, 1), (266, .getfield 34, 3), (269, .iload 5, 2), (271, .iaload, 1), (272, .goto (4), 3), (275, .iconst (-1), 1), (276, .istore 8, 2), (278, .iload_n 1, 1), (279, .iconst 4, 1), (280, .if_icmp .ne (10), 3), (283, .iload 8, 2), (285, .invokestatic 111, 3), (288, .istore 8, 2), (290, .iload_n 1, 1), (291, .iconst 4, 1), (292, .if_icmp .eq (8), 3), (295, .iload_n 1, 1), (296, .iconst 5, 1), (297, .if_icmp .ne (16), 3), (300, .iload 8, 2), (302, .iload 7, 2), (304, .invokestatic 144, 3), (307, .ifCond .ne (6), 3), (310, .bipush 8, 2), (312, .ireturn, 1), (313, .iload_n 1, 1), (314, .iconst 4, 1), (315, .if_icmp .eq (8), 3), (318, .iload_n 1, 1), (319, .iconst 5, 1), (320, .if_icmp .ne (13), 3), (323, .iload 8, 2), (325, .iload 4, 2), (327, .invokestatic 147, 3), (330, .ifCond .eq (23), 3), (333, .iload_n 1, 1), (334, .bipush 8, 2), (336, .if_icmp .ne (20), 3), (339, .iload 8, 2), (341, .aload_n 0, 1), (342, .getfield 25, 3), (345, .iload_n 3, 1), (346, .iaload, 1), (347, .invokestatic 147, 3), (350, .ifCond .ne (6), 3), (353, .bipush 9, 2), (355, .ireturn, 1), (356, .iconst 0, 1), (357, .ireturn, 1)]
def tb_l146 : List tb_K := [(90, 0, 1, 7, 0, 0, 813), (28, 0, 1, 9, 0, 1, 815), (94, 0, 1, 6, 0, 0, 812), (140, 2, 147, 5, 0, 1, 953), (97, 2, 135, 0, 0, 1, 903), (100, 0, 1, 14, 0, 0, 820), (137, 2, 150, 1, 1, 1, 963), (37, 0, 1, 12, 0, 1, 818), (134, 2, 149, 1, 1, 1, 960), (34, 0, 1, 11, 0, 1, 817), (115, 2, 139, 1, 0, 1, 918), (127, 2, 144, 1, 1, 1, 942), (111, 2, 138, 1, 1, 1, 915), (144, 2, 151, 2, 1, 1, 966), (147, 2, 152, 2, 1, 1, 969), (25, 0, 1, 8, 0, 1, 814)]
def tb_m146 : tb_T := (⟨"CountedActorsModel", "refusal", "(IIIII)I"⟩, prog_13_method_22_code, 9, (some (.int)), 4, 93, tb_c146, tb_l146, [], 952, 951, 30, 60, 0)
def tb_c147 : List (Nat × am_I × Nat) := [(0, .iload_n 1, 1), (1, .bipush 11, 2), (3, .invokestatic 130, 3), (6, .ifCond .ne (5), 3), (9, .iconst 0, 1), (10, .ireturn, 1), (11, .iload_n 1, 1), (12, .iconst 3, 1), (13, .if_icmp .le (14), 3), (16, .iload_n 1, 1), (17, .iconst 5, 1), (18, .if_icmp .eq (9), 3), (21, .iload_n 1, 1), (22, .bipush 10, 2), (24, .if_icmp .ne (7), 3), (27, .iconst 1, 1), (28, .goto (4), 3), (31, .iconst 0, 1), (32, .istore 6, 2), (34, .iload_n 1, 1), (35, .ifCond .eq (13), 3), (38, .iload_n 1, 1), (39, .iconst 3, 1), (40, .if_icmp .lt (12), 3), (43, .iload_n 1, 1), (44, .iconst 5, 1), (45, .if_icmp .gt (7), 3), (48, .iconst 1, 1), (49, .goto (4), 3), (52, .iconst 0, 1), (53, .istore 7, 2), (55, .iload 6, 2), (57, .ifCond .eq (12), 3), (60, .iload_n 2, 1), (61, .bipush 6, 2), (63, .invokestatic 130, 3), (66, .ifCond .eq (35), 3), (69, .iload 7, 2), (71, .ifCond .eq (13), 3), (74, .iload 4, 2), (76, .bipush 6, 2), (78, .invokestatic 130, 3), (81, .ifCond .eq (20), 3), (84, .iload_n 1, 1), (85, .invokestatic 134, 3), (88, .ifCond .eq (15), 3), (91, .iload 5, 2), (93, .bipush 6, 2), (95, .invokestatic 130, 3), (98, .ifCond .ne (5), 3), (101, .iconst 0, 1), (102, .ireturn, 1), (103, .iload_n 1, 1), (104, .invokestatic 137, 3), (107, .ifCond .eq (29), 3), (110, .iload_n 3, 1), (111, .iload_n 1, 1), (112, .iconst 3, 1), (113, .if_icmp .lt (13), 3), (116, .iload_n 1, 1), (117, .iconst 5, 1), (118, .if_icmp .gt (8), 3), (121, .bipush 7, 2), (123, .goto (5), 3), (126, .bipush 6, 2), (128, .invokestatic 130, 3), (131, .ifCond .ne (5), 3), (134, .iconst 0, 1), (135, .ireturn, 1), (136, .iload_n 1, 1), (137, .bipush 8, 2), (139, .if_icmp .ne (22), 3), (142, .iload_n 2, 1), (143, .iconst 4, 1), (144, .invokestatic 130, 3), (147, .ifCond .eq (18), 3), (150, .iload_n 3, 1), (151, .aload_n 0, 1), (152, .getfield 94, 3), (155, .invokestatic 130, 3), (158, .ifCond .eq (7), 3), (161, .iconst 1, 1), (162, .goto (4), 3), (165, .iconst 0, 1), (166, .ireturn, 1)]
def tb_l147 : List tb_K := [(130, 2, 148, 2, 1, 1, 957), (134, 2, 149, 1, 1, 1, 960), (137, 2, 150, 1, 1, 1, 963), (94, 0, 1, 6, 0, 0, 812)]
def tb_m147 : tb_T := (⟨"CountedActorsModel", "named", "(IIIII)Z"⟩, prog_13_method_21_code, 8, (some (.boolean)), 1, 21, tb_c147, tb_l147, [], 956, 955, 31, 60, 0)
def tb_c148 : List (Nat × am_I × Nat) := [(0, .iload_n 0, 1), (1, .ifCond .lt (12), 3), (4, .iload_n 0, 1), (5, .iload_n 1, 1), (6, .if_icmp .ge (7), 3), (9, .iconst 1, 1), (10, .goto (4), 3), (13, .iconst 0, 1), (14, .ireturn, 1)]
def tb_l148 : List tb_K := []
def tb_m148 : tb_T := (⟨"CountedActorsModel", "below", "(II)Z"⟩, prog_13_method_18_code, 2, (some (.boolean)), 0, 0, tb_c148, tb_l148, [], 959, 958, 0, 60, 1)
def tb_c149 : List (Nat × am_I × Nat) := [(0, .iload_n 0, 1), (1, .iconst 4, 1), (2, .if_icmp .eq (14), 3), (5, .iload_n 0, 1), (6, .iconst 5, 1), (7, .if_icmp .eq (9), 3), (10, .iload_n 0, 1), (11, .bipush 8, 2), (13, .if_icmp .ne (7), 3), (16, .iconst 1, 1), (17, .goto (4), 3), (20, .iconst 0, 1), (21, .ireturn, 1)]
def tb_l149 : List tb_K := []
def tb_m149 : tb_T := (⟨"CountedActorsModel", "usesZ", "(I)Z"⟩, prog_13_method_20_code, 1, (some (.boolean)), 0, 0, tb_c149, tb_l149, [], 962, 961, 0, 60, 1)
def tb_c150 : List (Nat × am_I × Nat) := [(0, .iload_n 0, 1), (1, .iconst 1, 1), (2, .if_icmp .lt (9), 3), (5, .iload_n 0, 1), (6, .bipush 7, 2), (8, .if_icmp .le (9), 3), (11, .iload_n 0, 1), (12, .bipush 10, 2), (14, .if_icmp .ne (7), 3), (17, .iconst 1, 1), (18, .goto (4), 3), (21, .iconst 0, 1), (22, .ireturn, 1)]
def tb_l150 : List tb_K := []
def tb_m150 : tb_T := (⟨"CountedActorsModel", "usesY", "(I)Z"⟩, prog_13_method_19_code, 1, (some (.boolean)), 0, 0, tb_c150, tb_l150, [], 965, 964, 0, 60, 1)
def tb_c151 : List (Nat × am_I × Nat) := [(0, .iload_n 1, 1), (1, .iconst 2, 1), (2, .if_icmp .eq (20), 3), (5, .iload_n 0, 1), (6, .invokestatic 86, 3), (9, .ifCond .ne (13), 3), (12, .iload_n 1, 1), (13, .iconst 1, 1), (14, .if_icmp .ne (12), 3), (17, .iload_n 0, 1), (18, .iconst 1, 1), (19, .if_icmp .ne (7), 3), (22, .iconst 1, 1), (23, .goto (4), 3), (26, .iconst 0, 1), (27, .ireturn, 1)]
def tb_l151 : List tb_K := [(86, 2, 132, 1, 1, 1, 892)]
def tb_m151 : tb_T := (⟨"CountedActorsModel", "safe", "(II)Z"⟩, prog_13_method_9_code, 2, (some (.boolean)), 1, 20, tb_c151, tb_l151, [], 968, 967, 0, 60, 1)
def tb_c152 : List (Nat × am_I × Nat) := [(0, .iload_n 0, 1), (1, .ifCond .ne (5), 3), (4, .iconst 1, 1), (5, .ireturn, 1), (6, .iload_n 0, 1), (7, .iconst 1, 1), (8, .if_icmp .ne (13), 3), (11, .iload_n 1, 1), (12, .ifCond .eq (7), 3), (15, .iconst 1, 1), (16, .goto (4), 3), (19, .iconst 0, 1), (20, .ireturn, 1), (21, .iload_n 0, 1), (22, .iconst 2, 1), (23, .if_icmp .ne (24), 3), (26, .iload_n 1, 1), (27, .iconst 2, 1), (28, .if_icmp .eq (13), 3), (31, .iload_n 1, 1), (32, .iconst 4, 1), (33, .if_icmp .eq (8), 3), (36, .iload_n 1, 1), (37, .iconst 5, 1), (38, .if_icmp .ne (7), 3), (41, .iconst 1, 1), (42, .goto (4), 3), (45, .iconst 0, 1), (46, .ireturn, 1), (47, .iload_n 0, 1), (48, .iconst 3, 1), (49, .if_icmp .ne (24), 3), (52, .iload_n 1, 1), (53, .iconst 3, 1), (54, .if_icmp .eq (13), 3), (57, .iload_n 1, 1), (58, .iconst 4, 1), (59, .if_icmp .eq (8), 3), (62, .iload_n 1, 1), (63, .iconst 5, 1), (64, .if_icmp .ne (7), 3), (67, .iconst 1, 1), (68, .goto (4), 3), (71, .iconst 0, 1), (72, .ireturn, 1), (73, .iload_n 0, 1), (74, .iconst 4, 1), (75, .if_icmp .ne (21), 3), (78, .iload_n 1, 1), (79, .iconst 4, 1), (80, .if_icmp .eq (8), 3), (83, .iload_n 1, 1), (84, .iconst 5, 1), (85, .if_icmp .ne (7), 3), (88, .iconst 1, 1), (89, .goto (17), 3), (92, .iconst 0, 1), (93, .goto (13), 3), (96, .iload_n 1, 1), (97, .iconst 5, 1), (98, .if_icmp .ne (7), 3), (101, .iconst 1, 1), (102, .goto (4), 3), (105, .iconst 0, 1), (106, .ireturn, 1)]
def tb_l152 : List tb_K := []
def tb_m152 : tb_T := (⟨"CountedActorsModel", "suits", "(II)Z"⟩, prog_13_method_8_code, 2, (some (.boolean)), 0, 0, tb_c152, tb_l152, [], 971, 970, 0, 60, 1)
def tb_c153 : List (Nat × am_I × Nat) := [(0, .aload_n 0, 1), (1, .getfield 90, 3), (4, .ifCond .eq (12), 3), (7, .iload_n 1, 1), (8, .bipush 6, 2), (10, .invokestatic 130, 3), (13, .ifCond .ne (5), 3), (16, .iconst (-1), 1), (17, .ireturn, 1), (18, .aload_n 0, 1), (19, .invokevirtual 97, 3), (22, .aload_n 0, 1), (23, .getfield 37, 3), (26, .iload_n 1, 1), (27, .baload, 1), (28, .ifCond .eq (8), 3), (31, .bipush (-2), 2), (33, .goto (9), 3), (36, .aload_n 0, 1), (37, .getfield 34, 3), (40, .iload_n 1, 1), (41, .iaload, 1), (42, .ireturn, 1)]
def tb_l153 : List tb_K := [(90, 0, 1, 7, 0, 0, 813), (130, 2, 148, 2, 1, 1, 957), (97, 2, 135, 0, 0, 1, 903), (37, 0, 1, 12, 0, 1, 818), (34, 0, 1, 11, 0, 1, 817)]
def tb_m153 : tb_T := (⟨"CountedActorsModel", "holds", "(I)I"⟩, prog_13_method_24_code, 2, (some (.int)), 4, 93, tb_c153, tb_l153, [], 975, 973, 975, 60, 0)
def tb_c154 : List (Nat × am_I × Nat) := [(0, .iload_n 1, 1), (1, .aload_n 0, 1), (2, .getfield 71, 3), (5, .invokestatic 130, 3), (8, .ifCond .eq (39), 3), (11, .iload_n 2, 1), (12, .aload_n 0, 1), (13, .getfield 90, 3), (16, .ifCond .eq (12), 3), (19, .aload_n 0, 1), (20, .getfield 94, 3), (23, .iconst 1, 1), (24, .isub, 1), (25, .goto (7), 3), (28, .aload_n 0, 1), (29, .getfield 94, 3), (32, .invokestatic 130, 3), (35, .ifCond .eq (12), 3), (38, .aload_n 0, 1), (39, .getfield 157, 3), (42, .bipush 20, 2), (44, .if_icmp .ne (5), 3), (47, .iconst 0, 1), (48, .ireturn, 1), (49, .aload_n 0, 1), (50, .iconst 0, 1), (51, .iload_n 1, 1), (52, .iload_n 2, 1), (53, .iconst (-1), 1), (54, .invokevirtual 160, 3), (57, .iconst 1, 1), (58, .ireturn, 1)]
def tb_l154 : List tb_K := [(71, 0, 1, 0, 0, 0, 806), (130, 2, 148, 2, 1, 1, 957), (90, 0, 1, 7, 0, 0, 813), (94, 0, 1, 6, 0, 0, 812), (157, 0, 1, 15, 0, 0, 821), (160, 2, 155, 4, 0, 1, 980)]
def tb_m154 : tb_T := (⟨"CountedActorsModel", "post", "(II)Z"⟩, prog_13_method_29_code, 3, (some (.boolean)), 1, 24, tb_c154, tb_l154, [], 979, 977, 979, 60, 0)
def tb_c155 : List (Nat × am_I × Nat) := [(0, .aload_n 0, 1), (1, .getfield 44, 3), (4, .aload_n 0, 1), (5, .getfield 157, 3), (8, .iload_n 1, 1), (9, .iastore, 1), (10, .aload_n 0, 1), (11, .getfield 47, 3), (14, .aload_n 0, 1), (15, .getfield 157, 3), (18, .iload_n 2, 1), (19, .iastore, 1), (20, .aload_n 0, 1), (21, .getfield 50, 3), (24, .aload_n 0, 1), (25, .getfield 157, 3), (28, .iload_n 3, 1), (29, .iastore, 1), (30, .aload_n 0, 1), (31, .getfield 53, 3), (34, .aload_n 0, 1), (35, .getfield 157, 3), (38, .iload 4, 2), (40, .iastore, 1), (41, .aload_n 0, 1), (42, .dup, 1), (43, .getfield 157, 3), (46, .iconst 1, 1), (47, .iadd, 1), (48, .putfield 157, 3), (51, .return_, 1)]
def tb_l155 : List tb_K := [(44, 0, 1, 16, 0, 1, 822), (157, 0, 1, 15, 0, 0, 821), (47, 0, 1, 17, 0, 1, 823), (50, 0, 1, 18, 0, 1, 824), (53, 0, 1, 19, 0, 1, 825)]
def tb_m155 : tb_T := (⟨"CountedActorsModel", "say", "(IIII)V"⟩, prog_13_method_28_code, 5, none, 0, 0, tb_c155, tb_l155, [], 983, 982, 32, 60, 0)
def tb_c156 : List (Nat × am_I × Nat) := [(0, .iconst 0, 1), (1, .istore_n 2, 1), (2, .iload_n 2, 1), (3, .aload_n 0, 1), (4, .getfield 157, 3), (7, .if_icmp .ge (19), 3), (10, .aload_n 0, 1), (11, .getfield 47, 3), (14, .iload_n 2, 1), (15, .iaload, 1), (16, .iload_n 1, 1), (17, .if_icmp .eq (9), 3), (20, .iinc 2 (1), 3), (23, .goto (-21), 3), (26, .iload_n 2, 1), (27, .aload_n 0, 1), (28, .getfield 157, 3), (31, .if_icmp .ne (5), 3), (34, .iconst (-1), 1), (35, .ireturn, 1), (36, .aload_n 0, 1), (37, .getfield 44, 3), (40, .iload_n 2, 1), (41, .iaload, 1), (42, .istore_n 3, 1), (43, .aload_n 0, 1), (44, .getfield 50, 3), (47, .iload_n 2, 1), (48, .iaload, 1), (49, .istore 4, 2), (51, .aload_n 0, 1), (52, .getfield 53, 3), (55, .iload_n 2, 1), (56, .iaload, 1), (57, .istore 5, 2), (59, .aload_n 0, 1), (60, .iload_n 2, 1), (61, .invokevirtual 176, 3), (64, .iload_n 3, 1), (65, .iconst 1, 1), (66, .if_icmp .ne (20), 3), (69, .aload_n 0, 1), (70, .getfield 19, 3), (73, .bipush 16, 2), (75, .iload_n 1, 1), (76, .imul, 1), (77, .iload 4, 2), (79, .iadd, 1), (80, .dup2, 1), (81, .iaload, 1), (82, .iload 5, 2), (84, .iadd, 1), (85, .iastore, 1), (86, .iload_n 3, 1), (87, .iconst 2, 1), (88, .if_icmp .ne (20), 3), (91, .aload_n 0, 1), (92, .getfield 19, 3), (95, .bipush 16, 2), (97, .iload_n 1, 1), (98, .imul, 1), (99, .iload 4, 2), (101, .iadd, 1), (102, .dup2, 1), (103, .iaload, 1), (104, .iload 5, 2), (106, .isub, 1), (107, .iastore, 1), (108, .iload_n 3, 1), (109, .ifCond .eq (5), 3), (112, .iload_n 3, 1), (113, .ireturn, 1), (114, .aload_n 0, 1), (115, .invokevirtual 164, 3), (118, .aload_n 0, 1), (119, .iload 5, 2), (121, .aload_n 0, 1), (122, .getfield 25, 3), (125, .iload 4, 2), (127, .iaload, 1), (128, .invokevirtual 154, 3), (131, .aload_n 0, 1), (132, .invokevirtual 167, 3), (135, .iconst 0, 1), (136, .istore 6, 2), (138, .iload 6, 2), (140, .bipush 16, 2), (142, .if_icmp .ge (50), 3), (145, .aload_n 0, 1), (146, .getfield 56, 3), (149, .iload 6, 2), (151, .baload, 1), (152, .ifCond .eq (34), 3), (155, .aload_n 0, 1), (156, .getfield 19, 3), (159, .bipush 16, 2), (161, .iload_n 1, 1), (162, .imul, 1), (163, .iload 6, 2), (165, .iadd, 1), (166, .dup2, 1), (167, .iaload, 1), (168, .aload_n 0, 1), (169, .getfield 7, 3), (172, .iload 6, 2), (174, .iaload, 1), (175, .iload_n 1, 1), (176, .if_icmp .ne (7), 3), (179, .iconst (-1), 1), (180, .goto (4), 3), (183, .iconst 1, 1), (184, .iadd, 1), (185, .iastore, 1), (186, .iinc 6 (1), 3), (189, .goto (-51), 3), (192, .iconst 0, 1), (193, .istore 6, 2), (195, .iload 6, 2), (197, .bipush 6, 2), (199, .if_icmp .ge (17), 3), (202, .aload_n 0, 1), (203, .getfield 65, 3), (206, .iload 6, 2), (208, .iconst (-1), 1), (209, .iastore, 1), (210, .iinc 6 (1), 3), (213, .goto (-18), 3), (216, .aload_n 0, 1), (217, .getfield 65, 3), (220, .iconst 0, 1), (221, .iload 5, 2), (223, .iastore, 1), (224, .iconst 0, 1), (225, .istore 6, 2), (227, .iload 6, 2), (229, .aload_n 0, 1), (230, .getfield 28, 3), (233, .iload 4, 2), (235, .iaload, 1), (236, .if_icmp .ge (24), 3), (239, .aload_n 0, 1), (240, .iload_n 1, 1), (241, .bipush 50, 2), (243, .iload 4, 2), (245, .imul, 1), (246, .iconst 5, 1), (247, .iload 6, 2), (249, .imul, 1), (250, .iadd, 1), (251, .invokevirtual 179, 3), (254, .iinc 6 (1), 3), (257, .goto (-30), 3), (260, .iconst 0, 1), (261, .ireturn, 1)]
def tb_l156 : List tb_K := [(157, 0, 1, 15, 0, 0, 821), (47, 0, 1, 17, 0, 1, 823), (44, 0, 1, 16, 0, 1, 822), (50, 0, 1, 18, 0, 1, 824), (53, 0, 1, 19, 0, 1, 825), (176, 2, 157, 1, 0, 1, 988), (19, 0, 1, 4, 0, 1, 810), (164, 2, 158, 0, 0, 1, 992), (25, 0, 1, 8, 0, 1, 814), (154, 2, 159, 2, 0, 1, 996), (167, 2, 160, 0, 0, 1, 1000), (56, 0, 1, 20, 0, 1, 826), (7, 0, 1, 1, 0, 1, 807), (65, 0, 1, 23, 0, 1, 829), (28, 0, 1, 9, 0, 1, 815), (179, 2, 161, 2, 0, 1, 1004)]
def tb_m156 : tb_T := (⟨"CountedActorsModel", "step", "(I)I"⟩, prog_13_method_33_code, 7, (some (.int)), 4, 101, tb_c156, tb_l156, [], 987, 985, 987, 60, 0)
def tb_c157 : List (Nat × am_I × Nat) := [(0, .iload_n 1, 1), (1, .istore_n 2, 1), (2, .iload_n 2, 1), (3, .iconst 1, 1), (4, .iadd, 1), (5, .aload_n 0, 1), (6, .getfield 157, 3), (9, .if_icmp .ge (65), 3), (12, .aload_n 0, 1), (13, .getfield 44, 3), (16, .iload_n 2, 1), (17, .aload_n 0, 1), (18, .getfield 44, 3), (21, .iload_n 2, 1), (22, .iconst 1, 1), (23, .iadd, 1), (24, .iaload, 1), (25, .iastore, 1), (26, .aload_n 0, 1), (27, .getfield 47, 3), (30, .iload_n 2, 1), (31, .aload_n 0, 1), (32, .getfield 47, 3), (35, .iload_n 2, 1), (36, .iconst 1, 1), (37, .iadd, 1), (38, .iaload, 1), (39, .iastore, 1), (40, .aload_n 0, 1), (41, .getfield 50, 3), (44, .iload_n 2, 1), (45, .aload_n 0, 1), (46, .getfield 50, 3), (49, .iload_n 2, 1), (50, .iconst 1, 1), (51, .iadd, 1), (52, .iaload, 1), (53, .iastore, 1), (54, .aload_n 0, 1), (55, .getfield 53, 3), (58, .iload_n 2, 1), (59, .aload_n 0, 1), (60, .getfield 53, 3), (63, .iload_n 2, 1), (64, .iconst 1, 1), (65, .iadd, 1), (66, .iaload, 1), (67, .iastore, 1), (68, .iinc 2 (1), 3), (71, .goto (-69), 3), (74, .aload_n 0, 1), (75, .dup, 1), (76, .getfield 157, 3), (79, .iconst 1, 1), (80, .isub, 1), (81, .putfield 157, 3), (84, .return_, 1)]
def tb_l157 : List tb_K := [(157, 0, 1, 15, 0, 0, 821), (44, 0, 1, 16, 0, 1, 822), (47, 0, 1, 17, 0, 1, 823), (50, 0, 1, 18, 0, 1, 824), (53, 0, 1, 19, 0, 1, 825)]
def tb_m157 : tb_T := (⟨"CountedActorsModel", "forget", "(I)V"⟩, prog_13_method_32_code, 3, none, 0, 0, tb_c157, tb_l157, [], 991, 990, 33, 60, 0)
def tb_c158 : List (Nat × am_I × Nat) := [(0, .iconst 0, 1), (1, .istore_n 1, 1), (2, .iload_n 1, 1), (3, .bipush 16, 2), (5, .if_icmp .ge (23), 3), (8, .aload_n 0, 1), (9, .getfield 56, 3), (12, .iload_n 1, 1), (13, .iconst 0, 1), (14, .bastore, 1), (15, .aload_n 0, 1), (16, .getfield 59, 3), (19, .iload_n 1, 1), (20, .iconst 0, 1), (21, .bastore, 1), (22, .iinc 1 (1), 3), (25, .goto (-23), 3), (28, .return_, 1)]
def tb_l158 : List tb_K := [(56, 0, 1, 20, 0, 1, 826), (59, 0, 1, 21, 0, 1, 827)]
def tb_m158 : tb_T := (⟨"CountedActorsModel", "clear", "()V"⟩, prog_13_method_25_code, 2, none, 0, 0, tb_c158, tb_l158, [], 995, 994, 34, 60, 0)
def tb_c159 : List (Nat × am_I × Nat) := [(0, .iload_n 1, 1), (1, .iconst (-1), 1), (2, .if_icmp .ne (4), 3), (5, .return_, 1), (6, .aload_n 0, 1), (7, .getfield 56, 3), (10, .iload_n 1, 1), (11, .iconst 1, 1), (12, .bastore, 1), (13, .aload_n 0, 1), (14, .getfield 59, 3), (17, .iload_n 1, 1), (18, .aload_n 0, 1), (19, .getfield 59, 3), (22, .iload_n 1, 1), (23, .baload, 1), (24, .ifCond .ne (8), 3), (27, .iload_n 2, 1), (28, .iconst 5, 1), (29, .if_icmp .eq (7), 3), (32, .iconst 1, 1), (33, .goto (4), 3), (36, .iconst 0, 1), (37, .bastore, 1), (38, .return_, 1)]
def tb_l159 : List tb_K := [(56, 0, 1, 20, 0, 1, 826), (59, 0, 1, 21, 0, 1, 827)]
def tb_m159 : tb_T := (⟨"CountedActorsModel", "root", "(II)V"⟩, prog_13_method_26_code, 3, none, 0, 0, tb_c159, tb_l159, [], 999, 998, 35, 60, 0)
def tb_c160 : List (Nat × am_I × Nat) := [(0, .iconst 0, 1), (1, .istore_n 1, 1), (2, .iload_n 1, 1), (3, .bipush 17, 2), (5, .if_icmp .ge (49), 3), (8, .iconst 0, 1), (9, .istore_n 2, 1), (10, .iload_n 2, 1), (11, .bipush 96, 2), (13, .if_icmp .ge (35), 3), (16, .aload_n 0, 1), (17, .getfield 59, 3), (20, .iload_n 2, 1), (21, .bipush 6, 2), (23, .idiv, 1), (24, .baload, 1), (25, .ifCond .eq (17), 3), (28, .aload_n 0, 1), (29, .aload_n 0, 1), (30, .getfield 16, 3), (33, .iload_n 2, 1), (34, .iaload, 1), (35, .iload_n 2, 1), (36, .bipush 6, 2), (38, .irem, 1), (39, .invokevirtual 154, 3), (42, .iinc 2 (1), 3), (45, .goto (-35), 3), (48, .iinc 1 (1), 3), (51, .goto (-49), 3), (54, .return_, 1)]
def tb_l160 : List tb_K := [(59, 0, 1, 21, 0, 1, 827), (16, 0, 1, 3, 0, 1, 809), (154, 2, 159, 2, 0, 1, 996)]
def tb_m160 : tb_T := (⟨"CountedActorsModel", "spread", "()V"⟩, prog_13_method_27_code, 3, none, 1, 22, tb_c160, tb_l160, [], 1003, 1002, 36, 60, 0)
def tb_c161 : List (Nat × am_I × Nat) := [(0, .aload_n 0, 1), (1, .getfield 31, 3), (4, .iload_n 2, 1), (5, .iaload, 1), (6, .istore_n 3, 1), (7, .aload_n 0, 1), (8, .getfield 31, 3), (11, .iload_n 2, 1), (12, .iconst 1, 1), (13, .iadd, 1), (14, .iaload, 1), (15, .istore 4, 2), (17, .aload_n 0, 1), (18, .getfield 31, 3), (21, .iload_n 2, 1), (22, .iconst 2, 1), (23, .iadd, 1), (24, .iaload, 1), (25, .istore 5, 2), (27, .aload_n 0, 1), (28, .getfield 31, 3), (31, .iload_n 2, 1), (32, .iconst 3, 1), (33, .iadd, 1), (34, .iaload, 1), (35, .istore 6, 2), (37, .aload_n 0, 1), (38, .getfield 31, 3), (41, .iload_n 2, 1), (42, .iconst 4, 1), (43, .iadd, 1), (44, .iaload, 1), (45, .istore 7, 2), (47, .iload_n 3, 1), (48, .ifCond .ne (18), 3), (51, .aload_n 0, 1), (52, .getfield 65, 3), (55, .iload 4, 2), (57, .aload_n 0, 1), (58, .iload_n 1, 1), (59, .invokevirtual 182, 3), (62, .iastore, 1), (63, .goto (230), 3), (66, .iload_n 3, 1), (67, .iconst 1, 1), (68, .if_icmp .eq (14), 3), (71, .iload_n 3, 1), (72, .iconst 2, 1), (73, .if_icmp .eq (9), 3), (76, .iload_n 3, 1), (77, .bipush 10, 2), (79, .if_icmp .ne (20), 3), (82, .aload_n 0, 1), (83, .getfield 65, 3), (86, .iload 4, 2), (88, .aload_n 0, 1), (89, .getfield 65, 3), (92, .iload 5, 2), (94, .iaload, 1), (95, .iastore, 1), (96, .goto (197), 3), (99, .iload_n 3, 1), (100, .iconst 3, 1), (101, .if_icmp .ne (22), 3), (104, .aload_n 0, 1), (105, .getfield 65, 3), (108, .iload 4, 2), (110, .aload_n 0, 1), (111, .iload_n 1, 1), (112, .iload 5, 2), (114, .iload 6, 2), (116, .invokevirtual 185, 3), (119, .iastore, 1), (120, .goto (173), 3), (123, .iload_n 3, 1), (124, .iconst 4, 1), (125, .if_icmp .ne (22), 3), (128, .aload_n 0, 1), (129, .iload_n 1, 1), (130, .iload 5, 2), (132, .iload 6, 2), (134, .aload_n 0, 1), (135, .getfield 65, 3), (138, .iload 7, 2), (140, .iaload, 1), (141, .invokevirtual 189, 3), (144, .goto (149), 3), (147, .iload_n 3, 1), (148, .iconst 5, 1), (149, .if_icmp .ne (42), 3), (152, .aload_n 0, 1), (153, .iload_n 1, 1), (154, .iload 5, 2), (156, .iload 6, 2), (158, .invokevirtual 185, 3), (161, .istore 8, 2), (163, .aload_n 0, 1), (164, .iload_n 1, 1), (165, .iload 5, 2), (167, .iload 6, 2), (169, .aload_n 0, 1), (170, .getfield 65, 3), (173, .iload 7, 2), (175, .iaload, 1), (176, .invokevirtual 189, 3), (179, .aload_n 0, 1), (180, .getfield 65, 3), (183, .iload 4, 2), (185, .iload 8, 2), (187, .iastore, 1), (188, .goto (105), 3), (191, .iload_n 3, 1), (192, .bipush 6, 2), (194, .if_icmp .ne (34), 3), (197, .aload_n 0, 1), (198, .getfield 65, 3), (201, .iload 5, 2), (203, .iaload, 1), (204, .iconst (-1), 1), (205, .if_icmp .eq (88), 3), (208, .aload_n 0, 1), (209, .getfield 13, 3), (212, .aload_n 0, 1), (213, .getfield 65, 3), (216, .iload 5, 2), (218, .iaload, 1), (219, .dup2, 1), (220, .iaload, 1), (221, .iload 7, 2), (223, .iadd, 1), (224, .iastore, 1), (225, .goto (68), 3), (228, .iload_n 3, 1), (229, .bipush 7, 2), (231, .if_icmp .ne (33), 3), (234, .aload_n 0, 1), (235, .getfield 65, 3), (238, .iload 5, 2), (240, .iaload, 1), (241, .iconst (-1), 1), (242, .if_icmp .eq (51), 3), (245, .aload_n 0, 1), (246, .aload_n 0, 1), (247, .getfield 13, 3), (250, .aload_n 0, 1), (251, .getfield 65, 3), (254, .iload 5, 2), (256, .iaload, 1), (257, .iaload, 1), (258, .invokevirtual 192, 3), (261, .goto (32), 3), (264, .iload_n 3, 1), (265, .bipush 8, 2), (267, .if_icmp .ne (26), 3), (270, .aload_n 0, 1), (271, .iload_n 1, 1), (272, .iload_n 1, 1), (273, .iload 4, 2), (275, .iadd, 1), (276, .aload_n 0, 1), (277, .getfield 71, 3), (280, .irem, 1), (281, .iload 5, 2), (283, .aload_n 0, 1), (284, .getfield 65, 3), (287, .iload 7, 2), (289, .iaload, 1), (290, .invokevirtual 195, 3), (293, .return_, 1)]
def tb_l161 : List tb_K := [(31, 0, 1, 10, 0, 1, 816), (65, 0, 1, 23, 0, 1, 829), (182, 2, 162, 1, 0, 1, 1008), (185, 2, 163, 3, 0, 1, 1012), (189, 2, 164, 4, 0, 1, 1016), (13, 0, 1, 2, 0, 1, 808), (192, 2, 165, 1, 0, 1, 1020), (71, 0, 1, 0, 0, 0, 806), (195, 2, 166, 4, 0, 1, 1024)]
def tb_m161 : tb_T := (⟨"CountedActorsModel", "act", "(II)V"⟩, prog_13_method_37_code, 9, none, 3, 73, tb_c161, tb_l161, [], 1007, 1006, 37, 60, 0)
def tb_c162 : List (Nat × am_I × Nat) := [(0, .iconst 0, 1), (1, .istore_n 2, 1), (2, .iload_n 2, 1), (3, .bipush 16, 2), (5, .if_icmp .ge (19), 3), (8, .aload_n 0, 1), (9, .getfield 7, 3), (12, .iload_n 2, 1), (13, .iaload, 1), (14, .iconst (-1), 1), (15, .if_icmp .eq (9), 3), (18, .iinc 2 (1), 3), (21, .goto (-19), 3), (24, .iload_n 2, 1), (25, .bipush 16, 2), (27, .if_icmp .ne (15), 3), (30, .aload_n 0, 1), (31, .dup, 1), (32, .getfield 170, 3), (35, .iconst 1, 1), (36, .iadd, 1), (37, .putfield 170, 3), (40, .iconst (-1), 1), (41, .ireturn, 1), (42, .aload_n 0, 1), (43, .getfield 7, 3), (46, .iload_n 2, 1), (47, .iload_n 1, 1), (48, .iastore, 1), (49, .aload_n 0, 1), (50, .getfield 13, 3), (53, .iload_n 2, 1), (54, .iconst 0, 1), (55, .iastore, 1), (56, .iconst 0, 1), (57, .istore_n 3, 1), (58, .iload_n 3, 1), (59, .bipush 6, 2), (61, .if_icmp .ge (21), 3), (64, .aload_n 0, 1), (65, .getfield 16, 3), (68, .bipush 6, 2), (70, .iload_n 2, 1), (71, .imul, 1), (72, .iload_n 3, 1), (73, .iadd, 1), (74, .iconst (-1), 1), (75, .iastore, 1), (76, .iinc 3 (1), 3), (79, .goto (-21), 3), (82, .iconst 0, 1), (83, .istore_n 3, 1), (84, .iload_n 3, 1), (85, .iconst 4, 1), (86, .if_icmp .ge (21), 3), (89, .aload_n 0, 1), (90, .getfield 19, 3), (93, .bipush 16, 2), (95, .iload_n 3, 1), (96, .imul, 1), (97, .iload_n 2, 1), (98, .iadd, 1), (99, .iconst 0, 1), (100, .iastore, 1), (101, .iinc 3 (1), 3), (104, .goto (-20), 3), (107, .iload_n 2, 1), (108, .ireturn, 1)]
def tb_l162 : List tb_K := [(7, 0, 1, 1, 0, 1, 807), (170, 0, 1, 24, 0, 0, 830), (13, 0, 1, 2, 0, 1, 808), (16, 0, 1, 3, 0, 1, 809), (19, 0, 1, 4, 0, 1, 810)]
def tb_m162 : tb_T := (⟨"CountedActorsModel", "made", "(I)I"⟩, prog_13_method_34_code, 4, (some (.int)), 0, 0, tb_c162, tb_l162, [], 1011, 1010, 38, 60, 0)
def tb_c163 : List (Nat × am_I × Nat) := [(0, .iload_n 2, 1), (1, .bipush 6, 2), (3, .if_icmp .ne (15), 3), (6, .aload_n 0, 1), (7, .getfield 22, 3), (10, .bipush 6, 2), (12, .iload_n 1, 1), (13, .imul, 1), (14, .iload_n 3, 1), (15, .iadd, 1), (16, .iaload, 1), (17, .ireturn, 1), (18, .aload_n 0, 1), (19, .getfield 65, 3), (22, .iload_n 2, 1), (23, .iaload, 1), (24, .iconst (-1), 1), (25, .if_icmp .ne (7), 3), (28, .iconst (-1), 1), (29, .goto (19), 3), (32, .aload_n 0, 1), (33, .getfield 16, 3), (36, .bipush 6, 2), (38, .aload_n 0, 1), (39, .getfield 65, 3), (42, .iload_n 2, 1), (43, .iaload, 1), (44, .imul, 1), (45, .iload_n 3, 1), (46, .iadd, 1), (47, .iaload, 1), (48, .ireturn, 1)]
def tb_l163 : List tb_K := [(22, 0, 1, 5, 0, 1, 811), (65, 0, 1, 23, 0, 1, 829), (16, 0, 1, 3, 0, 1, 809)]
def tb_m163 : tb_T := (⟨"CountedActorsModel", "read", "(III)I"⟩, prog_13_method_35_code, 4, (some (.int)), 0, 0, tb_c163, tb_l163, [], 1015, 1014, 39, 60, 0)
def tb_c164 : List (Nat × am_I × Nat) := [(0, .iload_n 2, 1), (1, .bipush 6, 2), (3, .if_icmp .ne (19), 3), (6, .aload_n 0, 1), (7, .getfield 22, 3), (10, .bipush 6, 2), (12, .iload_n 1, 1), (13, .imul, 1), (14, .iload_n 3, 1), (15, .iadd, 1), (16, .iload 4, 2), (18, .iastore, 1), (19, .goto (31), 3), (22, .aload_n 0, 1), (23, .getfield 65, 3), (26, .iload_n 2, 1), (27, .iaload, 1), (28, .iconst (-1), 1), (29, .if_icmp .eq (21), 3), (32, .aload_n 0, 1), (33, .getfield 16, 3), (36, .bipush 6, 2), (38, .aload_n 0, 1), (39, .getfield 65, 3), (42, .iload_n 2, 1), (43, .iaload, 1), (44, .imul, 1), (45, .iload_n 3, 1), (46, .iadd, 1), (47, .iload 4, 2), (49, .iastore, 1), (50, .return_, 1)]
def tb_l164 : List tb_K := [(22, 0, 1, 5, 0, 1, 811), (65, 0, 1, 23, 0, 1, 829), (16, 0, 1, 3, 0, 1, 809)]
def tb_m164 : tb_T := (⟨"CountedActorsModel", "write", "(IIII)V"⟩, prog_13_method_36_code, 5, none, 0, 0, tb_c164, tb_l164, [], 1019, 1018, 40, 60, 0)
def tb_c165 : List (Nat × am_I × Nat) := [(0, .bipush 15, 2), (2, .istore_n 2, 1), (3, .iload_n 2, 1), (4, .ifCond .le (23), 3), (7, .aload_n 0, 1), (8, .getfield 68, 3), (11, .iload_n 2, 1), (12, .aload_n 0, 1), (13, .getfield 68, 3), (16, .iload_n 2, 1), (17, .iconst 1, 1), (18, .isub, 1), (19, .iaload, 1), (20, .iastore, 1), (21, .iinc 2 (-1), 3), (24, .goto (-21), 3), (27, .aload_n 0, 1), (28, .getfield 68, 3), (31, .iconst 0, 1), (32, .iload_n 1, 1), (33, .iastore, 1), (34, .aload_n 0, 1), (35, .dup, 1), (36, .getfield 198, 3), (39, .iconst 1, 1), (40, .iadd, 1), (41, .putfield 198, 3), (44, .return_, 1)]
def tb_l165 : List tb_K := [(68, 0, 1, 26, 0, 1, 832), (198, 0, 1, 25, 0, 0, 831)]
def tb_m165 : tb_T := (⟨"CountedActorsModel", "show", "(I)V"⟩, prog_13_method_38_code, 3, none, 0, 0, tb_c165, tb_l165, [], 1023, 1022, 41, 60, 0)
def tb_c166 : List (Nat × am_I × Nat) := [(0, .aload_n 0, 1), (1, .invokevirtual 164, 3), (4, .aload_n 0, 1), (5, .iload 4, 2), (7, .aload_n 0, 1), (8, .getfield 25, 3), (11, .iload_n 3, 1), (12, .iaload, 1), (13, .invokevirtual 154, 3), (16, .aload_n 0, 1), (17, .invokevirtual 167, 3), (20, .iconst 0, 1), (21, .istore 5, 2), (23, .iconst 0, 1), (24, .istore 6, 2), (26, .iload 6, 2), (28, .bipush 16, 2), (30, .if_icmp .ge (49), 3), (33, .aload_n 0, 1), (34, .getfield 56, 3), (37, .iload 6, 2), (39, .baload, 1), (40, .ifCond .eq (33), 3), (43, .aload_n 0, 1), (44, .getfield 7, 3), (47, .iload 6, 2), (49, .iaload, 1), (50, .iload_n 1, 1), (51, .if_icmp .eq (22), 3), (54, .aload_n 0, 1), (55, .getfield 19, 3), (58, .bipush 16, 2), (60, .iload_n 1, 1), (61, .imul, 1), (62, .iload 6, 2), (64, .iadd, 1), (65, .iaload, 1), (66, .iconst 2, 1), (67, .if_icmp .ge (6), 3), (70, .iinc 5 (1), 3), (73, .iinc 6 (1), 3), (76, .goto (-50), 3), (79, .aload_n 0, 1), (80, .getfield 157, 3), (83, .iload 5, 2), (85, .iadd, 1), (86, .iconst 1, 1), (87, .iadd, 1), (88, .bipush 20, 2), (90, .if_icmp .le (14), 3), (93, .aload_n 0, 1), (94, .dup, 1), (95, .getfield 170, 3), (98, .iconst 1, 1), (99, .iadd, 1), (100, .putfield 170, 3), (103, .return_, 1), (104, .iconst 0, 1), (105, .istore 6, 2), (107, .iload 6, 2), (109, .bipush 16, 2), (111, .if_icmp .ge (26), 3), (114, .aload_n 0, 1), (115, .getfield 56, 3), (118, .iload 6, 2), (120, .baload, 1), (121, .ifCond .eq (10), 3), (124, .aload_n 0, 1), (125, .iload_n 1, 1), (126, .iload 6, 2), (128, .invokevirtual 173, 3), (131, .iinc 6 (1), 3), (134, .goto (-27), 3), (137, .aload_n 0, 1), (138, .iconst 0, 1), (139, .iload_n 2, 1), (140, .iload_n 3, 1), (141, .iload 4, 2), (143, .invokevirtual 160, 3), (146, .return_, 1)]
def tb_l166 : List tb_K := [(164, 2, 158, 0, 0, 1, 992), (25, 0, 1, 8, 0, 1, 814), (154, 2, 159, 2, 0, 1, 996), (167, 2, 160, 0, 0, 1, 1000), (56, 0, 1, 20, 0, 1, 826), (7, 0, 1, 1, 0, 1, 807), (19, 0, 1, 4, 0, 1, 810), (157, 0, 1, 15, 0, 0, 821), (170, 0, 1, 24, 0, 0, 830), (173, 2, 167, 2, 0, 1, 1028), (160, 2, 155, 4, 0, 1, 980)]
def tb_m166 : tb_T := (⟨"CountedActorsModel", "send", "(IIII)V"⟩, prog_13_method_30_code, 7, none, 2, 47, tb_c166, tb_l166, [], 1027, 1026, 42, 60, 0)
def tb_c167 : List (Nat × am_I × Nat) := [(0, .bipush 16, 2), (2, .iload_n 1, 1), (3, .imul, 1), (4, .iload_n 2, 1), (5, .iadd, 1), (6, .istore_n 3, 1), (7, .aload_n 0, 1), (8, .getfield 7, 3), (11, .iload_n 2, 1), (12, .iaload, 1), (13, .iload_n 1, 1), (14, .if_icmp .ne (16), 3), (17, .aload_n 0, 1), (18, .getfield 19, 3), (21, .iload_n 3, 1), (22, .dup2, 1), (23, .iaload, 1), (24, .iconst 1, 1), (25, .iadd, 1), (26, .iastore, 1), (27, .goto (51), 3), (30, .aload_n 0, 1), (31, .getfield 19, 3), (34, .iload_n 3, 1), (35, .iaload, 1), (36, .iconst 2, 1), (37, .if_icmp .lt (16), 3), (40, .aload_n 0, 1), (41, .getfield 19, 3), (44, .iload_n 3, 1), (45, .dup2, 1), (46, .iaload, 1), (47, .iconst 1, 1), (48, .isub, 1), (49, .iastore, 1), (50, .goto (28), 3), (53, .aload_n 0, 1), (54, .iconst 1, 1), (55, .aload_n 0, 1), (56, .getfield 7, 3), (59, .iload_n 2, 1), (60, .iaload, 1), (61, .iload_n 2, 1), (62, .bipush 8, 2), (64, .invokevirtual 160, 3), (67, .aload_n 0, 1), (68, .getfield 19, 3), (71, .iload_n 3, 1), (72, .dup2, 1), (73, .iaload, 1), (74, .bipush 7, 2), (76, .iadd, 1), (77, .iastore, 1), (78, .return_, 1)]
def tb_l167 : List tb_K := [(7, 0, 1, 1, 0, 1, 807), (19, 0, 1, 4, 0, 1, 810), (160, 2, 155, 4, 0, 1, 980)]
def tb_m167 : tb_T := (⟨"CountedActorsModel", "pay", "(II)V"⟩, prog_13_method_31_code, 4, none, 1, 24, tb_c167, tb_l167, [], 1031, 1030, 43, 60, 0)
def tb_c168 : List (Nat × am_I × Nat) := [(0, .iload_n 1, 1), (1, .aload_n 0, 1), (2, .getfield 71, 3), (5, .invokestatic 130, 3), (8, .ifCond .ne (5), 3), (11, .iconst (-1), 1), (12, .ireturn, 1), (13, .aload_n 0, 1), (14, .invokevirtual 164, 3), (17, .aload_n 0, 1), (18, .iload_n 1, 1), (19, .invokevirtual 201, 3), (22, .aload_n 0, 1), (23, .invokevirtual 167, 3), (26, .iconst 0, 1), (27, .istore_n 2, 1), (28, .iconst 0, 1), (29, .istore_n 3, 1), (30, .iload_n 3, 1), (31, .bipush 16, 2), (33, .if_icmp .ge (50), 3), (36, .aload_n 0, 1), (37, .getfield 7, 3), (40, .iload_n 3, 1), (41, .iaload, 1), (42, .iload_n 1, 1), (43, .if_icmp .ne (34), 3), (46, .aload_n 0, 1), (47, .getfield 56, 3), (50, .iload_n 3, 1), (51, .baload, 1), (52, .ifCond .ne (25), 3), (55, .aload_n 0, 1), (56, .getfield 19, 3), (59, .bipush 16, 2), (61, .iload_n 1, 1), (62, .imul, 1), (63, .iload_n 3, 1), (64, .iadd, 1), (65, .iaload, 1), (66, .ifCond .ne (11), 3), (69, .aload_n 0, 1), (70, .iload_n 3, 1), (71, .invokevirtual 204, 3), (74, .iinc 2 (1), 3), (77, .iinc 3 (1), 3), (80, .goto (-50), 3), (83, .iconst 0, 1), (84, .istore_n 3, 1), (85, .iload_n 3, 1), (86, .bipush 16, 2), (88, .if_icmp .ge (91), 3), (91, .aload_n 0, 1), (92, .getfield 19, 3), (95, .bipush 16, 2), (97, .iload_n 1, 1), (98, .imul, 1), (99, .iload_n 3, 1), (100, .iadd, 1), (101, .iaload, 1), (102, .istore 4, 2), (104, .aload_n 0, 1), (105, .getfield 7, 3), (108, .iload_n 3, 1), (109, .iaload, 1), (110, .iconst (-1), 1), (111, .if_icmp .eq (62), 3), (114, .aload_n 0, 1), (115, .getfield 7, 3), (118, .iload_n 3, 1), (119, .iaload, 1), (120, .iload_n 1, 1), (121, .if_icmp .eq (52), 3), (124, .aload_n 0, 1), (125, .getfield 56, 3), (128, .iload_n 3, 1), (129, .baload, 1), (130, .ifCond .ne (43), 3), (133, .iload 4, 2), (135, .ifCond .eq (38), 3), (138, .aload_n 0, 1), (139, .getfield 157, 3), (142, .bipush 20, 2), (144, .if_icmp .ge (29), 3), (147, .aload_n 0, 1), (148, .iconst 2, 1), (149, .aload_n 0, 1), (150, .getfield 7, 3), (153, .iload_n 3, 1), (154, .iaload, 1), (155, .iload_n 3, 1), (156, .iload 4, 2), (158, .invokevirtual 160, 3), (161, .aload_n 0, 1), (162, .getfield 19, 3), (165, .bipush 16, 2), (167, .iload_n 1, 1), (168, .imul, 1), (169, .iload_n 3, 1), (170, .iadd, 1), (171, .iconst 0, 1), (172, .iastore, 1), (173, .iinc 3 (1), 3), (176, .goto (-91), 3), (179, .iload_n 2, 1), (180, .ireturn, 1)]
def tb_l168 : List tb_K := [(71, 0, 1, 0, 0, 0, 806), (130, 2, 148, 2, 1, 1, 957), (164, 2, 158, 0, 0, 1, 992), (201, 2, 169, 1, 0, 1, 1036), (167, 2, 160, 0, 0, 1, 1000), (7, 0, 1, 1, 0, 1, 807), (56, 0, 1, 20, 0, 1, 826), (19, 0, 1, 4, 0, 1, 810), (204, 2, 170, 1, 0, 1, 1040), (157, 0, 1, 15, 0, 0, 821), (160, 2, 155, 4, 0, 1, 980)]
def tb_m168 : tb_T := (⟨"CountedActorsModel", "collect", "(I)I"⟩, prog_13_method_40_code, 5, (some (.int)), 2, 44, tb_c168, tb_l168, [], 1035, 1033, 1035, 60, 0)
def tb_c169 : List (Nat × am_I × Nat) := [(0, .iconst 0, 1), (1, .istore_n 2, 1), (2, .iload_n 2, 1), (3, .bipush 6, 2), (5, .if_icmp .ge (25), 3), (8, .aload_n 0, 1), (9, .aload_n 0, 1), (10, .getfield 22, 3), (13, .bipush 6, 2), (15, .iload_n 1, 1), (16, .imul, 1), (17, .iload_n 2, 1), (18, .iadd, 1), (19, .iaload, 1), (20, .iload_n 2, 1), (21, .invokevirtual 154, 3), (24, .iinc 2 (1), 3), (27, .goto (-25), 3), (30, .return_, 1)]
def tb_l169 : List tb_K := [(22, 0, 1, 5, 0, 1, 811), (154, 2, 159, 2, 0, 1, 996)]
def tb_m169 : tb_T := (⟨"CountedActorsModel", "ownRoots", "(I)V"⟩, prog_13_method_39_code, 3, none, 1, 22, tb_c169, tb_l169, [], 1039, 1038, 44, 60, 0)
def tb_c170 : List (Nat × am_I × Nat) := [(0, .aload_n 0, 1), (1, .getfield 7, 3), (4, .iload_n 1, 1), (5, .iconst (-1), 1), (6, .iastore, 1), (7, .iconst 0, 1), (8, .istore_n 2, 1), (9, .iload_n 2, 1), (10, .bipush 96, 2), (12, .if_icmp .ge (34), 3), (15, .aload_n 0, 1), (16, .getfield 16, 3), (19, .iload_n 2, 1), (20, .iaload, 1), (21, .iload_n 1, 1), (22, .if_icmp .eq (11), 3), (25, .iload_n 2, 1), (26, .bipush 6, 2), (28, .idiv, 1), (29, .iload_n 1, 1), (30, .if_icmp .ne (10), 3), (33, .aload_n 0, 1), (34, .getfield 16, 3), (37, .iload_n 2, 1), (38, .iconst (-1), 1), (39, .iastore, 1), (40, .iinc 2 (1), 3), (43, .goto (-34), 3), (46, .return_, 1)]
def tb_l170 : List tb_K := [(7, 0, 1, 1, 0, 1, 807), (16, 0, 1, 3, 0, 1, 809)]
def tb_m170 : tb_T := (⟨"CountedActorsModel", "remove", "(I)V"⟩, prog_13_method_41_code, 3, none, 0, 0, tb_c170, tb_l170, [], 1043, 1042, 45, 60, 0)
def tb_c171 : List (Nat × am_I × Nat) := [(0, .iload_n 1, 1), (1, .aload_n 0, 1), (2, .getfield 71, 3), (5, .invokestatic 130, 3), (8, .ifCond .ne (5), 3), (11, .iconst (-1), 1), (12, .ireturn, 1), (13, .iconst 0, 1), (14, .istore_n 2, 1), (15, .iconst 0, 1), (16, .istore_n 3, 1), (17, .iload_n 3, 1), (18, .aload_n 0, 1), (19, .getfield 157, 3), (22, .if_icmp .ge (22), 3), (25, .aload_n 0, 1), (26, .getfield 47, 3), (29, .iload_n 3, 1), (30, .iaload, 1), (31, .iload_n 1, 1), (32, .if_icmp .ne (6), 3), (35, .iinc 2 (1), 3), (38, .iinc 3 (1), 3), (41, .goto (-24), 3), (44, .iload_n 2, 1), (45, .ireturn, 1)]
def tb_l171 : List tb_K := [(71, 0, 1, 0, 0, 0, 806), (130, 2, 148, 2, 1, 1, 957), (157, 0, 1, 15, 0, 0, 821), (47, 0, 1, 17, 0, 1, 823)]
def tb_m171 : tb_T := (⟨"CountedActorsModel", "waiting", "(I)I"⟩, prog_13_method_42_code, 4, (some (.int)), 1, 21, tb_c171, tb_l171, [], 1047, 1045, 1047, 60, 0)
def tb_c172 : List (Nat × am_I × Nat) := [(0, .aload_n 0, 1), (1, .iload_n 1, 1), (2, .invokevirtual 207, 3), (5, .ifCond .eq (12), 3), (8, .aload_n 0, 1), (9, .getfield 7, 3), (12, .iload_n 1, 1), (13, .iaload, 1), (14, .goto (4), 3), (17, .iconst (-1), 1), (18, .ireturn, 1)]
def tb_l172 : List tb_K := [(207, 2, 173, 1, 0, 1, 1052), (7, 0, 1, 1, 0, 1, 807)]
def tb_m172 : tb_T := (⟨"CountedActorsModel", "owner", "(I)I"⟩, prog_13_method_44_code, 2, (some (.int)), 2, 42, tb_c172, tb_l172, [], 1051, 1049, 1051, 60, 0)
def tb_c173 : List (Nat × am_I × Nat) := [(0, .iload_n 1, 1), (1, .bipush 16, 2), (3, .invokestatic 130, 3), (6, .ifCond .eq (17), 3), (9, .aload_n 0, 1), (10, .getfield 7, 3), (13, .iload_n 1, 1), (14, .iaload, 1), (15, .iconst (-1), 1), (16, .if_icmp .eq (7), 3), (19, .iconst 1, 1), (20, .goto (4), 3), (23, .iconst 0, 1), (24, .ireturn, 1)]
def tb_l173 : List tb_K := [(130, 2, 148, 2, 1, 1, 957), (7, 0, 1, 1, 0, 1, 807)]
def tb_m173 : tb_T := (⟨"CountedActorsModel", "there", "(I)Z"⟩, prog_13_method_43_code, 2, (some (.boolean)), 1, 21, tb_c173, tb_l173, [], 1055, 1054, 46, 60, 0)
def tb_c174 : List (Nat × am_I × Nat) := [(0, .aload_n 0, 1), (1, .iload_n 1, 1), (2, .invokevirtual 207, 3), (5, .ifCond .eq (12), 3), (8, .aload_n 0, 1), (9, .getfield 13, 3), (12, .iload_n 1, 1), (13, .iaload, 1), (14, .goto (4), 3), (17, .iconst 0, 1), (18, .ireturn, 1)]
def tb_l174 : List tb_K := [(207, 2, 173, 1, 0, 1, 1052), (13, 0, 1, 2, 0, 1, 808)]
def tb_m174 : tb_T := (⟨"CountedActorsModel", "cell", "(I)I"⟩, prog_13_method_45_code, 2, (some (.int)), 2, 42, tb_c174, tb_l174, [], 1059, 1057, 1059, 60, 0)
def tb_c175 : List (Nat × am_I × Nat) := [(0, .iload_n 1, 1), (1, .aload_n 0, 1), (2, .getfield 71, 3), (5, .invokestatic 130, 3), (8, .ifCond .eq (25), 3), (11, .aload_n 0, 1), (12, .iload_n 2, 1), (13, .invokevirtual 207, 3), (16, .ifCond .eq (17), 3), (19, .aload_n 0, 1), (20, .getfield 19, 3), (23, .bipush 16, 2), (25, .iload_n 1, 1), (26, .imul, 1), (27, .iload_n 2, 1), (28, .iadd, 1), (29, .iaload, 1), (30, .goto (4), 3), (33, .iconst (-1), 1), (34, .ireturn, 1)]
def tb_l175 : List tb_K := [(71, 0, 1, 0, 0, 0, 806), (130, 2, 148, 2, 1, 1, 957), (207, 2, 173, 1, 0, 1, 1052), (19, 0, 1, 4, 0, 1, 810)]
def tb_m175 : tb_T := (⟨"CountedActorsModel", "count", "(II)I"⟩, prog_13_method_46_code, 3, (some (.int)), 2, 42, tb_c175, tb_l175, [], 1063, 1061, 1063, 60, 0)
def tb_c176 : List (Nat × am_I × Nat) := [(0, .iload_n 1, 1), (1, .aload_n 0, 1), (2, .getfield 71, 3), (5, .invokestatic 130, 3), (8, .ifCond .eq (26), 3), (11, .iload_n 2, 1), (12, .bipush 6, 2), (14, .invokestatic 130, 3), (17, .ifCond .eq (17), 3), (20, .aload_n 0, 1), (21, .getfield 22, 3), (24, .bipush 6, 2), (26, .iload_n 1, 1), (27, .imul, 1), (28, .iload_n 2, 1), (29, .iadd, 1), (30, .iaload, 1), (31, .goto (4), 3), (34, .iconst (-1), 1), (35, .ireturn, 1)]
def tb_l176 : List tb_K := [(71, 0, 1, 0, 0, 0, 806), (130, 2, 148, 2, 1, 1, 957), (22, 0, 1, 5, 0, 1, 811)]
def tb_m176 : tb_T := (⟨"CountedActorsModel", "field", "(II)I"⟩, prog_13_method_47_code, 3, (some (.int)), 1, 21, tb_c176, tb_l176, [], 1067, 1065, 1067, 60, 0)
def tb_c177 : List (Nat × am_I × Nat) := [(0, .aload_n 0, 1), (1, .iload_n 1, 1), (2, .invokevirtual 207, 3), (5, .ifCond .eq (26), 3), (8, .iload_n 2, 1), (9, .bipush 6, 2), (11, .invokestatic 130, 3), (14, .ifCond .eq (17), 3), (17, .aload_n 0, 1), (18, .getfield 16, 3), (21, .bipush 6, 2), (23, .iload_n 1, 1), (24, .imul, 1), (25, .iload_n 2, 1), (26, .iadd, 1), (27, .iaload, 1), (28, .goto (4), 3), (31, .iconst (-1), 1), (32, .ireturn, 1)]
def tb_l177 : List tb_K := [(207, 2, 173, 1, 0, 1, 1052), (130, 2, 148, 2, 1, 1, 957), (16, 0, 1, 3, 0, 1, 809)]
def tb_m177 : tb_T := (⟨"CountedActorsModel", "inner", "(II)I"⟩, prog_13_method_48_code, 3, (some (.int)), 2, 42, tb_c177, tb_l177, [], 1071, 1069, 1071, 60, 0)
def tb_c178 : List (Nat × am_I × Nat) := [(0, .iload_n 1, 1), (1, .aload_n 0, 1), (2, .getfield 71, 3), (5, .invokestatic 130, 3), (8, .ifCond .eq (11), 3), (11, .aload_n 0, 1), (12, .iload_n 2, 1), (13, .invokevirtual 207, 3), (16, .ifCond .ne (5), 3), (19, .iconst 0, 1), (20, .ireturn, 1), (21, .iconst 0, 1), (22, .istore_n 3, 1), (23, .iload_n 3, 1), (24, .bipush 96, 2), (26, .if_icmp .ge (16), 3), (29, .aload_n 0, 1), (30, .getfield 62, 3), (33, .iload_n 3, 1), (34, .iconst 0, 1), (35, .bastore, 1), (36, .iinc 3 (1), 3), (39, .goto (-16), 3), (42, .iconst 0, 1), (43, .istore_n 3, 1), (44, .iload_n 3, 1), (45, .bipush 6, 2), (47, .if_icmp .ge (46), 3), (50, .aload_n 0, 1), (51, .getfield 22, 3), (54, .bipush 6, 2), (56, .iload_n 1, 1), (57, .imul, 1), (58, .iload_n 3, 1), (59, .iadd, 1), (60, .iaload, 1), (61, .iconst (-1), 1), (62, .if_icmp .eq (25), 3), (65, .aload_n 0, 1), (66, .getfield 62, 3), (69, .bipush 6, 2), (71, .aload_n 0, 1), (72, .getfield 22, 3), (75, .bipush 6, 2), (77, .iload_n 1, 1), (78, .imul, 1), (79, .iload_n 3, 1), (80, .iadd, 1), (81, .iaload, 1), (82, .imul, 1), (83, .iload_n 3, 1), (84, .iadd, 1), (85, .iconst 1, 1), (86, .bastore, 1), (87, .iinc 3 (1), 3), (90, .goto (-46), 3), (93, .iconst 0, 1), (94, .istore_n 3, 1), (95, .iload_n 3, 1), (96, .aload_n 0, 1), (97, .getfield 157, 3), (100, .if_icmp .ge (65), 3), (103, .aload_n 0, 1), (104, .getfield 44, 3), (107, .iload_n 3, 1), (108, .iaload, 1), (109, .ifCond .ne (50), 3), (112, .aload_n 0, 1), (113, .getfield 47, 3), (116, .iload_n 3, 1), (117, .iaload, 1), (118, .iload_n 1, 1), (119, .if_icmp .ne (40), 3), (122, .aload_n 0, 1), (123, .getfield 53, 3), (126, .iload_n 3, 1), (127, .iaload, 1), (128, .iconst (-1), 1), (129, .if_icmp .eq (30), 3), (132, .aload_n 0, 1), (133, .getfield 62, 3), (136, .bipush 6, 2), (138, .aload_n 0, 1), (139, .getfield 53, 3), (142, .iload_n 3, 1), (143, .iaload, 1), (144, .imul, 1), (145, .aload_n 0, 1), (146, .getfield 25, 3), (149, .aload_n 0, 1), (150, .getfield 50, 3), (153, .iload_n 3, 1), (154, .iaload, 1), (155, .iaload, 1), (156, .iadd, 1), (157, .iconst 1, 1), (158, .bastore, 1), (159, .iinc 3 (1), 3), (162, .goto (-67), 3), (165, .iconst 0, 1), (166, .istore_n 3, 1), (167, .iload_n 3, 1), (168, .bipush 96, 2), (170, .if_icmp .ge (13), 3), (173, .aload_n 0, 1), (174, .invokevirtual 210, 3), (177, .iinc 3 (1), 3), (180, .goto (-13), 3), (183, .aload_n 0, 1), (184, .getfield 62, 3), (187, .bipush 6, 2), (189, .iload_n 2, 1), (190, .imul, 1), (191, .iconst 5, 1), (192, .iadd, 1), (193, .baload, 1), (194, .istore_n 3, 1), (195, .iconst 0, 1), (196, .istore 4, 2), (198, .iconst 0, 1), (199, .istore 5, 2), (201, .iconst 0, 1), (202, .istore 6, 2), (204, .iload 6, 2), (206, .iconst 5, 1), (207, .if_icmp .ge (71), 3), (210, .iload 4, 2), (212, .ifCond .ne (18), 3), (215, .aload_n 0, 1), (216, .getfield 62, 3), (219, .bipush 6, 2), (221, .iload_n 2, 1), (222, .imul, 1), (223, .iload 6, 2), (225, .iadd, 1), (226, .baload, 1), (227, .ifCond .eq (7), 3), (230, .iconst 1, 1), (231, .goto (4), 3), (234, .iconst 0, 1), (235, .istore 4, 2), (237, .iload 5, 2), (239, .ifCond .ne (26), 3), (242, .aload_n 0, 1), (243, .getfield 62, 3), (246, .bipush 6, 2), (248, .iload_n 2, 1), (249, .imul, 1), (250, .iload 6, 2), (252, .iadd, 1), (253, .baload, 1), (254, .ifCond .eq (15), 3), (257, .iload 6, 2), (259, .invokestatic 127, 3), (262, .ifCond .eq (7), 3), (265, .iconst 1, 1), (266, .goto (4), 3), (269, .iconst 0, 1), (270, .istore 5, 2), (272, .iinc 6 (1), 3), (275, .goto (-71), 3), (278, .iload_n 3, 1), (279, .ifCond .ne (8), 3), (282, .iload 4, 2), (284, .ifCond .eq (7), 3), (287, .iconst 1, 1), (288, .goto (4), 3), (291, .iconst 0, 1), (292, .iload 4, 2), (294, .ifCond .eq (7), 3), (297, .iconst 2, 1), (298, .goto (4), 3), (301, .iconst 0, 1), (302, .iadd, 1), (303, .iload 5, 2), (305, .ifCond .eq (7), 3), (308, .iconst 4, 1), (309, .goto (4), 3), (312, .iconst 0, 1), (313, .iadd, 1), (314, .ireturn, 1)]
def tb_l178 : List tb_K := [(71, 0, 1, 0, 0, 0, 806), (130, 2, 148, 2, 1, 1, 957), (207, 2, 173, 1, 0, 1, 1052), (62, 0, 1, 22, 0, 1, 828), (22, 0, 1, 5, 0, 1, 811), (157, 0, 1, 15, 0, 0, 821), (44, 0, 1, 16, 0, 1, 822), (47, 0, 1, 17, 0, 1, 823), (53, 0, 1, 19, 0, 1, 825), (25, 0, 1, 8, 0, 1, 814), (50, 0, 1, 18, 0, 1, 824), (210, 2, 179, 0, 0, 1, 1076), (127, 2, 144, 1, 1, 1, 942)]
def tb_m178 : tb_T := (⟨"CountedActorsModel", "rights", "(II)I"⟩, prog_13_method_50_code, 7, (some (.int)), 3, 67, tb_c178, tb_l178, [], 1075, 1073, 1075, 60, 0)
def tb_c179 : List (Nat × am_I × Nat) := [(0, .iconst 0, 1), (1, .istore_n 1, 1), (2, .iload_n 1, 1), (3, .bipush 96, 2), (5, .if_icmp .ge (80), 3), (8, .iload_n 1, 1), (9, .bipush 6, 2), (11, .irem, 1), (12, .istore_n 2, 1), (13, .aload_n 0, 1), (14, .getfield 62, 3), (17, .iload_n 1, 1), (18, .baload, 1), (19, .ifCond .eq (60), 3), (22, .iload_n 2, 1), (23, .iconst 5, 1), (24, .if_icmp .ne (6), 3), (27, .goto (52), 3), (30, .iconst 0, 1), (31, .istore_n 3, 1), (32, .iload_n 3, 1), (33, .bipush 6, 2), (35, .if_icmp .ge (44), 3), (38, .aload_n 0, 1), (39, .getfield 16, 3), (42, .iload_n 1, 1), (43, .iload_n 2, 1), (44, .isub, 1), (45, .iload_n 3, 1), (46, .iadd, 1), (47, .iaload, 1), (48, .istore 4, 2), (50, .iload 4, 2), (52, .iconst (-1), 1), (53, .if_icmp .eq (20), 3), (56, .aload_n 0, 1), (57, .getfield 62, 3), (60, .bipush 6, 2), (62, .iload 4, 2), (64, .imul, 1), (65, .iload_n 2, 1), (66, .iload_n 3, 1), (67, .invokestatic 118, 3), (70, .iadd, 1), (71, .iconst 1, 1), (72, .bastore, 1), (73, .iinc 3 (1), 3), (76, .goto (-44), 3), (79, .iinc 1 (1), 3), (82, .goto (-80), 3), (85, .return_, 1)]
def tb_l179 : List tb_K := [(62, 0, 1, 22, 0, 1, 828), (16, 0, 1, 3, 0, 1, 809), (118, 2, 140, 2, 1, 1, 922)]
def tb_m179 : tb_T := (⟨"CountedActorsModel", "look", "()V"⟩, prog_13_method_49_code, 5, none, 2, 43, tb_c179, tb_l179, [], 1079, 1078, 47, 60, 0)
def tb_c180 : List (Nat × am_I × Nat) := [(0, .iload_n 1, 1), (1, .iconst (-1), 1), (2, .if_icmp .ne (8), 3), (5, .aload_n 0, 1), (6, .getfield 198, 3), (9, .ireturn, 1), (10, .iload_n 1, 1), (11, .bipush 16, 2), (13, .invokestatic 130, 3), (16, .ifCond .eq (20), 3), (19, .iload_n 1, 1), (20, .aload_n 0, 1), (21, .getfield 198, 3), (24, .if_icmp .ge (12), 3), (27, .aload_n 0, 1), (28, .getfield 68, 3), (31, .iload_n 1, 1), (32, .iaload, 1), (33, .goto (4), 3), (36, .iconst 0, 1), (37, .ireturn, 1)]
def tb_l180 : List tb_K := [(198, 0, 1, 25, 0, 0, 831), (130, 2, 148, 2, 1, 1, 957), (68, 0, 1, 26, 0, 1, 832)]
def tb_m180 : tb_T := (⟨"CountedActorsModel", "shown", "(I)I"⟩, prog_13_method_51_code, 2, (some (.int)), 1, 21, tb_c180, tb_l180, [], 1083, 1081, 1083, 60, 0)
def tb_c181 : List (Nat × am_I × Nat) := [(0, .aload_n 0, 1), (1, .invokevirtual 164, 3), (4, .iconst 0, 1), (5, .istore_n 1, 1), (6, .iload_n 1, 1), (7, .aload_n 0, 1), (8, .getfield 71, 3), (11, .if_icmp .ge (14), 3), (14, .aload_n 0, 1), (15, .iload_n 1, 1), (16, .invokevirtual 201, 3), (19, .iinc 1 (1), 3), (22, .goto (-16), 3), (25, .iconst 0, 1), (26, .istore_n 1, 1), (27, .iload_n 1, 1), (28, .aload_n 0, 1), (29, .getfield 157, 3), (32, .if_icmp .ge (39), 3), (35, .aload_n 0, 1), (36, .getfield 44, 3), (39, .iload_n 1, 1), (40, .iaload, 1), (41, .ifCond .ne (24), 3), (44, .aload_n 0, 1), (45, .aload_n 0, 1), (46, .getfield 53, 3), (49, .iload_n 1, 1), (50, .iaload, 1), (51, .aload_n 0, 1), (52, .getfield 25, 3), (55, .aload_n 0, 1), (56, .getfield 50, 3), (59, .iload_n 1, 1), (60, .iaload, 1), (61, .iaload, 1), (62, .invokevirtual 154, 3), (65, .iinc 1 (1), 3), (68, .goto (-41), 3), (71, .aload_n 0, 1), (72, .invokevirtual 167, 3), (75, .iconst 0, 1), (76, .istore_n 1, 1), (77, .iconst 0, 1), (78, .istore_n 2, 1), (79, .iload_n 2, 1), (80, .bipush 16, 2), (82, .if_icmp .ge (31), 3), (85, .aload_n 0, 1), (86, .getfield 7, 3), (89, .iload_n 2, 1), (90, .iaload, 1), (91, .iconst (-1), 1), (92, .if_icmp .eq (15), 3), (95, .aload_n 0, 1), (96, .getfield 56, 3), (99, .iload_n 2, 1), (100, .baload, 1), (101, .ifCond .ne (6), 3), (104, .iinc 1 (1), 3), (107, .iinc 2 (1), 3), (110, .goto (-31), 3), (113, .iload_n 1, 1), (114, .ireturn, 1)]
def tb_l181 : List tb_K := [(164, 2, 158, 0, 0, 1, 992), (71, 0, 1, 0, 0, 0, 806), (201, 2, 169, 1, 0, 1, 1036), (157, 0, 1, 15, 0, 0, 821), (44, 0, 1, 16, 0, 1, 822), (53, 0, 1, 19, 0, 1, 825), (25, 0, 1, 8, 0, 1, 814), (50, 0, 1, 18, 0, 1, 824), (154, 2, 159, 2, 0, 1, 996), (167, 2, 160, 0, 0, 1, 1000), (7, 0, 1, 1, 0, 1, 807), (56, 0, 1, 20, 0, 1, 826)]
def tb_m181 : tb_T := (⟨"CountedActorsModel", "garbage", "()I"⟩, prog_13_method_52_code, 3, (some (.int)), 2, 44, tb_c181, tb_l181, [], 1087, 1085, 1087, 60, 0)
def tb_c182 : List (Nat × am_I × Nat) := [(0, .aload_n 0, 1), (1, .getfield 170, 3), (4, .ireturn, 1)]
def tb_l182 : List tb_K := [(170, 0, 1, 24, 0, 0, 830)]
def tb_m182 : tb_T := (⟨"CountedActorsModel", "lost", "()I"⟩, prog_13_method_53_code, 1, (some (.int)), 0, 0, tb_c182, tb_l182, [], 1091, 1089, 1091, 60, 0)
def tb_M0 : List tb_T := [tb_m0, tb_m1, tb_m2, tb_m3, tb_m4, tb_m5, tb_m6, tb_m7, tb_m8, tb_m9, tb_m10, tb_m11, tb_m12, tb_m13, tb_m14, tb_m15]
def tb_M1 : List tb_T := [tb_m16, tb_m17, tb_m18, tb_m19, tb_m20, tb_m21, tb_m22, tb_m23, tb_m24, tb_m25, tb_m26, tb_m27, tb_m28, tb_m29, tb_m30, tb_m31]
def tb_M2 : List tb_T := [tb_m32, tb_m33, tb_m34, tb_m35, tb_m36, tb_m37, tb_m38, tb_m39, tb_m40, tb_m41, tb_m42, tb_m43, tb_m44, tb_m45, tb_m46, tb_m47]
def tb_M3 : List tb_T := [tb_m48, tb_m49, tb_m50, tb_m51, tb_m52, tb_m53, tb_m54, tb_m55, tb_m56, tb_m57, tb_m58, tb_m59, tb_m60, tb_m61, tb_m62, tb_m63]
def tb_M4 : List tb_T := [tb_m64, tb_m65, tb_m66, tb_m67, tb_m68, tb_m69, tb_m70, tb_m71, tb_m72, tb_m73, tb_m74, tb_m75, tb_m76, tb_m77, tb_m78, tb_m79]
def tb_M5 : List tb_T := [tb_m80, tb_m81, tb_m82, tb_m83, tb_m84, tb_m85, tb_m86, tb_m87, tb_m88, tb_m89, tb_m90, tb_m91, tb_m92, tb_m93, tb_m94, tb_m95]
def tb_M6 : List tb_T := [tb_m96, tb_m97, tb_m98, tb_m99, tb_m100, tb_m101, tb_m102, tb_m103, tb_m104, tb_m105, tb_m106, tb_m107, tb_m108, tb_m109, tb_m110, tb_m111]
def tb_M7 : List tb_T := [tb_m112, tb_m113, tb_m114, tb_m115, tb_m116, tb_m117, tb_m118, tb_m119, tb_m120, tb_m121, tb_m122, tb_m123, tb_m124, tb_m125, tb_m126, tb_m127]
def tb_M8 : List tb_T := [tb_m128, tb_m129, tb_m130, tb_m131, tb_m132, tb_m133, tb_m134, tb_m135, tb_m136, tb_m137, tb_m138, tb_m139, tb_m140, tb_m141, tb_m142, tb_m143]
def tb_M9 : List tb_T := [tb_m144, tb_m145, tb_m146, tb_m147, tb_m148, tb_m149, tb_m150, tb_m151, tb_m152, tb_m153, tb_m154, tb_m155, tb_m156, tb_m157, tb_m158, tb_m159]
def tb_M10 : List tb_T := [tb_m160, tb_m161, tb_m162, tb_m163, tb_m164, tb_m165, tb_m166, tb_m167, tb_m168, tb_m169, tb_m170, tb_m171, tb_m172, tb_m173, tb_m174, tb_m175]
def tb_M11 : List tb_T := [tb_m176, tb_m177, tb_m178, tb_m179, tb_m180, tb_m181, tb_m182]
def tb_M : List (List tb_T) := [tb_M0, tb_M1, tb_M2, tb_M3, tb_M4, tb_M5, tb_M6, tb_M7, tb_M8, tb_M9, tb_M10, tb_M11]
def tb_m (k : Nat) : Option tb_T := match am_nth tb_M (k / 16) with
  | some l => am_nth l (k % 16)
  | none => none
def tb_fc : List (Nat × am_I × Nat) → Nat → Option (am_I × Nat)
  | [], _ => none
  | e :: r, pc => bif Nat.beq e.1 pc then some e.2 else tb_fc r pc
def tb_fl : List tb_K → Nat → Option (Nat × Nat × Nat × Nat × Nat)
  | [], _ => none
  | e :: r, ix => bif Nat.beq e.1 ix then some (e.2.1, e.2.2.1, e.2.2.2.1, e.2.2.2.2.1, e.2.2.2.2.2.1) else tb_fl r ix
def tb_fk : List (Nat × Int32 × Nat) → Nat → Option Int32
  | [], _ => none
  | e :: r, ix => bif Nat.beq e.1 ix then some e.2.1 else tb_fk r ix
def tb_a0 : List Int32 := [5, 4, 2, 3, 4, 5]
def tb_a1 : List Int32 := [41, 43, 63]
def tb_a2 : List Int32 := [63, 62, 52, 56, 48, 32]
def tb_a3 : List Int32 := [0, 5, 5, 3, 5, 5, 0, 4, 4, 3, 4, 5, 0, 1, 2, 3, 4, 5, 3, 3, 3, 3, 3, 5, 5, 4, 4, 3, 4, 5]
def tb_a4 : List Int32 := [0, 3, 5, 3, 5, 5, 0, 3, 4, 3, 4, 5, 0, 1, 2, 3, 4, 5]
def tb_a5 : List Int32 := [0, 0, 0, 3, 3, 5]
def tb_ro (L : Nat) (xs : Nat → Int32) (k : Nat) : Option (Nat × (Nat → Int32)) :=
  bif Nat.beq k 1048576 then some (6, fun i => tb_a0.getD i 0) else bif Nat.beq k 1048577 then some (3, fun i => tb_a1.getD i 0) else bif Nat.beq k 1048578 then some (6, fun i => tb_a2.getD i 0) else bif Nat.beq k 1048579 then some (30, fun i => tb_a3.getD i 0) else bif Nat.beq k 1048580 then some (18, fun i => tb_a4.getD i 0) else bif Nat.beq k 1048581 then some (6, fun i => tb_a5.getD i 0) else bif Nat.beq k 1048582 then some (L, xs) else none
/-- the tables, for a script of L ints xs -/
def tb_P (L : Nat) (xs : Nat → Int32) : am_T :=
  (fun mi pc => (match tb_m mi with | some q => tb_fc q.2.2.2.2.2.2.1 pc | none => none),
   fun mi ix => (match tb_m mi with | some q => tb_fl q.2.2.2.2.2.2.2.1 ix | none => none),
   fun mi ix => (match tb_m mi with | some q => tb_fk q.2.2.2.2.2.2.2.2.1 ix | none => none),
   fun ci => (match am_nth tb_ft ci with | some l => l | none => []),
   fun mi => (match tb_m mi with | some q => q.2.2.2.1 | none => none),
   fun mi => (match tb_m mi with | some q => q.2.2.1 | none => 0),
   tb_ro L xs)
def tb_N : List Cond := [Cond.methodLinkNest "CountedActors$Program" 19 ⟨"CountedActors$Draft", "<init>", "()V"⟩ "CountedActors", Cond.methodLinkNest "CountedActors$Behaviour" 17 ⟨"CountedActors$Statement", "<init>", "()V"⟩ "CountedActors", Cond.methodLinkNest "CountedActors" 38 ⟨"CountedActors$Mail", "<init>", "()V"⟩ "CountedActors", Cond.methodLinkNest "CountedActors" 54 ⟨"CountedActors$Display", "<init>", "()V"⟩ "CountedActors", Cond.methodLinkNest "CountedActors$Statement" 39 ⟨"CountedActors", "isField", "(I)Z"⟩ "CountedActors"]
def tb_W : List Cond := lw_tbl.filter goodWord
def tb_AO : List String := ["CountedActors$Behaviour", "CountedActors$Statement"]
end
section
/-! The tables keep to the words of the claim: checks by the kernel -/
def tb_w (i : Nat) (w : Cond) : Bool := decide (lw_tbl[i]? = some w) && goodWord w
theorem tb_w_in {i : Nat} {w : Cond} (h : tb_w i w = true) : w ∈ tb_W := by
  simp only [tb_w, Bool.and_eq_true, decide_eq_true_eq] at h
  exact List.mem_filter.mpr ⟨List.mem_of_getElem? h.1, h.2⟩
def tb_inst : List Nat := [64, 801, 106, 234, 86, 171, 247, 193, 78, 113, 215]
def tb_init : List Nat := [48, 60, 52, 58, 51, 54, 59, 56, 50, 53, 57]
def tb_okl (q : tb_T) (e : tb_K) : Bool := match e.2.1 with
  | 0 => (match tb_cl[e.2.2.1]? with
    | some (_, T, N) => decide (e.2.2.2.1 < N) && tb_w e.2.2.2.2.2.2 (.fieldLink q.1.cls e.1 (T e.2.2.2.1).1 (T e.2.2.2.1).2.1 (T e.2.2.2.1).2.2.1) && (!(Nat.beq e.2.2.2.2.2.1 0) || !(T e.2.2.2.1).2.2.2 || (decide (q.1.name = "<init>") && decide ((T e.2.2.2.1).1 = q.1.cls)))
    | none => false)
  | 1 => decide (e.2.2.1 < 6) && (match am_nth tb_S e.2.2.1 with
    | some r => tb_w e.2.2.2.2.2.2 (.fieldLink q.1.cls e.1 r.1 r.2.1 r.2.2) && decide (r.1 ≠ "")
    | none => false)
  | 2 => (match tb_m e.2.2.1 with
    | some z => !(Nat.beq z.2.2.2.2.2.2.2.2.2.1 0) && Nat.ble (z.2.2.2.2.1 + 1) q.2.2.2.2.1 && Nat.ble (8 + (z.2.2.1 + 11) + z.2.2.2.2.2.1) q.2.2.2.2.2.1 && decide ((parseMethodDescriptor z.1.desc).map (fun d => d.parameters.length) = some e.2.2.2.1) &&
      (bif Nat.ble 3 e.2.2.2.2.1 then decide (Cond.methodLinkNest q.1.cls e.1 z.1 "CountedActors" ∈ tb_N) else tb_w e.2.2.2.2.2.2 (.methodLink q.1.cls e.1 z.1)) && Nat.beq (e.2.2.2.2.1 % 3) z.2.2.2.2.2.2.2.2.2.2.2.2.2 &&
      (!(Nat.beq (e.2.2.2.2.1 % 3) 0) || (!(Nat.beq z.2.2.2.2.2.2.2.2.2.2.2.1 0) && (match tb_cl[e.2.2.2.2.2.1]? with | some r => decide (r.1 = z.1.cls) | none => false)))
    | none => false)
  | 3 => tb_w e.2.2.2.2.2.2 (.methodLink q.1.cls e.1 Lib.objectInit) && tb_w 69 (.instanceMethod Lib.objectInit) && tb_w 70 (.code Lib.objectInit ⟨#[0xb1]⟩ 1 none) && decide (1 ≤ q.2.2.2.2.1) && decide (20 ≤ q.2.2.2.2.2.1)
  | 4 => tb_w e.2.2.2.2.2.2 (.methodLink q.1.cls e.1 arraycopyName) && tb_w 550 (.native arraycopyName) && tb_w 549 (.static arraycopyName) && tb_w 62 (.initialized "java/lang/System") && decide (1 ≤ q.2.2.2.2.1) && decide (8 + (nativeFrameWords "java/lang/System" "arraycopy" 5 + 11) ≤ q.2.2.2.2.2.1)
  | 7 => tb_w e.2.2.2.2.2.2 (.methodLink q.1.cls e.1 Lib.Math.max.name) && tb_w 75 (.static Lib.Math.max.name) && tb_w 76 (.code Lib.Math.max.name Lib.Math.max.code 2 (some .int)) && tb_w 49 (.initialized "java/lang/Math") && decide (1 ≤ q.2.2.2.2.1) && decide (22 ≤ q.2.2.2.2.2.1)
  | 8 => tb_w e.2.2.2.2.2.2 (.methodLink q.1.cls e.1 Lib.Math.min.name) && tb_w 72 (.static Lib.Math.min.name) && tb_w 73 (.code Lib.Math.min.name Lib.Math.min.code 2 (some .int)) && tb_w 49 (.initialized "java/lang/Math") && decide (1 ≤ q.2.2.2.2.1) && decide (22 ≤ q.2.2.2.2.2.1)
  | 9 => tb_w e.2.2.2.2.2.2 (.methodLink q.1.cls e.1 fm_y) && tb_w 658 (.static fm_y) && tb_w 659 (.code fm_y prog_14_method_50_code 3 (some .int)) && tb_w 49 (.initialized "java/lang/Math") && decide (1 ≤ q.2.2.2.2.1) && decide (22 ≤ q.2.2.2.2.2.1)
  | 5 => (match tb_cl[e.2.2.1]?, am_nth tb_inst e.2.2.1, am_nth tb_init e.2.2.1 with
    | some r, some a, some b => tb_w e.2.2.2.2.2.2 (.classLink q.1.cls e.1 r.1) && tb_w a (.instantiable r.1 r.2.2) && tb_w b (.initialized r.1)
    | _, _, _ => false)
  | 6 => (match tb_cl[e.2.2.1]? with
    | some r => Nat.ble 100000 e.1 && tb_w e.2.2.2.2.2.2 (.classLink q.1.cls (e.1 - 100000) r.1) && decide (r.1 ∈ tb_AO)
    | none => false)
  | _ => false
def tb_okc (q : tb_T) (e : Nat × am_I × Nat) : Bool := decide (decode q.2.1 e.1 = .ok (e.2.1, e.2.2)) && (Nat.beq (am_len e.2.1) 0 || Nat.beq e.2.2 (am_len e.2.1))
def tb_okk (q : tb_T) (e : Nat × Int32 × Nat) : Bool := tb_w e.2.2 (.constant q.1.cls e.1 e.2.1)
/-- the words of a method that is called -/
def tb_okw (z : tb_T) : Bool := tb_w z.2.2.2.2.2.2.2.2.2.1 (.code z.1 z.2.1 z.2.2.1 z.2.2.2.1) && plainName z.1.cls && tb_w z.2.2.2.2.2.2.2.2.2.2.2.2.1 (.initialized z.1.cls) && decide (z.1.cls ≠ "java/lang/invoke/MethodHandle" ∧ z.1.cls ≠ "java/lang/invoke/VarHandle") &&
  (bif Nat.beq z.2.2.2.2.2.2.2.2.2.2.2.2.2 1 then tb_w z.2.2.2.2.2.2.2.2.2.2.1 (.static z.1) else tb_w z.2.2.2.2.2.2.2.2.2.2.1 (.instanceMethod z.1)) &&
  (Nat.beq z.2.2.2.2.2.2.2.2.2.2.2.1 0 || tb_w (z.2.2.2.2.2.2.2.2.2.2.2.1 - 1) (.selects z.1.cls z.1 z.1)) &&
  (!(Nat.beq z.2.2.2.2.2.2.2.2.2.2.2.2.2 2) || (decide (z.1.name = "<init>") && decide (z.2.2.2.1 = none)))
def tb_okm (q : tb_T) : Prop := (q.2.2.2.2.2.2.2.2.2.1 = 0 ∨ tb_okw q = true) ∧ q.2.2.2.2.2.2.1.all (tb_okc q) = true ∧ q.2.2.2.2.2.2.2.1.all (tb_okl q) = true ∧ q.2.2.2.2.2.2.2.2.1.all (tb_okk q) = true
theorem tb_cut {α : Type} {f : α → Bool} {l : List α} (k : Nat) (h : (l.take k).all f = true) (h' : (l.drop k).all f = true) : l.all f = true := by
  rw [← List.take_append_drop k l, List.all_append, h, h']
  rfl
end
section
/-! CountedActorsLaw.law([I)Z -/
set_option maxRecDepth 100000 in
theorem tb_ok0_0 : (tb_c0.take 24).all (tb_okc tb_m0) = true := by decide +kernel
set_option maxRecDepth 100000 in
theorem tb_ok0_1 : ((tb_c0.drop 24).take 24).all (tb_okc tb_m0) = true := by decide +kernel
set_option maxRecDepth 100000 in
theorem tb_ok0_2 : (((tb_c0.drop 24).drop 24).take 24).all (tb_okc tb_m0) = true := by decide +kernel
set_option maxRecDepth 100000 in
theorem tb_ok0_3 : ((((tb_c0.drop 24).drop 24).drop 24).take 24).all (tb_okc tb_m0) = true := by decide +kernel
set_option maxRecDepth 100000 in
theorem tb_ok0_4 : (((((tb_c0.drop 24).drop 24).drop 24).drop 24).take 24).all (tb_okc tb_m0) = true := by decide +kernel
set_option maxRecDepth 100000 in
theorem tb_ok0_5 : ((((((tb_c0.drop 24).drop 24).drop 24).drop 24).drop 24).take 24).all (tb_okc tb_m0) = true := by decide +kernel
set_option maxRecDepth 100000 in
theorem tb_ok0_6 : (((((((tb_c0.drop 24).drop 24).drop 24).drop 24).drop 24).drop 24).take 24).all (tb_okc tb_m0) = true := by decide +kernel
set_option maxRecDepth 100000 in
theorem tb_ok0_7 : ((((((((tb_c0.drop 24).drop 24).drop 24).drop 24).drop 24).drop 24).drop 24).take 24).all (tb_okc tb_m0) = true := by decide +kernel
set_option maxRecDepth 100000 in
theorem tb_ok0_8 : (((((((((tb_c0.drop 24).drop 24).drop 24).drop 24).drop 24).drop 24).drop 24).drop 24).take 24).all (tb_okc tb_m0) = true := by decide +kernel
set_option maxRecDepth 100000 in
theorem tb_ok0_9 : ((((((((((tb_c0.drop 24).drop 24).drop 24).drop 24).drop 24).drop 24).drop 24).drop 24).drop 24).take 24).all (tb_okc tb_m0) = true := by decide +kernel
set_option maxRecDepth 100000 in
theorem tb_ok0_10 : (((((((((((tb_c0.drop 24).drop 24).drop 24).drop 24).drop 24).drop 24).drop 24).drop 24).drop 24).drop 24).take 24).all (tb_okc tb_m0) = true := by decide +kernel
set_option maxRecDepth 100000 in
theorem tb_ok0_11 : ((((((((((((tb_c0.drop 24).drop 24).drop 24).drop 24).drop 24).drop 24).drop 24).drop 24).drop 24).drop 24).drop 24).take 24).all (tb_okc tb_m0) = true := by decide +kernel
set_option maxRecDepth 100000 in
theorem tb_ok0_12 : (((((((((((((tb_c0.drop 24).drop 24).drop 24).drop 24).drop 24).drop 24).drop 24).drop 24).drop 24).drop 24).drop 24).drop 24).take 24).all (tb_okc tb_m0) = true := by decide +kernel
set_option maxRecDepth 100000 in
theorem tb_ok0_13 : ((((((((((((((tb_c0.drop 24).drop 24).drop 24).drop 24).drop 24).drop 24).drop 24).drop 24).drop 24).drop 24).drop 24).drop 24).drop 24).take 24).all (tb_okc tb_m0) = true := by decide +kernel
set_option maxRecDepth 100000 in
theorem tb_ok0_14 : (((((((((((((((tb_c0.drop 24).drop 24).drop 24).drop 24).drop 24).drop 24).drop 24).drop 24).drop 24).drop 24).drop 24).drop 24).drop 24).drop 24).take 24).all (tb_okc tb_m0) = true := by decide +kernel
set_option maxRecDepth 100000 in
theorem tb_ok0_15 : ((((((((((((((((tb_c0.drop 24).drop 24).drop 24).drop 24).drop 24).drop 24).drop 24).drop 24).drop 24).drop 24).drop 24).drop 24).drop 24).drop 24).drop 24).take 24).all (tb_okc tb_m0) = true := by decide +kernel
set_option maxRecDepth 100000 in
theorem tb_ok0_16 : (((((((((((((((((tb_c0.drop 24).drop 24).drop 24).drop 24).drop 24).drop 24).drop 24).drop 24).drop 24).drop 24).drop 24).drop 24).drop 24).drop 24).drop 24).drop 24)).all (tb_okc tb_m0) = true := by decide +kernel
set_option maxRecDepth 100000 in
theorem tb_ok0_l0 : (tb_l0.take 6).all (tb_okl tb_m0) = true := by decide +kernel
set_option maxRecDepth 100000 in
theorem tb_ok0_l1 : ((tb_l0.drop 6).take 6).all (tb_okl tb_m0) = true := by decide +kernel
set_option maxRecDepth 100000 in
theorem tb_ok0_l2 : (((tb_l0.drop 6).drop 6).take 6).all (tb_okl tb_m0) = true := by decide +kernel
set_option maxRecDepth 100000 in
theorem tb_ok0_l3 : ((((tb_l0.drop 6).drop 6).drop 6).take 6).all (tb_okl tb_m0) = true := by decide +kernel
set_option maxRecDepth 100000 in
theorem tb_ok0_l4 : (((((tb_l0.drop 6).drop 6).drop 6).drop 6).take 6).all (tb_okl tb_m0) = true := by decide +kernel
set_option maxRecDepth 100000 in
theorem tb_ok0_l5 : ((((((tb_l0.drop 6).drop 6).drop 6).drop 6).drop 6).take 6).all (tb_okl tb_m0) = true := by decide +kernel
set_option maxRecDepth 100000 in
theorem tb_ok0_l6 : (((((((tb_l0.drop 6).drop 6).drop 6).drop 6).drop 6).drop 6)).all (tb_okl tb_m0) = true := by decide +kernel
set_option maxRecDepth 100000 in
theorem tb_ok0 : tb_okm tb_m0 := ⟨Or.inl rfl, tb_cut 24 tb_ok0_0 (tb_cut 24 tb_ok0_1 (tb_cut 24 tb_ok0_2 (tb_cut 24 tb_ok0_3 (tb_cut 24 tb_ok0_4 (tb_cut 24 tb_ok0_5 (tb_cut 24 tb_ok0_6 (tb_cut 24 tb_ok0_7 (tb_cut 24 tb_ok0_8 (tb_cut 24 tb_ok0_9 (tb_cut 24 tb_ok0_10 (tb_cut 24 tb_ok0_11 (tb_cut 24 tb_ok0_12 (tb_cut 24 tb_ok0_13 (tb_cut 24 tb_ok0_14 (tb_cut 24 tb_ok0_15 (tb_ok0_16)))))))))))))))), tb_cut 6 tb_ok0_l0 (tb_cut 6 tb_ok0_l1 (tb_cut 6 tb_ok0_l2 (tb_cut 6 tb_ok0_l3 (tb_cut 6 tb_ok0_l4 (tb_cut 6 tb_ok0_l5 (tb_ok0_l6)))))), by decide +kernel⟩
/-! CountedActors.<init>(I)V -/
set_option maxRecDepth 100000 in
theorem tb_ok1_0 : (tb_c1.take 24).all (tb_okc tb_m1) = true := by decide +kernel
set_option maxRecDepth 100000 in
theorem tb_ok1_1 : ((tb_c1.drop 24).take 24).all (tb_okc tb_m1) = true := by decide +kernel
set_option maxRecDepth 100000 in
theorem tb_ok1_2 : (((tb_c1.drop 24).drop 24)).all (tb_okc tb_m1) = true := by decide +kernel
set_option maxRecDepth 100000 in
theorem tb_ok1_l0 : (tb_l1.take 6).all (tb_okl tb_m1) = true := by decide +kernel
set_option maxRecDepth 100000 in
theorem tb_ok1_l1 : ((tb_l1.drop 6).take 6).all (tb_okl tb_m1) = true := by decide +kernel
set_option maxRecDepth 100000 in
theorem tb_ok1_l2 : (((tb_l1.drop 6).drop 6).take 6).all (tb_okl tb_m1) = true := by decide +kernel
set_option maxRecDepth 100000 in
theorem tb_ok1_l3 : ((((tb_l1.drop 6).drop 6).drop 6)).all (tb_okl tb_m1) = true := by decide +kernel
set_option maxRecDepth 100000 in
theorem tb_ok1 : tb_okm tb_m1 := ⟨Or.inr (by decide +kernel), tb_cut 24 tb_ok1_0 (tb_cut 24 tb_ok1_1 (tb_ok1_2)), tb_cut 6 tb_ok1_l0 (tb_cut 6 tb_ok1_l1 (tb_cut 6 tb_ok1_l2 (tb_ok1_l3))), by decide +kernel⟩
/-! CountedActors$Program.<init>()V -/
set_option maxRecDepth 100000 in
theorem tb_ok2_0 : (tb_c2.take 24).all (tb_okc tb_m2) = true := by decide +kernel
set_option maxRecDepth 100000 in
theorem tb_ok2_1 : ((tb_c2.drop 24)).all (tb_okc tb_m2) = true := by decide +kernel
set_option maxRecDepth 100000 in
theorem tb_ok2_l0 : (tb_l2.take 6).all (tb_okl tb_m2) = true := by decide +kernel
set_option maxRecDepth 100000 in
theorem tb_ok2_l1 : ((tb_l2.drop 6)).all (tb_okl tb_m2) = true := by decide +kernel
set_option maxRecDepth 100000 in
theorem tb_ok2 : tb_okm tb_m2 := ⟨Or.inr (by decide +kernel), tb_cut 24 tb_ok2_0 (tb_ok2_1), tb_cut 6 tb_ok2_l0 (tb_ok2_l1), by decide +kernel⟩
/-! CountedActors$Draft.<init>()V -/
set_option maxRecDepth 100000 in
theorem tb_ok3_0 : (tb_c3).all (tb_okc tb_m3) = true := by decide +kernel
set_option maxRecDepth 100000 in
theorem tb_ok3_l0 : (tb_l3).all (tb_okl tb_m3) = true := by decide +kernel
set_option maxRecDepth 100000 in
theorem tb_ok3 : tb_okm tb_m3 := ⟨Or.inr (by decide +kernel), tb_ok3_0, tb_ok3_l0, by decide +kernel⟩
/-! CountedActors$Behaviour.<init>()V -/
set_option maxRecDepth 100000 in
theorem tb_ok4_0 : (tb_c4).all (tb_okc tb_m4) = true := by decide +kernel
set_option maxRecDepth 100000 in
theorem tb_ok4_l0 : (tb_l4).all (tb_okl tb_m4) = true := by decide +kernel
set_option maxRecDepth 100000 in
theorem tb_ok4 : tb_okm tb_m4 := ⟨Or.inr (by decide +kernel), tb_ok4_0, tb_ok4_l0, by decide +kernel⟩
/-! CountedActors$Statement.<init>()V -/
set_option maxRecDepth 100000 in
theorem tb_ok5_0 : (tb_c5).all (tb_okc tb_m5) = true := by decide +kernel
set_option maxRecDepth 100000 in
theorem tb_ok5_l0 : (tb_l5).all (tb_okl tb_m5) = true := by decide +kernel
set_option maxRecDepth 100000 in
theorem tb_ok5 : tb_okm tb_m5 := ⟨Or.inr (by decide +kernel), tb_ok5_0, tb_ok5_l0, by decide +kernel⟩
/-! CountedActors$Heap.<init>()V -/
set_option maxRecDepth 100000 in
theorem tb_ok6_0 : (tb_c6.take 24).all (tb_okc tb_m6) = true := by decide +kernel
set_option maxRecDepth 100000 in
theorem tb_ok6_1 : ((tb_c6.drop 24)).all (tb_okc tb_m6) = true := by decide +kernel
set_option maxRecDepth 100000 in
theorem tb_ok6_l0 : (tb_l6).all (tb_okl tb_m6) = true := by decide +kernel
set_option maxRecDepth 100000 in
theorem tb_ok6 : tb_okm tb_m6 := ⟨Or.inr (by decide +kernel), tb_cut 24 tb_ok6_0 (tb_ok6_1), tb_ok6_l0, by decide +kernel⟩
/-! java/util/Arrays.fill([II)V -/
set_option maxRecDepth 100000 in
theorem tb_ok7_0 : (tb_c7).all (tb_okc tb_m7) = true := by decide +kernel
set_option maxRecDepth 100000 in
theorem tb_ok7_l0 : (tb_l7).all (tb_okl tb_m7) = true := by decide +kernel
set_option maxRecDepth 100000 in
theorem tb_ok7 : tb_okm tb_m7 := ⟨Or.inr (by decide +kernel), tb_ok7_0, tb_ok7_l0, by decide +kernel⟩
/-! CountedActors$Mail.<init>()V -/
set_option maxRecDepth 100000 in
theorem tb_ok8_0 : (tb_c8).all (tb_okc tb_m8) = true := by decide +kernel
set_option maxRecDepth 100000 in
theorem tb_ok8_l0 : (tb_l8).all (tb_okl tb_m8) = true := by decide +kernel
set_option maxRecDepth 100000 in
theorem tb_ok8 : tb_okm tb_m8 := ⟨Or.inr (by decide +kernel), tb_ok8_0, tb_ok8_l0, by decide +kernel⟩
/-! CountedActors$Walk.<init>(LCountedActors$Heap;)V -/
set_option maxRecDepth 100000 in
theorem tb_ok9_0 : (tb_c9).all (tb_okc tb_m9) = true := by decide +kernel
set_option maxRecDepth 100000 in
theorem tb_ok9_l0 : (tb_l9).all (tb_okl tb_m9) = true := by decide +kernel
set_option maxRecDepth 100000 in
theorem tb_ok9 : tb_okm tb_m9 := ⟨Or.inr (by decide +kernel), tb_ok9_0, tb_ok9_l0, by decide +kernel⟩
/-! CountedActors$Display.<init>()V -/
set_option maxRecDepth 100000 in
theorem tb_ok10_0 : (tb_c10).all (tb_okc tb_m10) = true := by decide +kernel
set_option maxRecDepth 100000 in
theorem tb_ok10_l0 : (tb_l10).all (tb_okl tb_m10) = true := by decide +kernel
set_option maxRecDepth 100000 in
theorem tb_ok10 : tb_okm tb_m10 := ⟨Or.inr (by decide +kernel), tb_ok10_0, tb_ok10_l0, by decide +kernel⟩
/-! CountedActors$Machine.<init>(ILCountedActors$Program;LCountedActors$Heap;LCountedActors$Mail;LCountedActors$Walk;LCountedActors$Display;)V -/
set_option maxRecDepth 100000 in
theorem tb_ok11_0 : (tb_c11.take 24).all (tb_okc tb_m11) = true := by decide +kernel
set_option maxRecDepth 100000 in
theorem tb_ok11_1 : ((tb_c11.drop 24)).all (tb_okc tb_m11) = true := by decide +kernel
set_option maxRecDepth 100000 in
theorem tb_ok11_l0 : (tb_l11.take 6).all (tb_okl tb_m11) = true := by decide +kernel
set_option maxRecDepth 100000 in
theorem tb_ok11_l1 : ((tb_l11.drop 6)).all (tb_okl tb_m11) = true := by decide +kernel
set_option maxRecDepth 100000 in
theorem tb_ok11 : tb_okm tb_m11 := ⟨Or.inr (by decide +kernel), tb_cut 24 tb_ok11_0 (tb_ok11_1), tb_cut 6 tb_ok11_l0 (tb_ok11_l1), by decide +kernel⟩
/-! CountedActors.begin(I)I -/
set_option maxRecDepth 100000 in
theorem tb_ok12_0 : (tb_c12).all (tb_okc tb_m12) = true := by decide +kernel
set_option maxRecDepth 100000 in
theorem tb_ok12_l0 : (tb_l12).all (tb_okl tb_m12) = true := by decide +kernel
set_option maxRecDepth 100000 in
theorem tb_ok12 : tb_okm tb_m12 := ⟨Or.inr (by decide +kernel), tb_ok12_0, tb_ok12_l0, by decide +kernel⟩
/-! CountedActors$Program.open(I)I -/
set_option maxRecDepth 100000 in
theorem tb_ok13_0 : (tb_c13.take 24).all (tb_okc tb_m13) = true := by decide +kernel
set_option maxRecDepth 100000 in
theorem tb_ok13_1 : ((tb_c13.drop 24)).all (tb_okc tb_m13) = true := by decide +kernel
set_option maxRecDepth 100000 in
theorem tb_ok13_l0 : (tb_l13.take 6).all (tb_okl tb_m13) = true := by decide +kernel
set_option maxRecDepth 100000 in
theorem tb_ok13_l1 : ((tb_l13.drop 6)).all (tb_okl tb_m13) = true := by decide +kernel
set_option maxRecDepth 100000 in
theorem tb_ok13 : tb_okm tb_m13 := ⟨Or.inr (by decide +kernel), tb_cut 24 tb_ok13_0 (tb_ok13_1), tb_cut 6 tb_ok13_l0 (tb_ok13_l1), by decide +kernel⟩
/-! CountedActors$Program.isParameter(I)Z -/
set_option maxRecDepth 100000 in
theorem tb_ok14_0 : (tb_c14).all (tb_okc tb_m14) = true := by decide +kernel
set_option maxRecDepth 100000 in
theorem tb_ok14_l0 : (tb_l14).all (tb_okl tb_m14) = true := by decide +kernel
set_option maxRecDepth 100000 in
theorem tb_ok14 : tb_okm tb_m14 := ⟨Or.inr (by decide +kernel), tb_ok14_0, tb_ok14_l0, by decide +kernel⟩
/-! CountedActors$Capability.isOne(I)Z -/
set_option maxRecDepth 100000 in
theorem tb_ok15_0 : (tb_c15).all (tb_okc tb_m15) = true := by decide +kernel
set_option maxRecDepth 100000 in
theorem tb_ok15_l0 : (tb_l15).all (tb_okl tb_m15) = true := by decide +kernel
set_option maxRecDepth 100000 in
theorem tb_ok15 : tb_okm tb_m15 := ⟨Or.inr (by decide +kernel), tb_ok15_0, tb_ok15_l0, by decide +kernel⟩
/-! CountedActors$Capability.isSendable(I)Z -/
set_option maxRecDepth 100000 in
theorem tb_ok16_0 : (tb_c16).all (tb_okc tb_m16) = true := by decide +kernel
set_option maxRecDepth 100000 in
theorem tb_ok16_l0 : (tb_l16).all (tb_okl tb_m16) = true := by decide +kernel
set_option maxRecDepth 100000 in
theorem tb_ok16 : tb_okm tb_m16 := ⟨Or.inr (by decide +kernel), tb_ok16_0, tb_ok16_l0, by decide +kernel⟩
/-! CountedActors$Capability.isIn(II)Z -/
set_option maxRecDepth 100000 in
theorem tb_ok17_0 : (tb_c17).all (tb_okc tb_m17) = true := by decide +kernel
set_option maxRecDepth 100000 in
theorem tb_ok17_l0 : (tb_l17).all (tb_okl tb_m17) = true := by decide +kernel
set_option maxRecDepth 100000 in
theorem tb_ok17 : tb_okm tb_m17 := ⟨Or.inr (by decide +kernel), tb_ok17_0, tb_ok17_l0, by decide +kernel⟩
/-! CountedActors$Behaviour.restart(I)V -/
set_option maxRecDepth 100000 in
theorem tb_ok18_0 : (tb_c18).all (tb_okc tb_m18) = true := by decide +kernel
set_option maxRecDepth 100000 in
theorem tb_ok18_l0 : (tb_l18).all (tb_okl tb_m18) = true := by decide +kernel
set_option maxRecDepth 100000 in
theorem tb_ok18 : tb_okm tb_m18 := ⟨Or.inr (by decide +kernel), tb_ok18_0, tb_ok18_l0, by decide +kernel⟩
/-! CountedActors$Draft.restart(I)V -/
set_option maxRecDepth 100000 in
theorem tb_ok19_0 : (tb_c19.take 24).all (tb_okc tb_m19) = true := by decide +kernel
set_option maxRecDepth 100000 in
theorem tb_ok19_1 : ((tb_c19.drop 24)).all (tb_okc tb_m19) = true := by decide +kernel
set_option maxRecDepth 100000 in
theorem tb_ok19_l0 : (tb_l19).all (tb_okl tb_m19) = true := by decide +kernel
set_option maxRecDepth 100000 in
theorem tb_ok19 : tb_okm tb_m19 := ⟨Or.inr (by decide +kernel), tb_cut 24 tb_ok19_0 (tb_ok19_1), tb_ok19_l0, by decide +kernel⟩
/-! CountedActors$Draft.leaveBlock()V -/
set_option maxRecDepth 100000 in
theorem tb_ok20_0 : (tb_c20.take 24).all (tb_okc tb_m20) = true := by decide +kernel
set_option maxRecDepth 100000 in
theorem tb_ok20_1 : ((tb_c20.drop 24)).all (tb_okc tb_m20) = true := by decide +kernel
set_option maxRecDepth 100000 in
theorem tb_ok20_l0 : (tb_l20).all (tb_okl tb_m20) = true := by decide +kernel
set_option maxRecDepth 100000 in
theorem tb_ok20 : tb_okm tb_m20 := ⟨Or.inr (by decide +kernel), tb_cut 24 tb_ok20_0 (tb_ok20_1), tb_ok20_l0, by decide +kernel⟩
/-! CountedActors.add(IIIII)I -/
set_option maxRecDepth 100000 in
theorem tb_ok21_0 : (tb_c21).all (tb_okc tb_m21) = true := by decide +kernel
set_option maxRecDepth 100000 in
theorem tb_ok21_l0 : (tb_l21).all (tb_okl tb_m21) = true := by decide +kernel
set_option maxRecDepth 100000 in
theorem tb_ok21 : tb_okm tb_m21 := ⟨Or.inr (by decide +kernel), tb_ok21_0, tb_ok21_l0, by decide +kernel⟩
/-! CountedActors$Program.write(IIIII)I -/
set_option maxRecDepth 100000 in
theorem tb_ok22_0 : (tb_c22.take 24).all (tb_okc tb_m22) = true := by decide +kernel
set_option maxRecDepth 100000 in
theorem tb_ok22_1 : ((tb_c22.drop 24)).all (tb_okc tb_m22) = true := by decide +kernel
set_option maxRecDepth 100000 in
theorem tb_ok22_l0 : (tb_l22.take 6).all (tb_okl tb_m22) = true := by decide +kernel
set_option maxRecDepth 100000 in
theorem tb_ok22_l1 : ((tb_l22.drop 6)).all (tb_okl tb_m22) = true := by decide +kernel
set_option maxRecDepth 100000 in
theorem tb_ok22 : tb_okm tb_m22 := ⟨Or.inr (by decide +kernel), tb_cut 24 tb_ok22_0 (tb_ok22_1), tb_cut 6 tb_ok22_l0 (tb_ok22_l1), by decide +kernel⟩
/-! CountedActors$Behaviour.isFull()Z -/
set_option maxRecDepth 100000 in
theorem tb_ok23_0 : (tb_c23).all (tb_okc tb_m23) = true := by decide +kernel
set_option maxRecDepth 100000 in
theorem tb_ok23_l0 : (tb_l23).all (tb_okl tb_m23) = true := by decide +kernel
set_option maxRecDepth 100000 in
theorem tb_ok23 : tb_okm tb_m23 := ⟨Or.inr (by decide +kernel), tb_ok23_0, tb_ok23_l0, by decide +kernel⟩
/-! CountedActors$Behaviour.size()I -/
set_option maxRecDepth 100000 in
theorem tb_ok24_0 : (tb_c24).all (tb_okc tb_m24) = true := by decide +kernel
set_option maxRecDepth 100000 in
theorem tb_ok24_l0 : (tb_l24).all (tb_okl tb_m24) = true := by decide +kernel
set_option maxRecDepth 100000 in
theorem tb_ok24 : tb_okm tb_m24 := ⟨Or.inr (by decide +kernel), tb_ok24_0, tb_ok24_l0, by decide +kernel⟩
/-! CountedActors$Behaviour.at(I)LCountedActors$Statement; -/
set_option maxRecDepth 100000 in
theorem tb_ok25_0 : (tb_c25).all (tb_okc tb_m25) = true := by decide +kernel
set_option maxRecDepth 100000 in
theorem tb_ok25_l0 : (tb_l25).all (tb_okl tb_m25) = true := by decide +kernel
set_option maxRecDepth 100000 in
theorem tb_ok25 : tb_okm tb_m25 := ⟨Or.inr (by decide +kernel), tb_ok25_0, tb_ok25_l0, by decide +kernel⟩
/-! CountedActors$Statement.set(IIIII)V -/
set_option maxRecDepth 100000 in
theorem tb_ok26_0 : (tb_c26).all (tb_okc tb_m26) = true := by decide +kernel
set_option maxRecDepth 100000 in
theorem tb_ok26_l0 : (tb_l26).all (tb_okl tb_m26) = true := by decide +kernel
set_option maxRecDepth 100000 in
theorem tb_ok26 : tb_okm tb_m26 := ⟨Or.inr (by decide +kernel), tb_ok26_0, tb_ok26_l0, by decide +kernel⟩
/-! CountedActors$Program.refusal(LCountedActors$Statement;)I -/
set_option maxRecDepth 100000 in
theorem tb_ok27_0 : (tb_c27.take 24).all (tb_okc tb_m27) = true := by decide +kernel
set_option maxRecDepth 100000 in
theorem tb_ok27_1 : ((tb_c27.drop 24)).all (tb_okc tb_m27) = true := by decide +kernel
set_option maxRecDepth 100000 in
theorem tb_ok27_l0 : (tb_l27.take 6).all (tb_okl tb_m27) = true := by decide +kernel
set_option maxRecDepth 100000 in
theorem tb_ok27_l1 : ((tb_l27.drop 6)).all (tb_okl tb_m27) = true := by decide +kernel
set_option maxRecDepth 100000 in
theorem tb_ok27 : tb_okm tb_m27 := ⟨Or.inr (by decide +kernel), tb_cut 24 tb_ok27_0 (tb_ok27_1), tb_cut 6 tb_ok27_l0 (tb_ok27_l1), by decide +kernel⟩
/-! CountedActors$Statement.namesOnlyWhatIs(I)Z -/
set_option maxRecDepth 100000 in
theorem tb_ok28_0 : (tb_c28.take 24).all (tb_okc tb_m28) = true := by decide +kernel
set_option maxRecDepth 100000 in
theorem tb_ok28_1 : ((tb_c28.drop 24).take 24).all (tb_okc tb_m28) = true := by decide +kernel
set_option maxRecDepth 100000 in
theorem tb_ok28_2 : (((tb_c28.drop 24).drop 24).take 24).all (tb_okc tb_m28) = true := by decide +kernel
set_option maxRecDepth 100000 in
theorem tb_ok28_3 : ((((tb_c28.drop 24).drop 24).drop 24).take 24).all (tb_okc tb_m28) = true := by decide +kernel
set_option maxRecDepth 100000 in
theorem tb_ok28_4 : (((((tb_c28.drop 24).drop 24).drop 24).drop 24)).all (tb_okc tb_m28) = true := by decide +kernel
set_option maxRecDepth 100000 in
theorem tb_ok28_l0 : (tb_l28.take 6).all (tb_okl tb_m28) = true := by decide +kernel
set_option maxRecDepth 100000 in
theorem tb_ok28_l1 : ((tb_l28.drop 6)).all (tb_okl tb_m28) = true := by decide +kernel
set_option maxRecDepth 100000 in
theorem tb_ok28 : tb_okm tb_m28 := ⟨Or.inr (by decide +kernel), tb_cut 24 tb_ok28_0 (tb_cut 24 tb_ok28_1 (tb_cut 24 tb_ok28_2 (tb_cut 24 tb_ok28_3 (tb_ok28_4)))), tb_cut 6 tb_ok28_l0 (tb_ok28_l1), by decide +kernel⟩
/-! CountedActors$Statement.isLocal(I)Z -/
set_option maxRecDepth 100000 in
theorem tb_ok29_0 : (tb_c29).all (tb_okc tb_m29) = true := by decide +kernel
set_option maxRecDepth 100000 in
theorem tb_ok29_l0 : (tb_l29).all (tb_okl tb_m29) = true := by decide +kernel
set_option maxRecDepth 100000 in
theorem tb_ok29 : tb_okm tb_m29 := ⟨Or.inr (by decide +kernel), tb_ok29_0, tb_ok29_l0, by decide +kernel⟩
/-! CountedActors$Statement.isLocalOrThis(I)Z -/
set_option maxRecDepth 100000 in
theorem tb_ok30_0 : (tb_c30).all (tb_okc tb_m30) = true := by decide +kernel
set_option maxRecDepth 100000 in
theorem tb_ok30_l0 : (tb_l30).all (tb_okl tb_m30) = true := by decide +kernel
set_option maxRecDepth 100000 in
theorem tb_ok30 : tb_okm tb_m30 := ⟨Or.inr (by decide +kernel), tb_ok30_0, tb_ok30_l0, by decide +kernel⟩
/-! CountedActors.isField(I)Z -/
set_option maxRecDepth 100000 in
theorem tb_ok31_0 : (tb_c31).all (tb_okc tb_m31) = true := by decide +kernel
set_option maxRecDepth 100000 in
theorem tb_ok31_l0 : (tb_l31).all (tb_okl tb_m31) = true := by decide +kernel
set_option maxRecDepth 100000 in
theorem tb_ok31 : tb_okm tb_m31 := ⟨Or.inr (by decide +kernel), tb_ok31_0, tb_ok31_l0, by decide +kernel⟩
/-! CountedActors$Draft.refusal(LCountedActors$Statement;)I -/
set_option maxRecDepth 100000 in
theorem tb_ok32_0 : (tb_c32.take 24).all (tb_okc tb_m32) = true := by decide +kernel
set_option maxRecDepth 100000 in
theorem tb_ok32_1 : ((tb_c32.drop 24).take 24).all (tb_okc tb_m32) = true := by decide +kernel
set_option maxRecDepth 100000 in
theorem tb_ok32_2 : (((tb_c32.drop 24).drop 24).take 24).all (tb_okc tb_m32) = true := by decide +kernel
set_option maxRecDepth 100000 in
theorem tb_ok32_3 : ((((tb_c32.drop 24).drop 24).drop 24).take 24).all (tb_okc tb_m32) = true := by decide +kernel
set_option maxRecDepth 100000 in
theorem tb_ok32_4 : (((((tb_c32.drop 24).drop 24).drop 24).drop 24)).all (tb_okc tb_m32) = true := by decide +kernel
set_option maxRecDepth 100000 in
theorem tb_ok32_l0 : (tb_l32.take 6).all (tb_okl tb_m32) = true := by decide +kernel
set_option maxRecDepth 100000 in
theorem tb_ok32_l1 : ((tb_l32.drop 6).take 6).all (tb_okl tb_m32) = true := by decide +kernel
set_option maxRecDepth 100000 in
theorem tb_ok32_l2 : (((tb_l32.drop 6).drop 6)).all (tb_okl tb_m32) = true := by decide +kernel
set_option maxRecDepth 100000 in
theorem tb_ok32 : tb_okm tb_m32 := ⟨Or.inr (by decide +kernel), tb_cut 24 tb_ok32_0 (tb_cut 24 tb_ok32_1 (tb_cut 24 tb_ok32_2 (tb_cut 24 tb_ok32_3 (tb_ok32_4)))), tb_cut 6 tb_ok32_l0 (tb_cut 6 tb_ok32_l1 (tb_ok32_l2)), by decide +kernel⟩
end
section
/-! CountedActors$Statement.looksIntoY()Z -/
set_option maxRecDepth 100000 in
theorem tb_ok33_0 : (tb_c33).all (tb_okc tb_m33) = true := by decide +kernel
set_option maxRecDepth 100000 in
theorem tb_ok33_l0 : (tb_l33).all (tb_okl tb_m33) = true := by decide +kernel
set_option maxRecDepth 100000 in
theorem tb_ok33 : tb_okm tb_m33 := ⟨Or.inr (by decide +kernel), tb_ok33_0, tb_ok33_l0, by decide +kernel⟩
/-! CountedActors$Statement.looksIntoZ()Z -/
set_option maxRecDepth 100000 in
theorem tb_ok34_0 : (tb_c34).all (tb_okc tb_m34) = true := by decide +kernel
set_option maxRecDepth 100000 in
theorem tb_ok34_l0 : (tb_l34).all (tb_okl tb_m34) = true := by decide +kernel
set_option maxRecDepth 100000 in
theorem tb_ok34 : tb_okm tb_m34 := ⟨Or.inr (by decide +kernel), tb_ok34_0, tb_ok34_l0, by decide +kernel⟩
/-! CountedActors$Draft.isEmpty(I)Z -/
set_option maxRecDepth 100000 in
theorem tb_ok35_0 : (tb_c35).all (tb_okc tb_m35) = true := by decide +kernel
set_option maxRecDepth 100000 in
theorem tb_ok35_l0 : (tb_l35).all (tb_okl tb_m35) = true := by decide +kernel
set_option maxRecDepth 100000 in
theorem tb_ok35 : tb_okm tb_m35 := ⟨Or.inr (by decide +kernel), tb_ok35_0, tb_ok35_l0, by decide +kernel⟩
/-! CountedActors$Capability.isReadable(I)Z -/
set_option maxRecDepth 100000 in
theorem tb_ok36_0 : (tb_c36).all (tb_okc tb_m36) = true := by decide +kernel
set_option maxRecDepth 100000 in
theorem tb_ok36_l0 : (tb_l36).all (tb_okl tb_m36) = true := by decide +kernel
set_option maxRecDepth 100000 in
theorem tb_ok36 : tb_okm tb_m36 := ⟨Or.inr (by decide +kernel), tb_ok36_0, tb_ok36_l0, by decide +kernel⟩
/-! CountedActors$Capability.isWritable(I)Z -/
set_option maxRecDepth 100000 in
theorem tb_ok37_0 : (tb_c37).all (tb_okc tb_m37) = true := by decide +kernel
set_option maxRecDepth 100000 in
theorem tb_ok37_l0 : (tb_l37).all (tb_okl tb_m37) = true := by decide +kernel
set_option maxRecDepth 100000 in
theorem tb_ok37 : tb_okm tb_m37 := ⟨Or.inr (by decide +kernel), tb_ok37_0, tb_ok37_l0, by decide +kernel⟩
/-! CountedActors$Capability.alias(I)I -/
set_option maxRecDepth 100000 in
theorem tb_ok38_0 : (tb_c38).all (tb_okc tb_m38) = true := by decide +kernel
set_option maxRecDepth 100000 in
theorem tb_ok38_l0 : (tb_l38).all (tb_okl tb_m38) = true := by decide +kernel
set_option maxRecDepth 100000 in
theorem tb_ok38 : tb_okm tb_m38 := ⟨Or.inr (by decide +kernel), tb_ok38_0, tb_ok38_l0, by decide +kernel⟩
/-! CountedActors$Draft.refusalOfStoring(LCountedActors$Statement;I)I -/
set_option maxRecDepth 100000 in
theorem tb_ok39_0 : (tb_c39.take 24).all (tb_okc tb_m39) = true := by decide +kernel
set_option maxRecDepth 100000 in
theorem tb_ok39_1 : ((tb_c39.drop 24)).all (tb_okc tb_m39) = true := by decide +kernel
set_option maxRecDepth 100000 in
theorem tb_ok39_l0 : (tb_l39).all (tb_okl tb_m39) = true := by decide +kernel
set_option maxRecDepth 100000 in
theorem tb_ok39 : tb_okm tb_m39 := ⟨Or.inr (by decide +kernel), tb_cut 24 tb_ok39_0 (tb_ok39_1), tb_ok39_l0, by decide +kernel⟩
/-! CountedActors$Capability.isSafe(II)Z -/
set_option maxRecDepth 100000 in
theorem tb_ok40_0 : (tb_c40).all (tb_okc tb_m40) = true := by decide +kernel
set_option maxRecDepth 100000 in
theorem tb_ok40_l0 : (tb_l40).all (tb_okl tb_m40) = true := by decide +kernel
set_option maxRecDepth 100000 in
theorem tb_ok40 : tb_okm tb_m40 := ⟨Or.inr (by decide +kernel), tb_ok40_0, tb_ok40_l0, by decide +kernel⟩
/-! CountedActors$Capability.fits(II)Z -/
set_option maxRecDepth 100000 in
theorem tb_ok41_0 : (tb_c41).all (tb_okc tb_m41) = true := by decide +kernel
set_option maxRecDepth 100000 in
theorem tb_ok41_l0 : (tb_l41).all (tb_okl tb_m41) = true := by decide +kernel
set_option maxRecDepth 100000 in
theorem tb_ok41 : tb_okm tb_m41 := ⟨Or.inr (by decide +kernel), tb_ok41_0, tb_ok41_l0, by decide +kernel⟩
/-! CountedActors$Draft.capabilityOf(I)I -/
set_option maxRecDepth 100000 in
theorem tb_ok42_0 : (tb_c42).all (tb_okc tb_m42) = true := by decide +kernel
set_option maxRecDepth 100000 in
theorem tb_ok42_l0 : (tb_l42).all (tb_okl tb_m42) = true := by decide +kernel
set_option maxRecDepth 100000 in
theorem tb_ok42 : tb_okm tb_m42 := ⟨Or.inr (by decide +kernel), tb_ok42_0, tb_ok42_l0, by decide +kernel⟩
/-! CountedActors$Program.parameterOf(I)I -/
set_option maxRecDepth 100000 in
theorem tb_ok43_0 : (tb_c43).all (tb_okc tb_m43) = true := by decide +kernel
set_option maxRecDepth 100000 in
theorem tb_ok43_l0 : (tb_l43).all (tb_okl tb_m43) = true := by decide +kernel
set_option maxRecDepth 100000 in
theorem tb_ok43 : tb_okm tb_m43 := ⟨Or.inr (by decide +kernel), tb_ok43_0, tb_ok43_l0, by decide +kernel⟩
/-! CountedActors$Behaviour.parameter()I -/
set_option maxRecDepth 100000 in
theorem tb_ok44_0 : (tb_c44).all (tb_okc tb_m44) = true := by decide +kernel
set_option maxRecDepth 100000 in
theorem tb_ok44_l0 : (tb_l44).all (tb_okl tb_m44) = true := by decide +kernel
set_option maxRecDepth 100000 in
theorem tb_ok44 : tb_okm tb_m44 := ⟨Or.inr (by decide +kernel), tb_ok44_0, tb_ok44_l0, by decide +kernel⟩
/-! CountedActors$Draft.follow(LCountedActors$Statement;)V -/
set_option maxRecDepth 100000 in
theorem tb_ok45_0 : (tb_c45.take 24).all (tb_okc tb_m45) = true := by decide +kernel
set_option maxRecDepth 100000 in
theorem tb_ok45_1 : ((tb_c45.drop 24).take 24).all (tb_okc tb_m45) = true := by decide +kernel
set_option maxRecDepth 100000 in
theorem tb_ok45_2 : (((tb_c45.drop 24).drop 24).take 24).all (tb_okc tb_m45) = true := by decide +kernel
set_option maxRecDepth 100000 in
theorem tb_ok45_3 : ((((tb_c45.drop 24).drop 24).drop 24)).all (tb_okc tb_m45) = true := by decide +kernel
set_option maxRecDepth 100000 in
theorem tb_ok45_l0 : (tb_l45.take 6).all (tb_okl tb_m45) = true := by decide +kernel
set_option maxRecDepth 100000 in
theorem tb_ok45_l1 : ((tb_l45.drop 6).take 6).all (tb_okl tb_m45) = true := by decide +kernel
set_option maxRecDepth 100000 in
theorem tb_ok45_l2 : (((tb_l45.drop 6).drop 6)).all (tb_okl tb_m45) = true := by decide +kernel
set_option maxRecDepth 100000 in
theorem tb_ok45 : tb_okm tb_m45 := ⟨Or.inr (by decide +kernel), tb_cut 24 tb_ok45_0 (tb_cut 24 tb_ok45_1 (tb_cut 24 tb_ok45_2 (tb_ok45_3))), tb_cut 6 tb_ok45_l0 (tb_cut 6 tb_ok45_l1 (tb_ok45_l2)), by decide +kernel⟩
/-! CountedActors$Draft.become(II)V -/
set_option maxRecDepth 100000 in
theorem tb_ok46_0 : (tb_c46).all (tb_okc tb_m46) = true := by decide +kernel
set_option maxRecDepth 100000 in
theorem tb_ok46_l0 : (tb_l46).all (tb_okl tb_m46) = true := by decide +kernel
set_option maxRecDepth 100000 in
theorem tb_ok46 : tb_okm tb_m46 := ⟨Or.inr (by decide +kernel), tb_ok46_0, tb_ok46_l0, by decide +kernel⟩
/-! CountedActors$Draft.emptied(I)I -/
set_option maxRecDepth 100000 in
theorem tb_ok47_0 : (tb_c47).all (tb_okc tb_m47) = true := by decide +kernel
set_option maxRecDepth 100000 in
theorem tb_ok47_l0 : (tb_l47).all (tb_okl tb_m47) = true := by decide +kernel
set_option maxRecDepth 100000 in
theorem tb_ok47 : tb_okm tb_m47 := ⟨Or.inr (by decide +kernel), tb_ok47_0, tb_ok47_l0, by decide +kernel⟩
/-! CountedActors$Capability.view(II)I -/
set_option maxRecDepth 100000 in
theorem tb_ok48_0 : (tb_c48).all (tb_okc tb_m48) = true := by decide +kernel
set_option maxRecDepth 100000 in
theorem tb_ok48_l0 : (tb_l48).all (tb_okl tb_m48) = true := by decide +kernel
set_option maxRecDepth 100000 in
theorem tb_ok48 : tb_okm tb_m48 := ⟨Or.inr (by decide +kernel), tb_ok48_0, tb_ok48_l0, by decide +kernel⟩
/-! CountedActors$Capability.drawn(II)I -/
set_option maxRecDepth 100000 in
theorem tb_ok49_0 : (tb_c49).all (tb_okc tb_m49) = true := by decide +kernel
set_option maxRecDepth 100000 in
theorem tb_ok49_l0 : (tb_l49).all (tb_okl tb_m49) = true := by decide +kernel
set_option maxRecDepth 100000 in
theorem tb_ok49 : tb_okm tb_m49 := ⟨Or.inr (by decide +kernel), tb_ok49_0, tb_ok49_l0, by decide +kernel⟩
/-! CountedActors$Draft.enterBlock()V -/
set_option maxRecDepth 100000 in
theorem tb_ok50_0 : (tb_c50.take 24).all (tb_okc tb_m50) = true := by decide +kernel
set_option maxRecDepth 100000 in
theorem tb_ok50_1 : ((tb_c50.drop 24)).all (tb_okc tb_m50) = true := by decide +kernel
set_option maxRecDepth 100000 in
theorem tb_ok50_l0 : (tb_l50).all (tb_okl tb_m50) = true := by decide +kernel
set_option maxRecDepth 100000 in
theorem tb_ok50 : tb_okm tb_m50 := ⟨Or.inr (by decide +kernel), tb_cut 24 tb_ok50_0 (tb_ok50_1), tb_ok50_l0, by decide +kernel⟩
/-! CountedActors$Draft.shut(II)V -/
set_option maxRecDepth 100000 in
theorem tb_ok51_0 : (tb_c51.take 24).all (tb_okc tb_m51) = true := by decide +kernel
set_option maxRecDepth 100000 in
theorem tb_ok51_1 : ((tb_c51.drop 24)).all (tb_okc tb_m51) = true := by decide +kernel
set_option maxRecDepth 100000 in
theorem tb_ok51_l0 : (tb_l51).all (tb_okl tb_m51) = true := by decide +kernel
set_option maxRecDepth 100000 in
theorem tb_ok51 : tb_okm tb_m51 := ⟨Or.inr (by decide +kernel), tb_cut 24 tb_ok51_0 (tb_ok51_1), tb_ok51_l0, by decide +kernel⟩
/-! CountedActors$Capability.outOfBlock(I)I -/
set_option maxRecDepth 100000 in
theorem tb_ok52_0 : (tb_c52).all (tb_okc tb_m52) = true := by decide +kernel
set_option maxRecDepth 100000 in
theorem tb_ok52_l0 : (tb_l52).all (tb_okl tb_m52) = true := by decide +kernel
set_option maxRecDepth 100000 in
theorem tb_ok52 : tb_okm tb_m52 := ⟨Or.inr (by decide +kernel), tb_ok52_0, tb_ok52_l0, by decide +kernel⟩
/-! CountedActors$Behaviour.keepNext()V -/
set_option maxRecDepth 100000 in
theorem tb_ok53_0 : (tb_c53).all (tb_okc tb_m53) = true := by decide +kernel
set_option maxRecDepth 100000 in
theorem tb_ok53_l0 : (tb_l53).all (tb_okl tb_m53) = true := by decide +kernel
set_option maxRecDepth 100000 in
theorem tb_ok53 : tb_okm tb_m53 := ⟨Or.inr (by decide +kernel), tb_ok53_0, tb_ok53_l0, by decide +kernel⟩
/-! CountedActors.end()Z -/
set_option maxRecDepth 100000 in
theorem tb_ok54_0 : (tb_c54).all (tb_okc tb_m54) = true := by decide +kernel
set_option maxRecDepth 100000 in
theorem tb_ok54_l0 : (tb_l54).all (tb_okl tb_m54) = true := by decide +kernel
set_option maxRecDepth 100000 in
theorem tb_ok54 : tb_okm tb_m54 := ⟨Or.inr (by decide +kernel), tb_ok54_0, tb_ok54_l0, by decide +kernel⟩
/-! CountedActors$Program.finish()Z -/
set_option maxRecDepth 100000 in
theorem tb_ok55_0 : (tb_c55).all (tb_okc tb_m55) = true := by decide +kernel
set_option maxRecDepth 100000 in
theorem tb_ok55_l0 : (tb_l55).all (tb_okl tb_m55) = true := by decide +kernel
set_option maxRecDepth 100000 in
theorem tb_ok55 : tb_okm tb_m55 := ⟨Or.inr (by decide +kernel), tb_ok55_0, tb_ok55_l0, by decide +kernel⟩
/-! CountedActors$Draft.isInBlock()Z -/
set_option maxRecDepth 100000 in
theorem tb_ok56_0 : (tb_c56).all (tb_okc tb_m56) = true := by decide +kernel
set_option maxRecDepth 100000 in
theorem tb_ok56_l0 : (tb_l56).all (tb_okl tb_m56) = true := by decide +kernel
set_option maxRecDepth 100000 in
theorem tb_ok56 : tb_okm tb_m56 := ⟨Or.inr (by decide +kernel), tb_ok56_0, tb_ok56_l0, by decide +kernel⟩
/-! CountedActors.drop()Z -/
set_option maxRecDepth 100000 in
theorem tb_ok57_0 : (tb_c57).all (tb_okc tb_m57) = true := by decide +kernel
set_option maxRecDepth 100000 in
theorem tb_ok57_l0 : (tb_l57).all (tb_okl tb_m57) = true := by decide +kernel
set_option maxRecDepth 100000 in
theorem tb_ok57 : tb_okm tb_m57 := ⟨Or.inr (by decide +kernel), tb_ok57_0, tb_ok57_l0, by decide +kernel⟩
/-! CountedActors$Program.giveUp()Z -/
set_option maxRecDepth 100000 in
theorem tb_ok58_0 : (tb_c58).all (tb_okc tb_m58) = true := by decide +kernel
set_option maxRecDepth 100000 in
theorem tb_ok58_l0 : (tb_l58).all (tb_okl tb_m58) = true := by decide +kernel
set_option maxRecDepth 100000 in
theorem tb_ok58 : tb_okm tb_m58 := ⟨Or.inr (by decide +kernel), tb_ok58_0, tb_ok58_l0, by decide +kernel⟩
/-! CountedActors.holds(I)I -/
set_option maxRecDepth 100000 in
theorem tb_ok59_0 : (tb_c59).all (tb_okc tb_m59) = true := by decide +kernel
set_option maxRecDepth 100000 in
theorem tb_ok59_l0 : (tb_l59).all (tb_okl tb_m59) = true := by decide +kernel
set_option maxRecDepth 100000 in
theorem tb_ok59 : tb_okm tb_m59 := ⟨Or.inr (by decide +kernel), tb_ok59_0, tb_ok59_l0, by decide +kernel⟩
/-! CountedActors$Program.capabilityShown(I)I -/
set_option maxRecDepth 100000 in
theorem tb_ok60_0 : (tb_c60).all (tb_okc tb_m60) = true := by decide +kernel
set_option maxRecDepth 100000 in
theorem tb_ok60_l0 : (tb_l60).all (tb_okl tb_m60) = true := by decide +kernel
set_option maxRecDepth 100000 in
theorem tb_ok60 : tb_okm tb_m60 := ⟨Or.inr (by decide +kernel), tb_ok60_0, tb_ok60_l0, by decide +kernel⟩
/-! CountedActors$Draft.isHidden(I)Z -/
set_option maxRecDepth 100000 in
theorem tb_ok61_0 : (tb_c61).all (tb_okc tb_m61) = true := by decide +kernel
set_option maxRecDepth 100000 in
theorem tb_ok61_l0 : (tb_l61).all (tb_okl tb_m61) = true := by decide +kernel
set_option maxRecDepth 100000 in
theorem tb_ok61 : tb_okm tb_m61 := ⟨Or.inr (by decide +kernel), tb_ok61_0, tb_ok61_l0, by decide +kernel⟩
/-! CountedActors.post(II)Z -/
set_option maxRecDepth 100000 in
theorem tb_ok62_0 : (tb_c62.take 24).all (tb_okc tb_m62) = true := by decide +kernel
set_option maxRecDepth 100000 in
theorem tb_ok62_1 : ((tb_c62.drop 24)).all (tb_okc tb_m62) = true := by decide +kernel
set_option maxRecDepth 100000 in
theorem tb_ok62_l0 : (tb_l62).all (tb_okl tb_m62) = true := by decide +kernel
set_option maxRecDepth 100000 in
theorem tb_ok62 : tb_okm tb_m62 := ⟨Or.inr (by decide +kernel), tb_cut 24 tb_ok62_0 (tb_ok62_1), tb_ok62_l0, by decide +kernel⟩
/-! CountedActors.isActor(I)Z -/
set_option maxRecDepth 100000 in
theorem tb_ok63_0 : (tb_c63).all (tb_okc tb_m63) = true := by decide +kernel
set_option maxRecDepth 100000 in
theorem tb_ok63_l0 : (tb_l63).all (tb_okl tb_m63) = true := by decide +kernel
set_option maxRecDepth 100000 in
theorem tb_ok63 : tb_okm tb_m63 := ⟨Or.inr (by decide +kernel), tb_ok63_0, tb_ok63_l0, by decide +kernel⟩
/-! CountedActors$Program.isFinished(I)Z -/
set_option maxRecDepth 100000 in
theorem tb_ok64_0 : (tb_c64).all (tb_okc tb_m64) = true := by decide +kernel
set_option maxRecDepth 100000 in
theorem tb_ok64_l0 : (tb_l64).all (tb_okl tb_m64) = true := by decide +kernel
set_option maxRecDepth 100000 in
theorem tb_ok64 : tb_okm tb_m64 := ⟨Or.inr (by decide +kernel), tb_ok64_0, tb_ok64_l0, by decide +kernel⟩
/-! CountedActors$Mail.room()I -/
set_option maxRecDepth 100000 in
theorem tb_ok65_0 : (tb_c65).all (tb_okc tb_m65) = true := by decide +kernel
set_option maxRecDepth 100000 in
theorem tb_ok65_l0 : (tb_l65).all (tb_okl tb_m65) = true := by decide +kernel
set_option maxRecDepth 100000 in
theorem tb_ok65 : tb_okm tb_m65 := ⟨Or.inr (by decide +kernel), tb_ok65_0, tb_ok65_l0, by decide +kernel⟩
/-! CountedActors$Mail.put(IIII)V -/
set_option maxRecDepth 100000 in
theorem tb_ok66_0 : (tb_c66.take 24).all (tb_okc tb_m66) = true := by decide +kernel
set_option maxRecDepth 100000 in
theorem tb_ok66_1 : ((tb_c66.drop 24)).all (tb_okc tb_m66) = true := by decide +kernel
set_option maxRecDepth 100000 in
theorem tb_ok66_l0 : (tb_l66).all (tb_okl tb_m66) = true := by decide +kernel
set_option maxRecDepth 100000 in
theorem tb_ok66 : tb_okm tb_m66 := ⟨Or.inr (by decide +kernel), tb_cut 24 tb_ok66_0 (tb_ok66_1), tb_ok66_l0, by decide +kernel⟩
/-! CountedActors.step(I)I -/
set_option maxRecDepth 100000 in
theorem tb_ok67_0 : (tb_c67).all (tb_okc tb_m67) = true := by decide +kernel
set_option maxRecDepth 100000 in
theorem tb_ok67_l0 : (tb_l67).all (tb_okl tb_m67) = true := by decide +kernel
set_option maxRecDepth 100000 in
theorem tb_ok67 : tb_okm tb_m67 := ⟨Or.inr (by decide +kernel), tb_ok67_0, tb_ok67_l0, by decide +kernel⟩
/-! CountedActors$Machine.takeMessage(I)I -/
set_option maxRecDepth 100000 in
theorem tb_ok68_0 : (tb_c68.take 24).all (tb_okc tb_m68) = true := by decide +kernel
set_option maxRecDepth 100000 in
theorem tb_ok68_1 : ((tb_c68.drop 24).take 24).all (tb_okc tb_m68) = true := by decide +kernel
set_option maxRecDepth 100000 in
theorem tb_ok68_2 : (((tb_c68.drop 24).drop 24)).all (tb_okc tb_m68) = true := by decide +kernel
set_option maxRecDepth 100000 in
theorem tb_ok68_l0 : (tb_l68.take 6).all (tb_okl tb_m68) = true := by decide +kernel
set_option maxRecDepth 100000 in
theorem tb_ok68_l1 : ((tb_l68.drop 6)).all (tb_okl tb_m68) = true := by decide +kernel
set_option maxRecDepth 100000 in
theorem tb_ok68 : tb_okm tb_m68 := ⟨Or.inr (by decide +kernel), tb_cut 24 tb_ok68_0 (tb_cut 24 tb_ok68_1 (tb_ok68_2)), tb_cut 6 tb_ok68_l0 (tb_ok68_l1), by decide +kernel⟩
/-! CountedActors$Mail.frontOf(I)I -/
set_option maxRecDepth 100000 in
theorem tb_ok69_0 : (tb_c69).all (tb_okc tb_m69) = true := by decide +kernel
set_option maxRecDepth 100000 in
theorem tb_ok69_l0 : (tb_l69).all (tb_okl tb_m69) = true := by decide +kernel
set_option maxRecDepth 100000 in
theorem tb_ok69 : tb_okm tb_m69 := ⟨Or.inr (by decide +kernel), tb_ok69_0, tb_ok69_l0, by decide +kernel⟩
/-! CountedActors$Mail.kindAt(I)I -/
set_option maxRecDepth 100000 in
theorem tb_ok70_0 : (tb_c70).all (tb_okc tb_m70) = true := by decide +kernel
set_option maxRecDepth 100000 in
theorem tb_ok70_l0 : (tb_l70).all (tb_okl tb_m70) = true := by decide +kernel
set_option maxRecDepth 100000 in
theorem tb_ok70 : tb_okm tb_m70 := ⟨Or.inr (by decide +kernel), tb_ok70_0, tb_ok70_l0, by decide +kernel⟩
/-! CountedActors$Mail.objectAt(I)I -/
set_option maxRecDepth 100000 in
theorem tb_ok71_0 : (tb_c71).all (tb_okc tb_m71) = true := by decide +kernel
set_option maxRecDepth 100000 in
theorem tb_ok71_l0 : (tb_l71).all (tb_okl tb_m71) = true := by decide +kernel
set_option maxRecDepth 100000 in
theorem tb_ok71 : tb_okm tb_m71 := ⟨Or.inr (by decide +kernel), tb_ok71_0, tb_ok71_l0, by decide +kernel⟩
/-! CountedActors$Mail.numberAt(I)I -/
set_option maxRecDepth 100000 in
theorem tb_ok72_0 : (tb_c72).all (tb_okc tb_m72) = true := by decide +kernel
set_option maxRecDepth 100000 in
theorem tb_ok72_l0 : (tb_l72).all (tb_okl tb_m72) = true := by decide +kernel
set_option maxRecDepth 100000 in
theorem tb_ok72 : tb_okm tb_m72 := ⟨Or.inr (by decide +kernel), tb_ok72_0, tb_ok72_l0, by decide +kernel⟩
/-! CountedActors$Mail.removeAt(I)V -/
set_option maxRecDepth 100000 in
theorem tb_ok73_0 : (tb_c73.take 24).all (tb_okc tb_m73) = true := by decide +kernel
set_option maxRecDepth 100000 in
theorem tb_ok73_1 : ((tb_c73.drop 24).take 24).all (tb_okc tb_m73) = true := by decide +kernel
set_option maxRecDepth 100000 in
theorem tb_ok73_2 : (((tb_c73.drop 24).drop 24)).all (tb_okc tb_m73) = true := by decide +kernel
set_option maxRecDepth 100000 in
theorem tb_ok73_l0 : (tb_l73).all (tb_okl tb_m73) = true := by decide +kernel
set_option maxRecDepth 100000 in
theorem tb_ok73 : tb_okm tb_m73 := ⟨Or.inr (by decide +kernel), tb_cut 24 tb_ok73_0 (tb_cut 24 tb_ok73_1 (tb_ok73_2)), tb_ok73_l0, by decide +kernel⟩
/-! CountedActors$Machine.countTaken(III)V -/
set_option maxRecDepth 100000 in
theorem tb_ok74_0 : (tb_c74.take 24).all (tb_okc tb_m74) = true := by decide +kernel
set_option maxRecDepth 100000 in
theorem tb_ok74_1 : ((tb_c74.drop 24)).all (tb_okc tb_m74) = true := by decide +kernel
set_option maxRecDepth 100000 in
theorem tb_ok74_l0 : (tb_l74.take 6).all (tb_okl tb_m74) = true := by decide +kernel
set_option maxRecDepth 100000 in
theorem tb_ok74_l1 : ((tb_l74.drop 6)).all (tb_okl tb_m74) = true := by decide +kernel
set_option maxRecDepth 100000 in
theorem tb_ok74 : tb_okm tb_m74 := ⟨Or.inr (by decide +kernel), tb_cut 24 tb_ok74_0 (tb_ok74_1), tb_cut 6 tb_ok74_l0 (tb_ok74_l1), by decide +kernel⟩
/-! CountedActors$Walk.startFrom(II)V -/
set_option maxRecDepth 100000 in
theorem tb_ok75_0 : (tb_c75).all (tb_okc tb_m75) = true := by decide +kernel
set_option maxRecDepth 100000 in
theorem tb_ok75_l0 : (tb_l75).all (tb_okl tb_m75) = true := by decide +kernel
set_option maxRecDepth 100000 in
theorem tb_ok75 : tb_okm tb_m75 := ⟨Or.inr (by decide +kernel), tb_ok75_0, tb_ok75_l0, by decide +kernel⟩
/-! CountedActors$Walk.start()V -/
set_option maxRecDepth 100000 in
theorem tb_ok76_0 : (tb_c76).all (tb_okc tb_m76) = true := by decide +kernel
set_option maxRecDepth 100000 in
theorem tb_ok76_l0 : (tb_l76).all (tb_okl tb_m76) = true := by decide +kernel
set_option maxRecDepth 100000 in
theorem tb_ok76 : tb_okm tb_m76 := ⟨Or.inr (by decide +kernel), tb_ok76_0, tb_ok76_l0, by decide +kernel⟩
/-! CountedActors$Walk.meet(II)V -/
set_option maxRecDepth 100000 in
theorem tb_ok77_0 : (tb_c77.take 24).all (tb_okc tb_m77) = true := by decide +kernel
set_option maxRecDepth 100000 in
theorem tb_ok77_1 : ((tb_c77.drop 24)).all (tb_okc tb_m77) = true := by decide +kernel
set_option maxRecDepth 100000 in
theorem tb_ok77_l0 : (tb_l77).all (tb_okl tb_m77) = true := by decide +kernel
set_option maxRecDepth 100000 in
theorem tb_ok77 : tb_okm tb_m77 := ⟨Or.inr (by decide +kernel), tb_cut 24 tb_ok77_0 (tb_ok77_1), tb_ok77_l0, by decide +kernel⟩
/-! CountedActors$Walk.followClosure()V -/
set_option maxRecDepth 100000 in
theorem tb_ok78_0 : (tb_c78.take 24).all (tb_okc tb_m78) = true := by decide +kernel
set_option maxRecDepth 100000 in
theorem tb_ok78_1 : ((tb_c78.drop 24)).all (tb_okc tb_m78) = true := by decide +kernel
set_option maxRecDepth 100000 in
theorem tb_ok78_l0 : (tb_l78).all (tb_okl tb_m78) = true := by decide +kernel
set_option maxRecDepth 100000 in
theorem tb_ok78 : tb_okm tb_m78 := ⟨Or.inr (by decide +kernel), tb_cut 24 tb_ok78_0 (tb_ok78_1), tb_ok78_l0, by decide +kernel⟩
/-! CountedActors$Heap.heldBy(II)I -/
set_option maxRecDepth 100000 in
theorem tb_ok79_0 : (tb_c79).all (tb_okc tb_m79) = true := by decide +kernel
set_option maxRecDepth 100000 in
theorem tb_ok79_l0 : (tb_l79).all (tb_okl tb_m79) = true := by decide +kernel
set_option maxRecDepth 100000 in
theorem tb_ok79 : tb_okm tb_m79 := ⟨Or.inr (by decide +kernel), tb_ok79_0, tb_ok79_l0, by decide +kernel⟩
/-! CountedActors$Walk.hasMet(I)Z -/
set_option maxRecDepth 100000 in
theorem tb_ok80_0 : (tb_c80).all (tb_okc tb_m80) = true := by decide +kernel
set_option maxRecDepth 100000 in
theorem tb_ok80_l0 : (tb_l80).all (tb_okl tb_m80) = true := by decide +kernel
set_option maxRecDepth 100000 in
theorem tb_ok80 : tb_okm tb_m80 := ⟨Or.inr (by decide +kernel), tb_ok80_0, tb_ok80_l0, by decide +kernel⟩
/-! CountedActors$Heap.ownerOf(I)I -/
set_option maxRecDepth 100000 in
theorem tb_ok81_0 : (tb_c81).all (tb_okc tb_m81) = true := by decide +kernel
set_option maxRecDepth 100000 in
theorem tb_ok81_l0 : (tb_l81).all (tb_okl tb_m81) = true := by decide +kernel
set_option maxRecDepth 100000 in
theorem tb_ok81 : tb_okm tb_m81 := ⟨Or.inr (by decide +kernel), tb_ok81_0, tb_ok81_l0, by decide +kernel⟩
/-! CountedActors$Heap.growCount(III)V -/
set_option maxRecDepth 100000 in
theorem tb_ok82_0 : (tb_c82).all (tb_okc tb_m82) = true := by decide +kernel
set_option maxRecDepth 100000 in
theorem tb_ok82_l0 : (tb_l82).all (tb_okl tb_m82) = true := by decide +kernel
set_option maxRecDepth 100000 in
theorem tb_ok82 : tb_okm tb_m82 := ⟨Or.inr (by decide +kernel), tb_ok82_0, tb_ok82_l0, by decide +kernel⟩
/-! CountedActors$Program.behaviour(I)LCountedActors$Behaviour; -/
set_option maxRecDepth 100000 in
theorem tb_ok83_0 : (tb_c83).all (tb_okc tb_m83) = true := by decide +kernel
set_option maxRecDepth 100000 in
theorem tb_ok83_l0 : (tb_l83).all (tb_okl tb_m83) = true := by decide +kernel
set_option maxRecDepth 100000 in
theorem tb_ok83 : tb_okm tb_m83 := ⟨Or.inr (by decide +kernel), tb_ok83_0, tb_ok83_l0, by decide +kernel⟩
/-! CountedActors$Machine.run(IILCountedActors$Behaviour;)V -/
set_option maxRecDepth 100000 in
theorem tb_ok84_0 : (tb_c84).all (tb_okc tb_m84) = true := by decide +kernel
set_option maxRecDepth 100000 in
theorem tb_ok84_l0 : (tb_l84).all (tb_okl tb_m84) = true := by decide +kernel
set_option maxRecDepth 100000 in
theorem tb_ok84 : tb_okm tb_m84 := ⟨Or.inr (by decide +kernel), tb_ok84_0, tb_ok84_l0, by decide +kernel⟩
/-! CountedActors$Machine.perform(ILCountedActors$Statement;)V -/
set_option maxRecDepth 100000 in
theorem tb_ok85_0 : (tb_c85.take 24).all (tb_okc tb_m85) = true := by decide +kernel
set_option maxRecDepth 100000 in
theorem tb_ok85_1 : ((tb_c85.drop 24).take 24).all (tb_okc tb_m85) = true := by decide +kernel
set_option maxRecDepth 100000 in
theorem tb_ok85_2 : (((tb_c85.drop 24).drop 24).take 24).all (tb_okc tb_m85) = true := by decide +kernel
set_option maxRecDepth 100000 in
theorem tb_ok85_3 : ((((tb_c85.drop 24).drop 24).drop 24).take 24).all (tb_okc tb_m85) = true := by decide +kernel
set_option maxRecDepth 100000 in
theorem tb_ok85_4 : (((((tb_c85.drop 24).drop 24).drop 24).drop 24)).all (tb_okc tb_m85) = true := by decide +kernel
set_option maxRecDepth 100000 in
theorem tb_ok85_l0 : (tb_l85.take 6).all (tb_okl tb_m85) = true := by decide +kernel
set_option maxRecDepth 100000 in
theorem tb_ok85_l1 : ((tb_l85.drop 6).take 6).all (tb_okl tb_m85) = true := by decide +kernel
set_option maxRecDepth 100000 in
theorem tb_ok85_l2 : (((tb_l85.drop 6).drop 6)).all (tb_okl tb_m85) = true := by decide +kernel
set_option maxRecDepth 100000 in
theorem tb_ok85 : tb_okm tb_m85 := ⟨Or.inr (by decide +kernel), tb_cut 24 tb_ok85_0 (tb_cut 24 tb_ok85_1 (tb_cut 24 tb_ok85_2 (tb_cut 24 tb_ok85_3 (tb_ok85_4)))), tb_cut 6 tb_ok85_l0 (tb_cut 6 tb_ok85_l1 (tb_ok85_l2)), by decide +kernel⟩
/-! CountedActors$Machine.makeObject(I)I -/
set_option maxRecDepth 100000 in
theorem tb_ok86_0 : (tb_c86).all (tb_okc tb_m86) = true := by decide +kernel
set_option maxRecDepth 100000 in
theorem tb_ok86_l0 : (tb_l86).all (tb_okl tb_m86) = true := by decide +kernel
set_option maxRecDepth 100000 in
theorem tb_ok86 : tb_okm tb_m86 := ⟨Or.inr (by decide +kernel), tb_ok86_0, tb_ok86_l0, by decide +kernel⟩
/-! CountedActors$Heap.make(I)I -/
set_option maxRecDepth 100000 in
theorem tb_ok87_0 : (tb_c87.take 24).all (tb_okc tb_m87) = true := by decide +kernel
set_option maxRecDepth 100000 in
theorem tb_ok87_1 : ((tb_c87.drop 24)).all (tb_okc tb_m87) = true := by decide +kernel
set_option maxRecDepth 100000 in
theorem tb_ok87_l0 : (tb_l87).all (tb_okl tb_m87) = true := by decide +kernel
set_option maxRecDepth 100000 in
theorem tb_ok87 : tb_okm tb_m87 := ⟨Or.inr (by decide +kernel), tb_cut 24 tb_ok87_0 (tb_ok87_1), tb_ok87_l0, by decide +kernel⟩
/-! CountedActors$Heap.clear(I)V -/
set_option maxRecDepth 100000 in
theorem tb_ok88_0 : (tb_c88.take 24).all (tb_okc tb_m88) = true := by decide +kernel
set_option maxRecDepth 100000 in
theorem tb_ok88_1 : ((tb_c88.drop 24)).all (tb_okc tb_m88) = true := by decide +kernel
set_option maxRecDepth 100000 in
theorem tb_ok88_l0 : (tb_l88).all (tb_okl tb_m88) = true := by decide +kernel
set_option maxRecDepth 100000 in
theorem tb_ok88 : tb_okm tb_m88 := ⟨Or.inr (by decide +kernel), tb_cut 24 tb_ok88_0 (tb_ok88_1), tb_ok88_l0, by decide +kernel⟩
/-! CountedActors$Heap.hold(III)V -/
set_option maxRecDepth 100000 in
theorem tb_ok89_0 : (tb_c89).all (tb_okc tb_m89) = true := by decide +kernel
set_option maxRecDepth 100000 in
theorem tb_ok89_l0 : (tb_l89).all (tb_okl tb_m89) = true := by decide +kernel
set_option maxRecDepth 100000 in
theorem tb_ok89 : tb_okm tb_m89 := ⟨Or.inr (by decide +kernel), tb_ok89_0, tb_ok89_l0, by decide +kernel⟩
/-! CountedActors$Machine.holderOf(II)I -/
set_option maxRecDepth 100000 in
theorem tb_ok90_0 : (tb_c90).all (tb_okc tb_m90) = true := by decide +kernel
set_option maxRecDepth 100000 in
theorem tb_ok90_l0 : (tb_l90).all (tb_okl tb_m90) = true := by decide +kernel
set_option maxRecDepth 100000 in
theorem tb_ok90 : tb_okm tb_m90 := ⟨Or.inr (by decide +kernel), tb_ok90_0, tb_ok90_l0, by decide +kernel⟩
/-! CountedActors$Heap.holderOfActor(I)I -/
set_option maxRecDepth 100000 in
theorem tb_ok91_0 : (tb_c91).all (tb_okc tb_m91) = true := by decide +kernel
set_option maxRecDepth 100000 in
theorem tb_ok91_l0 : (tb_l91).all (tb_okl tb_m91) = true := by decide +kernel
set_option maxRecDepth 100000 in
theorem tb_ok91 : tb_okm tb_m91 := ⟨Or.inr (by decide +kernel), tb_ok91_0, tb_ok91_l0, by decide +kernel⟩
/-! CountedActors$Machine.read(II)I -/
set_option maxRecDepth 100000 in
theorem tb_ok92_0 : (tb_c92).all (tb_okc tb_m92) = true := by decide +kernel
set_option maxRecDepth 100000 in
theorem tb_ok92_l0 : (tb_l92).all (tb_okl tb_m92) = true := by decide +kernel
set_option maxRecDepth 100000 in
theorem tb_ok92 : tb_okm tb_m92 := ⟨Or.inr (by decide +kernel), tb_ok92_0, tb_ok92_l0, by decide +kernel⟩
/-! CountedActors$Machine.replace(III)I -/
set_option maxRecDepth 100000 in
theorem tb_ok93_0 : (tb_c93).all (tb_okc tb_m93) = true := by decide +kernel
set_option maxRecDepth 100000 in
theorem tb_ok93_l0 : (tb_l93).all (tb_okl tb_m93) = true := by decide +kernel
set_option maxRecDepth 100000 in
theorem tb_ok93 : tb_okm tb_m93 := ⟨Or.inr (by decide +kernel), tb_ok93_0, tb_ok93_l0, by decide +kernel⟩
/-! CountedActors$Machine.growCell(II)V -/
set_option maxRecDepth 100000 in
theorem tb_ok94_0 : (tb_c94).all (tb_okc tb_m94) = true := by decide +kernel
set_option maxRecDepth 100000 in
theorem tb_ok94_l0 : (tb_l94).all (tb_okl tb_m94) = true := by decide +kernel
set_option maxRecDepth 100000 in
theorem tb_ok94 : tb_okm tb_m94 := ⟨Or.inr (by decide +kernel), tb_ok94_0, tb_ok94_l0, by decide +kernel⟩
/-! CountedActors$Heap.growCell(II)V -/
set_option maxRecDepth 100000 in
theorem tb_ok95_0 : (tb_c95).all (tb_okc tb_m95) = true := by decide +kernel
set_option maxRecDepth 100000 in
theorem tb_ok95_l0 : (tb_l95).all (tb_okl tb_m95) = true := by decide +kernel
set_option maxRecDepth 100000 in
theorem tb_ok95 : tb_okm tb_m95 := ⟨Or.inr (by decide +kernel), tb_ok95_0, tb_ok95_l0, by decide +kernel⟩
/-! CountedActors$Machine.showCell(I)V -/
set_option maxRecDepth 100000 in
theorem tb_ok96_0 : (tb_c96).all (tb_okc tb_m96) = true := by decide +kernel
set_option maxRecDepth 100000 in
theorem tb_ok96_l0 : (tb_l96).all (tb_okl tb_m96) = true := by decide +kernel
set_option maxRecDepth 100000 in
theorem tb_ok96 : tb_okm tb_m96 := ⟨Or.inr (by decide +kernel), tb_ok96_0, tb_ok96_l0, by decide +kernel⟩
/-! CountedActors$Heap.cellOf(I)I -/
set_option maxRecDepth 100000 in
theorem tb_ok97_0 : (tb_c97).all (tb_okc tb_m97) = true := by decide +kernel
set_option maxRecDepth 100000 in
theorem tb_ok97_l0 : (tb_l97).all (tb_okl tb_m97) = true := by decide +kernel
set_option maxRecDepth 100000 in
theorem tb_ok97 : tb_okm tb_m97 := ⟨Or.inr (by decide +kernel), tb_ok97_0, tb_ok97_l0, by decide +kernel⟩
/-! CountedActors$Display.put(I)V -/
set_option maxRecDepth 100000 in
theorem tb_ok98_0 : (tb_c98).all (tb_okc tb_m98) = true := by decide +kernel
set_option maxRecDepth 100000 in
theorem tb_ok98_l0 : (tb_l98).all (tb_okl tb_m98) = true := by decide +kernel
set_option maxRecDepth 100000 in
theorem tb_ok98 : tb_okm tb_m98 := ⟨Or.inr (by decide +kernel), tb_ok98_0, tb_ok98_l0, by decide +kernel⟩
end
section
/-! CountedActors$Machine.send(IIII)V -/
set_option maxRecDepth 100000 in
theorem tb_ok99_0 : (tb_c99.take 24).all (tb_okc tb_m99) = true := by decide +kernel
set_option maxRecDepth 100000 in
theorem tb_ok99_1 : ((tb_c99.drop 24).take 24).all (tb_okc tb_m99) = true := by decide +kernel
set_option maxRecDepth 100000 in
theorem tb_ok99_2 : (((tb_c99.drop 24).drop 24)).all (tb_okc tb_m99) = true := by decide +kernel
set_option maxRecDepth 100000 in
theorem tb_ok99_l0 : (tb_l99.take 6).all (tb_okl tb_m99) = true := by decide +kernel
set_option maxRecDepth 100000 in
theorem tb_ok99_l1 : ((tb_l99.drop 6)).all (tb_okl tb_m99) = true := by decide +kernel
set_option maxRecDepth 100000 in
theorem tb_ok99 : tb_okm tb_m99 := ⟨Or.inr (by decide +kernel), tb_cut 24 tb_ok99_0 (tb_cut 24 tb_ok99_1 (tb_ok99_2)), tb_cut 6 tb_ok99_l0 (tb_ok99_l1), by decide +kernel⟩
/-! CountedActors$Machine.raisesNeeded(I)I -/
set_option maxRecDepth 100000 in
theorem tb_ok100_0 : (tb_c100.take 24).all (tb_okc tb_m100) = true := by decide +kernel
set_option maxRecDepth 100000 in
theorem tb_ok100_1 : ((tb_c100.drop 24)).all (tb_okc tb_m100) = true := by decide +kernel
set_option maxRecDepth 100000 in
theorem tb_ok100_l0 : (tb_l100).all (tb_okl tb_m100) = true := by decide +kernel
set_option maxRecDepth 100000 in
theorem tb_ok100 : tb_okm tb_m100 := ⟨Or.inr (by decide +kernel), tb_cut 24 tb_ok100_0 (tb_ok100_1), tb_ok100_l0, by decide +kernel⟩
/-! CountedActors$Heap.countOf(II)I -/
set_option maxRecDepth 100000 in
theorem tb_ok101_0 : (tb_c101).all (tb_okc tb_m101) = true := by decide +kernel
set_option maxRecDepth 100000 in
theorem tb_ok101_l0 : (tb_l101).all (tb_okl tb_m101) = true := by decide +kernel
set_option maxRecDepth 100000 in
theorem tb_ok101 : tb_okm tb_m101 := ⟨Or.inr (by decide +kernel), tb_ok101_0, tb_ok101_l0, by decide +kernel⟩
/-! CountedActors$Machine.countSent(II)V -/
set_option maxRecDepth 100000 in
theorem tb_ok102_0 : (tb_c102.take 24).all (tb_okc tb_m102) = true := by decide +kernel
set_option maxRecDepth 100000 in
theorem tb_ok102_1 : ((tb_c102.drop 24)).all (tb_okc tb_m102) = true := by decide +kernel
set_option maxRecDepth 100000 in
theorem tb_ok102_l0 : (tb_l102).all (tb_okl tb_m102) = true := by decide +kernel
set_option maxRecDepth 100000 in
theorem tb_ok102 : tb_okm tb_m102 := ⟨Or.inr (by decide +kernel), tb_cut 24 tb_ok102_0 (tb_ok102_1), tb_ok102_l0, by decide +kernel⟩
/-! CountedActors.collect(I)I -/
set_option maxRecDepth 100000 in
theorem tb_ok103_0 : (tb_c103).all (tb_okc tb_m103) = true := by decide +kernel
set_option maxRecDepth 100000 in
theorem tb_ok103_l0 : (tb_l103).all (tb_okl tb_m103) = true := by decide +kernel
set_option maxRecDepth 100000 in
theorem tb_ok103 : tb_okm tb_m103 := ⟨Or.inr (by decide +kernel), tb_ok103_0, tb_ok103_l0, by decide +kernel⟩
/-! CountedActors$Machine.collectFor(I)I -/
set_option maxRecDepth 100000 in
theorem tb_ok104_0 : (tb_c104.take 24).all (tb_okc tb_m104) = true := by decide +kernel
set_option maxRecDepth 100000 in
theorem tb_ok104_1 : ((tb_c104.drop 24).take 24).all (tb_okc tb_m104) = true := by decide +kernel
set_option maxRecDepth 100000 in
theorem tb_ok104_2 : (((tb_c104.drop 24).drop 24)).all (tb_okc tb_m104) = true := by decide +kernel
set_option maxRecDepth 100000 in
theorem tb_ok104_l0 : (tb_l104.take 6).all (tb_okl tb_m104) = true := by decide +kernel
set_option maxRecDepth 100000 in
theorem tb_ok104_l1 : ((tb_l104.drop 6)).all (tb_okl tb_m104) = true := by decide +kernel
set_option maxRecDepth 100000 in
theorem tb_ok104 : tb_okm tb_m104 := ⟨Or.inr (by decide +kernel), tb_cut 24 tb_ok104_0 (tb_cut 24 tb_ok104_1 (tb_ok104_2)), tb_cut 6 tb_ok104_l0 (tb_ok104_l1), by decide +kernel⟩
/-! CountedActors$Machine.meetFields(I)V -/
set_option maxRecDepth 100000 in
theorem tb_ok105_0 : (tb_c105).all (tb_okc tb_m105) = true := by decide +kernel
set_option maxRecDepth 100000 in
theorem tb_ok105_l0 : (tb_l105).all (tb_okl tb_m105) = true := by decide +kernel
set_option maxRecDepth 100000 in
theorem tb_ok105 : tb_okm tb_m105 := ⟨Or.inr (by decide +kernel), tb_ok105_0, tb_ok105_l0, by decide +kernel⟩
/-! CountedActors$Machine.isUnkept(I)Z -/
set_option maxRecDepth 100000 in
theorem tb_ok106_0 : (tb_c106).all (tb_okc tb_m106) = true := by decide +kernel
set_option maxRecDepth 100000 in
theorem tb_ok106_l0 : (tb_l106).all (tb_okl tb_m106) = true := by decide +kernel
set_option maxRecDepth 100000 in
theorem tb_ok106 : tb_okm tb_m106 := ⟨Or.inr (by decide +kernel), tb_ok106_0, tb_ok106_l0, by decide +kernel⟩
/-! CountedActors$Heap.exists(I)Z -/
set_option maxRecDepth 100000 in
theorem tb_ok107_0 : (tb_c107).all (tb_okc tb_m107) = true := by decide +kernel
set_option maxRecDepth 100000 in
theorem tb_ok107_l0 : (tb_l107).all (tb_okl tb_m107) = true := by decide +kernel
set_option maxRecDepth 100000 in
theorem tb_ok107 : tb_okm tb_m107 := ⟨Or.inr (by decide +kernel), tb_ok107_0, tb_ok107_l0, by decide +kernel⟩
/-! CountedActors$Heap.free(I)V -/
set_option maxRecDepth 100000 in
theorem tb_ok108_0 : (tb_c108).all (tb_okc tb_m108) = true := by decide +kernel
set_option maxRecDepth 100000 in
theorem tb_ok108_l0 : (tb_l108).all (tb_okl tb_m108) = true := by decide +kernel
set_option maxRecDepth 100000 in
theorem tb_ok108 : tb_okm tb_m108 := ⟨Or.inr (by decide +kernel), tb_ok108_0, tb_ok108_l0, by decide +kernel⟩
/-! CountedActors$Machine.giveBack(II)V -/
set_option maxRecDepth 100000 in
theorem tb_ok109_0 : (tb_c109.take 24).all (tb_okc tb_m109) = true := by decide +kernel
set_option maxRecDepth 100000 in
theorem tb_ok109_1 : ((tb_c109.drop 24)).all (tb_okc tb_m109) = true := by decide +kernel
set_option maxRecDepth 100000 in
theorem tb_ok109_l0 : (tb_l109.take 6).all (tb_okl tb_m109) = true := by decide +kernel
set_option maxRecDepth 100000 in
theorem tb_ok109_l1 : ((tb_l109.drop 6)).all (tb_okl tb_m109) = true := by decide +kernel
set_option maxRecDepth 100000 in
theorem tb_ok109 : tb_okm tb_m109 := ⟨Or.inr (by decide +kernel), tb_cut 24 tb_ok109_0 (tb_ok109_1), tb_cut 6 tb_ok109_l0 (tb_ok109_l1), by decide +kernel⟩
/-! CountedActors.waiting(I)I -/
set_option maxRecDepth 100000 in
theorem tb_ok110_0 : (tb_c110).all (tb_okc tb_m110) = true := by decide +kernel
set_option maxRecDepth 100000 in
theorem tb_ok110_l0 : (tb_l110).all (tb_okl tb_m110) = true := by decide +kernel
set_option maxRecDepth 100000 in
theorem tb_ok110 : tb_okm tb_m110 := ⟨Or.inr (by decide +kernel), tb_ok110_0, tb_ok110_l0, by decide +kernel⟩
/-! CountedActors$Mail.sizeFor(I)I -/
set_option maxRecDepth 100000 in
theorem tb_ok111_0 : (tb_c111).all (tb_okc tb_m111) = true := by decide +kernel
set_option maxRecDepth 100000 in
theorem tb_ok111_l0 : (tb_l111).all (tb_okl tb_m111) = true := by decide +kernel
set_option maxRecDepth 100000 in
theorem tb_ok111 : tb_okm tb_m111 := ⟨Or.inr (by decide +kernel), tb_ok111_0, tb_ok111_l0, by decide +kernel⟩
/-! CountedActors.owner(I)I -/
set_option maxRecDepth 100000 in
theorem tb_ok112_0 : (tb_c112).all (tb_okc tb_m112) = true := by decide +kernel
set_option maxRecDepth 100000 in
theorem tb_ok112_l0 : (tb_l112).all (tb_okl tb_m112) = true := by decide +kernel
set_option maxRecDepth 100000 in
theorem tb_ok112 : tb_okm tb_m112 := ⟨Or.inr (by decide +kernel), tb_ok112_0, tb_ok112_l0, by decide +kernel⟩
/-! CountedActors.cell(I)I -/
set_option maxRecDepth 100000 in
theorem tb_ok113_0 : (tb_c113).all (tb_okc tb_m113) = true := by decide +kernel
set_option maxRecDepth 100000 in
theorem tb_ok113_l0 : (tb_l113).all (tb_okl tb_m113) = true := by decide +kernel
set_option maxRecDepth 100000 in
theorem tb_ok113 : tb_okm tb_m113 := ⟨Or.inr (by decide +kernel), tb_ok113_0, tb_ok113_l0, by decide +kernel⟩
/-! CountedActors.count(II)I -/
set_option maxRecDepth 100000 in
theorem tb_ok114_0 : (tb_c114).all (tb_okc tb_m114) = true := by decide +kernel
set_option maxRecDepth 100000 in
theorem tb_ok114_l0 : (tb_l114).all (tb_okl tb_m114) = true := by decide +kernel
set_option maxRecDepth 100000 in
theorem tb_ok114 : tb_okm tb_m114 := ⟨Or.inr (by decide +kernel), tb_ok114_0, tb_ok114_l0, by decide +kernel⟩
/-! CountedActors.field(II)I -/
set_option maxRecDepth 100000 in
theorem tb_ok115_0 : (tb_c115).all (tb_okc tb_m115) = true := by decide +kernel
set_option maxRecDepth 100000 in
theorem tb_ok115_l0 : (tb_l115).all (tb_okl tb_m115) = true := by decide +kernel
set_option maxRecDepth 100000 in
theorem tb_ok115 : tb_okm tb_m115 := ⟨Or.inr (by decide +kernel), tb_ok115_0, tb_ok115_l0, by decide +kernel⟩
/-! CountedActors.inner(II)I -/
set_option maxRecDepth 100000 in
theorem tb_ok116_0 : (tb_c116).all (tb_okc tb_m116) = true := by decide +kernel
set_option maxRecDepth 100000 in
theorem tb_ok116_l0 : (tb_l116).all (tb_okl tb_m116) = true := by decide +kernel
set_option maxRecDepth 100000 in
theorem tb_ok116 : tb_okm tb_m116 := ⟨Or.inr (by decide +kernel), tb_ok116_0, tb_ok116_l0, by decide +kernel⟩
/-! CountedActors.rights(II)I -/
set_option maxRecDepth 100000 in
theorem tb_ok117_0 : (tb_c117.take 24).all (tb_okc tb_m117) = true := by decide +kernel
set_option maxRecDepth 100000 in
theorem tb_ok117_1 : ((tb_c117.drop 24)).all (tb_okc tb_m117) = true := by decide +kernel
set_option maxRecDepth 100000 in
theorem tb_ok117_l0 : (tb_l117.take 6).all (tb_okl tb_m117) = true := by decide +kernel
set_option maxRecDepth 100000 in
theorem tb_ok117_l1 : ((tb_l117.drop 6)).all (tb_okl tb_m117) = true := by decide +kernel
set_option maxRecDepth 100000 in
theorem tb_ok117 : tb_okm tb_m117 := ⟨Or.inr (by decide +kernel), tb_cut 24 tb_ok117_0 (tb_ok117_1), tb_cut 6 tb_ok117_l0 (tb_ok117_l1), by decide +kernel⟩
/-! CountedActors$Machine.meetCalls(I)V -/
set_option maxRecDepth 100000 in
theorem tb_ok118_0 : (tb_c118.take 24).all (tb_okc tb_m118) = true := by decide +kernel
set_option maxRecDepth 100000 in
theorem tb_ok118_1 : ((tb_c118.drop 24)).all (tb_okc tb_m118) = true := by decide +kernel
set_option maxRecDepth 100000 in
theorem tb_ok118_l0 : (tb_l118.take 6).all (tb_okl tb_m118) = true := by decide +kernel
set_option maxRecDepth 100000 in
theorem tb_ok118_l1 : ((tb_l118.drop 6)).all (tb_okl tb_m118) = true := by decide +kernel
set_option maxRecDepth 100000 in
theorem tb_ok118 : tb_okm tb_m118 := ⟨Or.inr (by decide +kernel), tb_cut 24 tb_ok118_0 (tb_ok118_1), tb_cut 6 tb_ok118_l0 (tb_ok118_l1), by decide +kernel⟩
/-! CountedActors$Mail.size()I -/
set_option maxRecDepth 100000 in
theorem tb_ok119_0 : (tb_c119).all (tb_okc tb_m119) = true := by decide +kernel
set_option maxRecDepth 100000 in
theorem tb_ok119_l0 : (tb_l119).all (tb_okl tb_m119) = true := by decide +kernel
set_option maxRecDepth 100000 in
theorem tb_ok119 : tb_okm tb_m119 := ⟨Or.inr (by decide +kernel), tb_ok119_0, tb_ok119_l0, by decide +kernel⟩
/-! CountedActors$Mail.isCallTo(II)Z -/
set_option maxRecDepth 100000 in
theorem tb_ok120_0 : (tb_c120).all (tb_okc tb_m120) = true := by decide +kernel
set_option maxRecDepth 100000 in
theorem tb_ok120_l0 : (tb_l120).all (tb_okl tb_m120) = true := by decide +kernel
set_option maxRecDepth 100000 in
theorem tb_ok120 : tb_okm tb_m120 := ⟨Or.inr (by decide +kernel), tb_ok120_0, tb_ok120_l0, by decide +kernel⟩
/-! CountedActors$Walk.followByView()V -/
set_option maxRecDepth 100000 in
theorem tb_ok121_0 : (tb_c121.take 24).all (tb_okc tb_m121) = true := by decide +kernel
set_option maxRecDepth 100000 in
theorem tb_ok121_1 : ((tb_c121.drop 24)).all (tb_okc tb_m121) = true := by decide +kernel
set_option maxRecDepth 100000 in
theorem tb_ok121_l0 : (tb_l121).all (tb_okl tb_m121) = true := by decide +kernel
set_option maxRecDepth 100000 in
theorem tb_ok121 : tb_okm tb_m121 := ⟨Or.inr (by decide +kernel), tb_cut 24 tb_ok121_0 (tb_ok121_1), tb_ok121_l0, by decide +kernel⟩
/-! CountedActors$Walk.rightsOver(I)I -/
set_option maxRecDepth 100000 in
theorem tb_ok122_0 : (tb_c122.take 24).all (tb_okc tb_m122) = true := by decide +kernel
set_option maxRecDepth 100000 in
theorem tb_ok122_1 : ((tb_c122.drop 24)).all (tb_okc tb_m122) = true := by decide +kernel
set_option maxRecDepth 100000 in
theorem tb_ok122_l0 : (tb_l122).all (tb_okl tb_m122) = true := by decide +kernel
set_option maxRecDepth 100000 in
theorem tb_ok122 : tb_okm tb_m122 := ⟨Or.inr (by decide +kernel), tb_cut 24 tb_ok122_0 (tb_ok122_1), tb_ok122_l0, by decide +kernel⟩
/-! CountedActors.shown(I)I -/
set_option maxRecDepth 100000 in
theorem tb_ok123_0 : (tb_c123).all (tb_okc tb_m123) = true := by decide +kernel
set_option maxRecDepth 100000 in
theorem tb_ok123_l0 : (tb_l123).all (tb_okl tb_m123) = true := by decide +kernel
set_option maxRecDepth 100000 in
theorem tb_ok123 : tb_okm tb_m123 := ⟨Or.inr (by decide +kernel), tb_ok123_0, tb_ok123_l0, by decide +kernel⟩
/-! CountedActors$Display.times()I -/
set_option maxRecDepth 100000 in
theorem tb_ok124_0 : (tb_c124).all (tb_okc tb_m124) = true := by decide +kernel
set_option maxRecDepth 100000 in
theorem tb_ok124_l0 : (tb_l124).all (tb_okl tb_m124) = true := by decide +kernel
set_option maxRecDepth 100000 in
theorem tb_ok124 : tb_okm tb_m124 := ⟨Or.inr (by decide +kernel), tb_ok124_0, tb_ok124_l0, by decide +kernel⟩
/-! CountedActors$Display.latest(I)I -/
set_option maxRecDepth 100000 in
theorem tb_ok125_0 : (tb_c125).all (tb_okc tb_m125) = true := by decide +kernel
set_option maxRecDepth 100000 in
theorem tb_ok125_l0 : (tb_l125).all (tb_okl tb_m125) = true := by decide +kernel
set_option maxRecDepth 100000 in
theorem tb_ok125 : tb_okm tb_m125 := ⟨Or.inr (by decide +kernel), tb_ok125_0, tb_ok125_l0, by decide +kernel⟩
/-! CountedActors.garbage()I -/
set_option maxRecDepth 100000 in
theorem tb_ok126_0 : (tb_c126.take 24).all (tb_okc tb_m126) = true := by decide +kernel
set_option maxRecDepth 100000 in
theorem tb_ok126_1 : ((tb_c126.drop 24)).all (tb_okc tb_m126) = true := by decide +kernel
set_option maxRecDepth 100000 in
theorem tb_ok126_l0 : (tb_l126.take 6).all (tb_okl tb_m126) = true := by decide +kernel
set_option maxRecDepth 100000 in
theorem tb_ok126_l1 : ((tb_l126.drop 6)).all (tb_okl tb_m126) = true := by decide +kernel
set_option maxRecDepth 100000 in
theorem tb_ok126 : tb_okm tb_m126 := ⟨Or.inr (by decide +kernel), tb_cut 24 tb_ok126_0 (tb_ok126_1), tb_cut 6 tb_ok126_l0 (tb_ok126_l1), by decide +kernel⟩
/-! CountedActors.lost()I -/
set_option maxRecDepth 100000 in
theorem tb_ok127_0 : (tb_c127).all (tb_okc tb_m127) = true := by decide +kernel
set_option maxRecDepth 100000 in
theorem tb_ok127_l0 : (tb_l127).all (tb_okl tb_m127) = true := by decide +kernel
set_option maxRecDepth 100000 in
theorem tb_ok127 : tb_okm tb_m127 := ⟨Or.inr (by decide +kernel), tb_ok127_0, tb_ok127_l0, by decide +kernel⟩
/-! CountedActors$Machine.timesLost()I -/
set_option maxRecDepth 100000 in
theorem tb_ok128_0 : (tb_c128).all (tb_okc tb_m128) = true := by decide +kernel
set_option maxRecDepth 100000 in
theorem tb_ok128_l0 : (tb_l128).all (tb_okl tb_m128) = true := by decide +kernel
set_option maxRecDepth 100000 in
theorem tb_ok128 : tb_okm tb_m128 := ⟨Or.inr (by decide +kernel), tb_ok128_0, tb_ok128_l0, by decide +kernel⟩
/-! CountedActorsLaw.cell([II)I -/
set_option maxRecDepth 100000 in
theorem tb_ok129_0 : (tb_c129).all (tb_okc tb_m129) = true := by decide +kernel
set_option maxRecDepth 100000 in
theorem tb_ok129_l0 : (tb_l129).all (tb_okl tb_m129) = true := by decide +kernel
set_option maxRecDepth 100000 in
theorem tb_ok129 : tb_okm tb_m129 := ⟨Or.inr (by decide +kernel), tb_ok129_0, tb_ok129_l0, by decide +kernel⟩
/-! CountedActorsModel.<init>(I)V -/
set_option maxRecDepth 100000 in
theorem tb_ok130_0 : (tb_c130.take 24).all (tb_okc tb_m130) = true := by decide +kernel
set_option maxRecDepth 100000 in
theorem tb_ok130_1 : ((tb_c130.drop 24).take 24).all (tb_okc tb_m130) = true := by decide +kernel
set_option maxRecDepth 100000 in
theorem tb_ok130_2 : (((tb_c130.drop 24).drop 24).take 24).all (tb_okc tb_m130) = true := by decide +kernel
set_option maxRecDepth 100000 in
theorem tb_ok130_3 : ((((tb_c130.drop 24).drop 24).drop 24).take 24).all (tb_okc tb_m130) = true := by decide +kernel
set_option maxRecDepth 100000 in
theorem tb_ok130_4 : (((((tb_c130.drop 24).drop 24).drop 24).drop 24).take 24).all (tb_okc tb_m130) = true := by decide +kernel
set_option maxRecDepth 100000 in
theorem tb_ok130_5 : ((((((tb_c130.drop 24).drop 24).drop 24).drop 24).drop 24)).all (tb_okc tb_m130) = true := by decide +kernel
set_option maxRecDepth 100000 in
theorem tb_ok130_l0 : (tb_l130.take 6).all (tb_okl tb_m130) = true := by decide +kernel
set_option maxRecDepth 100000 in
theorem tb_ok130_l1 : ((tb_l130.drop 6).take 6).all (tb_okl tb_m130) = true := by decide +kernel
set_option maxRecDepth 100000 in
theorem tb_ok130_l2 : (((tb_l130.drop 6).drop 6).take 6).all (tb_okl tb_m130) = true := by decide +kernel
set_option maxRecDepth 100000 in
theorem tb_ok130_l3 : ((((tb_l130.drop 6).drop 6).drop 6)).all (tb_okl tb_m130) = true := by decide +kernel
set_option maxRecDepth 100000 in
theorem tb_ok130 : tb_okm tb_m130 := ⟨Or.inr (by decide +kernel), tb_cut 24 tb_ok130_0 (tb_cut 24 tb_ok130_1 (tb_cut 24 tb_ok130_2 (tb_cut 24 tb_ok130_3 (tb_cut 24 tb_ok130_4 (tb_ok130_5))))), tb_cut 6 tb_ok130_l0 (tb_cut 6 tb_ok130_l1 (tb_cut 6 tb_ok130_l2 (tb_ok130_l3))), by decide +kernel⟩
/-! CountedActorsModel.begin(I)I -/
set_option maxRecDepth 100000 in
theorem tb_ok131_0 : (tb_c131.take 24).all (tb_okc tb_m131) = true := by decide +kernel
set_option maxRecDepth 100000 in
theorem tb_ok131_1 : ((tb_c131.drop 24)).all (tb_okc tb_m131) = true := by decide +kernel
set_option maxRecDepth 100000 in
theorem tb_ok131_l0 : (tb_l131).all (tb_okl tb_m131) = true := by decide +kernel
set_option maxRecDepth 100000 in
theorem tb_ok131 : tb_okm tb_m131 := ⟨Or.inr (by decide +kernel), tb_cut 24 tb_ok131_0 (tb_ok131_1), tb_ok131_l0, by decide +kernel⟩
/-! CountedActorsModel.sendable(I)Z -/
set_option maxRecDepth 100000 in
theorem tb_ok132_0 : (tb_c132).all (tb_okc tb_m132) = true := by decide +kernel
set_option maxRecDepth 100000 in
theorem tb_ok132_l0 : (tb_l132).all (tb_okl tb_m132) = true := by decide +kernel
set_option maxRecDepth 100000 in
theorem tb_ok132 : tb_okm tb_m132 := ⟨Or.inr (by decide +kernel), tb_ok132_0, tb_ok132_l0, by decide +kernel⟩
/-! CountedActorsModel.drop()Z -/
set_option maxRecDepth 100000 in
theorem tb_ok133_0 : (tb_c133).all (tb_okc tb_m133) = true := by decide +kernel
set_option maxRecDepth 100000 in
theorem tb_ok133_l0 : (tb_l133).all (tb_okl tb_m133) = true := by decide +kernel
set_option maxRecDepth 100000 in
theorem tb_ok133 : tb_okm tb_m133 := ⟨Or.inr (by decide +kernel), tb_ok133_0, tb_ok133_l0, by decide +kernel⟩
/-! CountedActorsModel.end()Z -/
set_option maxRecDepth 100000 in
theorem tb_ok134_0 : (tb_c134).all (tb_okc tb_m134) = true := by decide +kernel
set_option maxRecDepth 100000 in
theorem tb_ok134_l0 : (tb_l134).all (tb_okl tb_m134) = true := by decide +kernel
set_option maxRecDepth 100000 in
theorem tb_ok134 : tb_okm tb_m134 := ⟨Or.inr (by decide +kernel), tb_ok134_0, tb_ok134_l0, by decide +kernel⟩
/-! CountedActorsModel.replay()V -/
set_option maxRecDepth 100000 in
theorem tb_ok135_0 : (tb_c135.take 24).all (tb_okc tb_m135) = true := by decide +kernel
set_option maxRecDepth 100000 in
theorem tb_ok135_1 : ((tb_c135.drop 24).take 24).all (tb_okc tb_m135) = true := by decide +kernel
set_option maxRecDepth 100000 in
theorem tb_ok135_2 : (((tb_c135.drop 24).drop 24)).all (tb_okc tb_m135) = true := by decide +kernel
set_option maxRecDepth 100000 in
theorem tb_ok135_l0 : (tb_l135.take 6).all (tb_okl tb_m135) = true := by decide +kernel
set_option maxRecDepth 100000 in
theorem tb_ok135_l1 : ((tb_l135.drop 6)).all (tb_okl tb_m135) = true := by decide +kernel
set_option maxRecDepth 100000 in
theorem tb_ok135 : tb_okm tb_m135 := ⟨Or.inr (by decide +kernel), tb_cut 24 tb_ok135_0 (tb_cut 24 tb_ok135_1 (tb_ok135_2)), tb_cut 6 tb_ok135_l0 (tb_ok135_l1), by decide +kernel⟩
/-! CountedActorsModel.effect(I)V -/
set_option maxRecDepth 100000 in
theorem tb_ok136_0 : (tb_c136.take 24).all (tb_okc tb_m136) = true := by decide +kernel
set_option maxRecDepth 100000 in
theorem tb_ok136_1 : ((tb_c136.drop 24).take 24).all (tb_okc tb_m136) = true := by decide +kernel
set_option maxRecDepth 100000 in
theorem tb_ok136_2 : (((tb_c136.drop 24).drop 24).take 24).all (tb_okc tb_m136) = true := by decide +kernel
set_option maxRecDepth 100000 in
theorem tb_ok136_3 : ((((tb_c136.drop 24).drop 24).drop 24).take 24).all (tb_okc tb_m136) = true := by decide +kernel
set_option maxRecDepth 100000 in
theorem tb_ok136_4 : (((((tb_c136.drop 24).drop 24).drop 24).drop 24).take 24).all (tb_okc tb_m136) = true := by decide +kernel
set_option maxRecDepth 100000 in
theorem tb_ok136_5 : ((((((tb_c136.drop 24).drop 24).drop 24).drop 24).drop 24).take 24).all (tb_okc tb_m136) = true := by decide +kernel
set_option maxRecDepth 100000 in
theorem tb_ok136_6 : (((((((tb_c136.drop 24).drop 24).drop 24).drop 24).drop 24).drop 24)).all (tb_okc tb_m136) = true := by decide +kernel
set_option maxRecDepth 100000 in
theorem tb_ok136_l0 : (tb_l136.take 6).all (tb_okl tb_m136) = true := by decide +kernel
set_option maxRecDepth 100000 in
theorem tb_ok136_l1 : ((tb_l136.drop 6)).all (tb_okl tb_m136) = true := by decide +kernel
set_option maxRecDepth 100000 in
theorem tb_ok136 : tb_okm tb_m136 := ⟨Or.inr (by decide +kernel), tb_cut 24 tb_ok136_0 (tb_cut 24 tb_ok136_1 (tb_cut 24 tb_ok136_2 (tb_cut 24 tb_ok136_3 (tb_cut 24 tb_ok136_4 (tb_cut 24 tb_ok136_5 (tb_ok136_6)))))), tb_cut 6 tb_ok136_l0 (tb_ok136_l1), by decide +kernel⟩
/-! CountedActorsModel.become(II)V -/
set_option maxRecDepth 100000 in
theorem tb_ok137_0 : (tb_c137).all (tb_okc tb_m137) = true := by decide +kernel
set_option maxRecDepth 100000 in
theorem tb_ok137_l0 : (tb_l137).all (tb_okl tb_m137) = true := by decide +kernel
set_option maxRecDepth 100000 in
theorem tb_ok137 : tb_okm tb_m137 := ⟨Or.inr (by decide +kernel), tb_ok137_0, tb_ok137_l0, by decide +kernel⟩
end
section
/-! CountedActorsModel.alias(I)I -/
set_option maxRecDepth 100000 in
theorem tb_ok138_0 : (tb_c138).all (tb_okc tb_m138) = true := by decide +kernel
set_option maxRecDepth 100000 in
theorem tb_ok138_l0 : (tb_l138).all (tb_okl tb_m138) = true := by decide +kernel
set_option maxRecDepth 100000 in
theorem tb_ok138 : tb_okm tb_m138 := ⟨Or.inr (by decide +kernel), tb_ok138_0, tb_ok138_l0, by decide +kernel⟩
/-! CountedActorsModel.has(I)I -/
set_option maxRecDepth 100000 in
theorem tb_ok139_0 : (tb_c139).all (tb_okc tb_m139) = true := by decide +kernel
set_option maxRecDepth 100000 in
theorem tb_ok139_l0 : (tb_l139).all (tb_okl tb_m139) = true := by decide +kernel
set_option maxRecDepth 100000 in
theorem tb_ok139 : tb_okm tb_m139 := ⟨Or.inr (by decide +kernel), tb_ok139_0, tb_ok139_l0, by decide +kernel⟩
/-! CountedActorsModel.view(II)I -/
set_option maxRecDepth 100000 in
theorem tb_ok140_0 : (tb_c140.take 24).all (tb_okc tb_m140) = true := by decide +kernel
set_option maxRecDepth 100000 in
theorem tb_ok140_1 : ((tb_c140.drop 24)).all (tb_okc tb_m140) = true := by decide +kernel
set_option maxRecDepth 100000 in
theorem tb_ok140_l0 : (tb_l140).all (tb_okl tb_m140) = true := by decide +kernel
set_option maxRecDepth 100000 in
theorem tb_ok140 : tb_okm tb_m140 := ⟨Or.inr (by decide +kernel), tb_cut 24 tb_ok140_0 (tb_ok140_1), tb_ok140_l0, by decide +kernel⟩
/-! CountedActorsModel.pick(II)I -/
set_option maxRecDepth 100000 in
theorem tb_ok141_0 : (tb_c141).all (tb_okc tb_m141) = true := by decide +kernel
set_option maxRecDepth 100000 in
theorem tb_ok141_l0 : (tb_l141).all (tb_okl tb_m141) = true := by decide +kernel
set_option maxRecDepth 100000 in
theorem tb_ok141 : tb_okm tb_m141 := ⟨Or.inr (by decide +kernel), tb_ok141_0, tb_ok141_l0, by decide +kernel⟩
/-! CountedActorsModel.drawn(II)I -/
set_option maxRecDepth 100000 in
theorem tb_ok142_0 : (tb_c142).all (tb_okc tb_m142) = true := by decide +kernel
set_option maxRecDepth 100000 in
theorem tb_ok142_l0 : (tb_l142).all (tb_okl tb_m142) = true := by decide +kernel
set_option maxRecDepth 100000 in
theorem tb_ok142 : tb_okm tb_m142 := ⟨Or.inr (by decide +kernel), tb_ok142_0, tb_ok142_l0, by decide +kernel⟩
/-! CountedActorsModel.leave(II)V -/
set_option maxRecDepth 100000 in
theorem tb_ok143_0 : (tb_c143.take 24).all (tb_okc tb_m143) = true := by decide +kernel
set_option maxRecDepth 100000 in
theorem tb_ok143_1 : ((tb_c143.drop 24).take 24).all (tb_okc tb_m143) = true := by decide +kernel
set_option maxRecDepth 100000 in
theorem tb_ok143_2 : (((tb_c143.drop 24).drop 24)).all (tb_okc tb_m143) = true := by decide +kernel
set_option maxRecDepth 100000 in
theorem tb_ok143_l0 : (tb_l143).all (tb_okl tb_m143) = true := by decide +kernel
set_option maxRecDepth 100000 in
theorem tb_ok143 : tb_okm tb_m143 := ⟨Or.inr (by decide +kernel), tb_cut 24 tb_ok143_0 (tb_cut 24 tb_ok143_1 (tb_ok143_2)), tb_ok143_l0, by decide +kernel⟩
/-! CountedActorsModel.writable(I)Z -/
set_option maxRecDepth 100000 in
theorem tb_ok144_0 : (tb_c144).all (tb_okc tb_m144) = true := by decide +kernel
set_option maxRecDepth 100000 in
theorem tb_ok144_l0 : (tb_l144).all (tb_okl tb_m144) = true := by decide +kernel
set_option maxRecDepth 100000 in
theorem tb_ok144 : tb_okm tb_m144 := ⟨Or.inr (by decide +kernel), tb_ok144_0, tb_ok144_l0, by decide +kernel⟩
/-! CountedActorsModel.add(IIIII)I -/
set_option maxRecDepth 100000 in
theorem tb_ok145_0 : (tb_c145.take 24).all (tb_okc tb_m145) = true := by decide +kernel
set_option maxRecDepth 100000 in
theorem tb_ok145_1 : ((tb_c145.drop 24).take 24).all (tb_okc tb_m145) = true := by decide +kernel
set_option maxRecDepth 100000 in
theorem tb_ok145_2 : (((tb_c145.drop 24).drop 24).take 24).all (tb_okc tb_m145) = true := by decide +kernel
set_option maxRecDepth 100000 in
theorem tb_ok145_3 : ((((tb_c145.drop 24).drop 24).drop 24)).all (tb_okc tb_m145) = true := by decide +kernel
set_option maxRecDepth 100000 in
theorem tb_ok145_l0 : (tb_l145).all (tb_okl tb_m145) = true := by decide +kernel
set_option maxRecDepth 100000 in
theorem tb_ok145 : tb_okm tb_m145 := ⟨Or.inr (by decide +kernel), tb_cut 24 tb_ok145_0 (tb_cut 24 tb_ok145_1 (tb_cut 24 tb_ok145_2 (tb_ok145_3))), tb_ok145_l0, by decide +kernel⟩
/-! CountedActorsModel.refusal(IIIII)I -/
set_option maxRecDepth 100000 in
theorem tb_ok146_0 : (tb_c146.take 24).all (tb_okc tb_m146) = true := by decide +kernel
set_option maxRecDepth 100000 in
theorem tb_ok146_1 : ((tb_c146.drop 24).take 24).all (tb_okc tb_m146) = true := by decide +kernel
set_option maxRecDepth 100000 in
theorem tb_ok146_2 : (((tb_c146.drop 24).drop 24).take 24).all (tb_okc tb_m146) = true := by decide +kernel
set_option maxRecDepth 100000 in
theorem tb_ok146_3 : ((((tb_c146.drop 24).drop 24).drop 24).take 24).all (tb_okc tb_m146) = true := by decide +kernel
set_option maxRecDepth 100000 in
theorem tb_ok146_4 : (((((tb_c146.drop 24).drop 24).drop 24).drop 24).take 24).all (tb_okc tb_m146) = true := by decide +kernel
set_option maxRecDepth 100000 in
theorem tb_ok146_5 : ((((((tb_c146.drop 24).drop 24).drop 24).drop 24).drop 24).take 24).all (tb_okc tb_m146) = true := by decide +kernel
set_option maxRecDepth 100000 in
theorem tb_ok146_6 : (((((((tb_c146.drop 24).drop 24).drop 24).drop 24).drop 24).drop 24).take 24).all (tb_okc tb_m146) = true := by decide +kernel
set_option maxRecDepth 100000 in
theorem tb_ok146_7 : ((((((((tb_c146.drop 24).drop 24).drop 24).drop 24).drop 24).drop 24).drop 24)).all (tb_okc tb_m146) = true := by decide +kernel
set_option maxRecDepth 100000 in
theorem tb_ok146_l0 : (tb_l146.take 6).all (tb_okl tb_m146) = true := by decide +kernel
set_option maxRecDepth 100000 in
theorem tb_ok146_l1 : ((tb_l146.drop 6).take 6).all (tb_okl tb_m146) = true := by decide +kernel
set_option maxRecDepth 100000 in
theorem tb_ok146_l2 : (((tb_l146.drop 6).drop 6)).all (tb_okl tb_m146) = true := by decide +kernel
set_option maxRecDepth 100000 in
theorem tb_ok146 : tb_okm tb_m146 := ⟨Or.inr (by decide +kernel), tb_cut 24 tb_ok146_0 (tb_cut 24 tb_ok146_1 (tb_cut 24 tb_ok146_2 (tb_cut 24 tb_ok146_3 (tb_cut 24 tb_ok146_4 (tb_cut 24 tb_ok146_5 (tb_cut 24 tb_ok146_6 (tb_ok146_7))))))), tb_cut 6 tb_ok146_l0 (tb_cut 6 tb_ok146_l1 (tb_ok146_l2)), by decide +kernel⟩
/-! CountedActorsModel.named(IIIII)Z -/
set_option maxRecDepth 100000 in
theorem tb_ok147_0 : (tb_c147.take 24).all (tb_okc tb_m147) = true := by decide +kernel
set_option maxRecDepth 100000 in
theorem tb_ok147_1 : ((tb_c147.drop 24).take 24).all (tb_okc tb_m147) = true := by decide +kernel
set_option maxRecDepth 100000 in
theorem tb_ok147_2 : (((tb_c147.drop 24).drop 24).take 24).all (tb_okc tb_m147) = true := by decide +kernel
set_option maxRecDepth 100000 in
theorem tb_ok147_3 : ((((tb_c147.drop 24).drop 24).drop 24)).all (tb_okc tb_m147) = true := by decide +kernel
set_option maxRecDepth 100000 in
theorem tb_ok147_l0 : (tb_l147).all (tb_okl tb_m147) = true := by decide +kernel
set_option maxRecDepth 100000 in
theorem tb_ok147 : tb_okm tb_m147 := ⟨Or.inr (by decide +kernel), tb_cut 24 tb_ok147_0 (tb_cut 24 tb_ok147_1 (tb_cut 24 tb_ok147_2 (tb_ok147_3))), tb_ok147_l0, by decide +kernel⟩
/-! CountedActorsModel.below(II)Z -/
set_option maxRecDepth 100000 in
theorem tb_ok148_0 : (tb_c148).all (tb_okc tb_m148) = true := by decide +kernel
set_option maxRecDepth 100000 in
theorem tb_ok148_l0 : (tb_l148).all (tb_okl tb_m148) = true := by decide +kernel
set_option maxRecDepth 100000 in
theorem tb_ok148 : tb_okm tb_m148 := ⟨Or.inr (by decide +kernel), tb_ok148_0, tb_ok148_l0, by decide +kernel⟩
/-! CountedActorsModel.usesZ(I)Z -/
set_option maxRecDepth 100000 in
theorem tb_ok149_0 : (tb_c149).all (tb_okc tb_m149) = true := by decide +kernel
set_option maxRecDepth 100000 in
theorem tb_ok149_l0 : (tb_l149).all (tb_okl tb_m149) = true := by decide +kernel
set_option maxRecDepth 100000 in
theorem tb_ok149 : tb_okm tb_m149 := ⟨Or.inr (by decide +kernel), tb_ok149_0, tb_ok149_l0, by decide +kernel⟩
/-! CountedActorsModel.usesY(I)Z -/
set_option maxRecDepth 100000 in
theorem tb_ok150_0 : (tb_c150).all (tb_okc tb_m150) = true := by decide +kernel
set_option maxRecDepth 100000 in
theorem tb_ok150_l0 : (tb_l150).all (tb_okl tb_m150) = true := by decide +kernel
set_option maxRecDepth 100000 in
theorem tb_ok150 : tb_okm tb_m150 := ⟨Or.inr (by decide +kernel), tb_ok150_0, tb_ok150_l0, by decide +kernel⟩
/-! CountedActorsModel.safe(II)Z -/
set_option maxRecDepth 100000 in
theorem tb_ok151_0 : (tb_c151).all (tb_okc tb_m151) = true := by decide +kernel
set_option maxRecDepth 100000 in
theorem tb_ok151_l0 : (tb_l151).all (tb_okl tb_m151) = true := by decide +kernel
set_option maxRecDepth 100000 in
theorem tb_ok151 : tb_okm tb_m151 := ⟨Or.inr (by decide +kernel), tb_ok151_0, tb_ok151_l0, by decide +kernel⟩
/-! CountedActorsModel.suits(II)Z -/
set_option maxRecDepth 100000 in
theorem tb_ok152_0 : (tb_c152.take 24).all (tb_okc tb_m152) = true := by decide +kernel
set_option maxRecDepth 100000 in
theorem tb_ok152_1 : ((tb_c152.drop 24).take 24).all (tb_okc tb_m152) = true := by decide +kernel
set_option maxRecDepth 100000 in
theorem tb_ok152_2 : (((tb_c152.drop 24).drop 24)).all (tb_okc tb_m152) = true := by decide +kernel
set_option maxRecDepth 100000 in
theorem tb_ok152_l0 : (tb_l152).all (tb_okl tb_m152) = true := by decide +kernel
set_option maxRecDepth 100000 in
theorem tb_ok152 : tb_okm tb_m152 := ⟨Or.inr (by decide +kernel), tb_cut 24 tb_ok152_0 (tb_cut 24 tb_ok152_1 (tb_ok152_2)), tb_ok152_l0, by decide +kernel⟩
/-! CountedActorsModel.holds(I)I -/
set_option maxRecDepth 100000 in
theorem tb_ok153_0 : (tb_c153).all (tb_okc tb_m153) = true := by decide +kernel
set_option maxRecDepth 100000 in
theorem tb_ok153_l0 : (tb_l153).all (tb_okl tb_m153) = true := by decide +kernel
set_option maxRecDepth 100000 in
theorem tb_ok153 : tb_okm tb_m153 := ⟨Or.inr (by decide +kernel), tb_ok153_0, tb_ok153_l0, by decide +kernel⟩
/-! CountedActorsModel.post(II)Z -/
set_option maxRecDepth 100000 in
theorem tb_ok154_0 : (tb_c154.take 24).all (tb_okc tb_m154) = true := by decide +kernel
set_option maxRecDepth 100000 in
theorem tb_ok154_1 : ((tb_c154.drop 24)).all (tb_okc tb_m154) = true := by decide +kernel
set_option maxRecDepth 100000 in
theorem tb_ok154_l0 : (tb_l154).all (tb_okl tb_m154) = true := by decide +kernel
set_option maxRecDepth 100000 in
theorem tb_ok154 : tb_okm tb_m154 := ⟨Or.inr (by decide +kernel), tb_cut 24 tb_ok154_0 (tb_ok154_1), tb_ok154_l0, by decide +kernel⟩
/-! CountedActorsModel.say(IIII)V -/
set_option maxRecDepth 100000 in
theorem tb_ok155_0 : (tb_c155.take 24).all (tb_okc tb_m155) = true := by decide +kernel
set_option maxRecDepth 100000 in
theorem tb_ok155_1 : ((tb_c155.drop 24)).all (tb_okc tb_m155) = true := by decide +kernel
set_option maxRecDepth 100000 in
theorem tb_ok155_l0 : (tb_l155).all (tb_okl tb_m155) = true := by decide +kernel
set_option maxRecDepth 100000 in
theorem tb_ok155 : tb_okm tb_m155 := ⟨Or.inr (by decide +kernel), tb_cut 24 tb_ok155_0 (tb_ok155_1), tb_ok155_l0, by decide +kernel⟩
/-! CountedActorsModel.step(I)I -/
set_option maxRecDepth 100000 in
theorem tb_ok156_0 : (tb_c156.take 24).all (tb_okc tb_m156) = true := by decide +kernel
set_option maxRecDepth 100000 in
theorem tb_ok156_1 : ((tb_c156.drop 24).take 24).all (tb_okc tb_m156) = true := by decide +kernel
set_option maxRecDepth 100000 in
theorem tb_ok156_2 : (((tb_c156.drop 24).drop 24).take 24).all (tb_okc tb_m156) = true := by decide +kernel
set_option maxRecDepth 100000 in
theorem tb_ok156_3 : ((((tb_c156.drop 24).drop 24).drop 24).take 24).all (tb_okc tb_m156) = true := by decide +kernel
set_option maxRecDepth 100000 in
theorem tb_ok156_4 : (((((tb_c156.drop 24).drop 24).drop 24).drop 24).take 24).all (tb_okc tb_m156) = true := by decide +kernel
set_option maxRecDepth 100000 in
theorem tb_ok156_5 : ((((((tb_c156.drop 24).drop 24).drop 24).drop 24).drop 24).take 24).all (tb_okc tb_m156) = true := by decide +kernel
set_option maxRecDepth 100000 in
theorem tb_ok156_6 : (((((((tb_c156.drop 24).drop 24).drop 24).drop 24).drop 24).drop 24)).all (tb_okc tb_m156) = true := by decide +kernel
set_option maxRecDepth 100000 in
theorem tb_ok156_l0 : (tb_l156.take 6).all (tb_okl tb_m156) = true := by decide +kernel
set_option maxRecDepth 100000 in
theorem tb_ok156_l1 : ((tb_l156.drop 6).take 6).all (tb_okl tb_m156) = true := by decide +kernel
set_option maxRecDepth 100000 in
theorem tb_ok156_l2 : (((tb_l156.drop 6).drop 6)).all (tb_okl tb_m156) = true := by decide +kernel
set_option maxRecDepth 100000 in
theorem tb_ok156 : tb_okm tb_m156 := ⟨Or.inr (by decide +kernel), tb_cut 24 tb_ok156_0 (tb_cut 24 tb_ok156_1 (tb_cut 24 tb_ok156_2 (tb_cut 24 tb_ok156_3 (tb_cut 24 tb_ok156_4 (tb_cut 24 tb_ok156_5 (tb_ok156_6)))))), tb_cut 6 tb_ok156_l0 (tb_cut 6 tb_ok156_l1 (tb_ok156_l2)), by decide +kernel⟩
/-! CountedActorsModel.forget(I)V -/
set_option maxRecDepth 100000 in
theorem tb_ok157_0 : (tb_c157.take 24).all (tb_okc tb_m157) = true := by decide +kernel
set_option maxRecDepth 100000 in
theorem tb_ok157_1 : ((tb_c157.drop 24).take 24).all (tb_okc tb_m157) = true := by decide +kernel
set_option maxRecDepth 100000 in
theorem tb_ok157_2 : (((tb_c157.drop 24).drop 24)).all (tb_okc tb_m157) = true := by decide +kernel
set_option maxRecDepth 100000 in
theorem tb_ok157_l0 : (tb_l157).all (tb_okl tb_m157) = true := by decide +kernel
set_option maxRecDepth 100000 in
theorem tb_ok157 : tb_okm tb_m157 := ⟨Or.inr (by decide +kernel), tb_cut 24 tb_ok157_0 (tb_cut 24 tb_ok157_1 (tb_ok157_2)), tb_ok157_l0, by decide +kernel⟩
/-! CountedActorsModel.clear()V -/
set_option maxRecDepth 100000 in
theorem tb_ok158_0 : (tb_c158).all (tb_okc tb_m158) = true := by decide +kernel
set_option maxRecDepth 100000 in
theorem tb_ok158_l0 : (tb_l158).all (tb_okl tb_m158) = true := by decide +kernel
set_option maxRecDepth 100000 in
theorem tb_ok158 : tb_okm tb_m158 := ⟨Or.inr (by decide +kernel), tb_ok158_0, tb_ok158_l0, by decide +kernel⟩
/-! CountedActorsModel.root(II)V -/
set_option maxRecDepth 100000 in
theorem tb_ok159_0 : (tb_c159.take 24).all (tb_okc tb_m159) = true := by decide +kernel
set_option maxRecDepth 100000 in
theorem tb_ok159_1 : ((tb_c159.drop 24)).all (tb_okc tb_m159) = true := by decide +kernel
set_option maxRecDepth 100000 in
theorem tb_ok159_l0 : (tb_l159).all (tb_okl tb_m159) = true := by decide +kernel
set_option maxRecDepth 100000 in
theorem tb_ok159 : tb_okm tb_m159 := ⟨Or.inr (by decide +kernel), tb_cut 24 tb_ok159_0 (tb_ok159_1), tb_ok159_l0, by decide +kernel⟩
/-! CountedActorsModel.spread()V -/
set_option maxRecDepth 100000 in
theorem tb_ok160_0 : (tb_c160.take 24).all (tb_okc tb_m160) = true := by decide +kernel
set_option maxRecDepth 100000 in
theorem tb_ok160_1 : ((tb_c160.drop 24)).all (tb_okc tb_m160) = true := by decide +kernel
set_option maxRecDepth 100000 in
theorem tb_ok160_l0 : (tb_l160).all (tb_okl tb_m160) = true := by decide +kernel
set_option maxRecDepth 100000 in
theorem tb_ok160 : tb_okm tb_m160 := ⟨Or.inr (by decide +kernel), tb_cut 24 tb_ok160_0 (tb_ok160_1), tb_ok160_l0, by decide +kernel⟩
/-! CountedActorsModel.act(II)V -/
set_option maxRecDepth 100000 in
theorem tb_ok161_0 : (tb_c161.take 24).all (tb_okc tb_m161) = true := by decide +kernel
set_option maxRecDepth 100000 in
theorem tb_ok161_1 : ((tb_c161.drop 24).take 24).all (tb_okc tb_m161) = true := by decide +kernel
set_option maxRecDepth 100000 in
theorem tb_ok161_2 : (((tb_c161.drop 24).drop 24).take 24).all (tb_okc tb_m161) = true := by decide +kernel
set_option maxRecDepth 100000 in
theorem tb_ok161_3 : ((((tb_c161.drop 24).drop 24).drop 24).take 24).all (tb_okc tb_m161) = true := by decide +kernel
set_option maxRecDepth 100000 in
theorem tb_ok161_4 : (((((tb_c161.drop 24).drop 24).drop 24).drop 24).take 24).all (tb_okc tb_m161) = true := by decide +kernel
set_option maxRecDepth 100000 in
theorem tb_ok161_5 : ((((((tb_c161.drop 24).drop 24).drop 24).drop 24).drop 24).take 24).all (tb_okc tb_m161) = true := by decide +kernel
set_option maxRecDepth 100000 in
theorem tb_ok161_6 : (((((((tb_c161.drop 24).drop 24).drop 24).drop 24).drop 24).drop 24).take 24).all (tb_okc tb_m161) = true := by decide +kernel
set_option maxRecDepth 100000 in
theorem tb_ok161_7 : ((((((((tb_c161.drop 24).drop 24).drop 24).drop 24).drop 24).drop 24).drop 24)).all (tb_okc tb_m161) = true := by decide +kernel
set_option maxRecDepth 100000 in
theorem tb_ok161_l0 : (tb_l161.take 6).all (tb_okl tb_m161) = true := by decide +kernel
set_option maxRecDepth 100000 in
theorem tb_ok161_l1 : ((tb_l161.drop 6)).all (tb_okl tb_m161) = true := by decide +kernel
set_option maxRecDepth 100000 in
theorem tb_ok161 : tb_okm tb_m161 := ⟨Or.inr (by decide +kernel), tb_cut 24 tb_ok161_0 (tb_cut 24 tb_ok161_1 (tb_cut 24 tb_ok161_2 (tb_cut 24 tb_ok161_3 (tb_cut 24 tb_ok161_4 (tb_cut 24 tb_ok161_5 (tb_cut 24 tb_ok161_6 (tb_ok161_7))))))), tb_cut 6 tb_ok161_l0 (tb_ok161_l1), by decide +kernel⟩
end
section
/-! CountedActorsModel.made(I)I -/
set_option maxRecDepth 100000 in
theorem tb_ok162_0 : (tb_c162.take 24).all (tb_okc tb_m162) = true := by decide +kernel
set_option maxRecDepth 100000 in
theorem tb_ok162_1 : ((tb_c162.drop 24).take 24).all (tb_okc tb_m162) = true := by decide +kernel
set_option maxRecDepth 100000 in
theorem tb_ok162_2 : (((tb_c162.drop 24).drop 24)).all (tb_okc tb_m162) = true := by decide +kernel
set_option maxRecDepth 100000 in
theorem tb_ok162_l0 : (tb_l162).all (tb_okl tb_m162) = true := by decide +kernel
set_option maxRecDepth 100000 in
theorem tb_ok162 : tb_okm tb_m162 := ⟨Or.inr (by decide +kernel), tb_cut 24 tb_ok162_0 (tb_cut 24 tb_ok162_1 (tb_ok162_2)), tb_ok162_l0, by decide +kernel⟩
/-! CountedActorsModel.read(III)I -/
set_option maxRecDepth 100000 in
theorem tb_ok163_0 : (tb_c163.take 24).all (tb_okc tb_m163) = true := by decide +kernel
set_option maxRecDepth 100000 in
theorem tb_ok163_1 : ((tb_c163.drop 24)).all (tb_okc tb_m163) = true := by decide +kernel
set_option maxRecDepth 100000 in
theorem tb_ok163_l0 : (tb_l163).all (tb_okl tb_m163) = true := by decide +kernel
set_option maxRecDepth 100000 in
theorem tb_ok163 : tb_okm tb_m163 := ⟨Or.inr (by decide +kernel), tb_cut 24 tb_ok163_0 (tb_ok163_1), tb_ok163_l0, by decide +kernel⟩
/-! CountedActorsModel.write(IIII)V -/
set_option maxRecDepth 100000 in
theorem tb_ok164_0 : (tb_c164.take 24).all (tb_okc tb_m164) = true := by decide +kernel
set_option maxRecDepth 100000 in
theorem tb_ok164_1 : ((tb_c164.drop 24)).all (tb_okc tb_m164) = true := by decide +kernel
set_option maxRecDepth 100000 in
theorem tb_ok164_l0 : (tb_l164).all (tb_okl tb_m164) = true := by decide +kernel
set_option maxRecDepth 100000 in
theorem tb_ok164 : tb_okm tb_m164 := ⟨Or.inr (by decide +kernel), tb_cut 24 tb_ok164_0 (tb_ok164_1), tb_ok164_l0, by decide +kernel⟩
/-! CountedActorsModel.show(I)V -/
set_option maxRecDepth 100000 in
theorem tb_ok165_0 : (tb_c165.take 24).all (tb_okc tb_m165) = true := by decide +kernel
set_option maxRecDepth 100000 in
theorem tb_ok165_1 : ((tb_c165.drop 24)).all (tb_okc tb_m165) = true := by decide +kernel
set_option maxRecDepth 100000 in
theorem tb_ok165_l0 : (tb_l165).all (tb_okl tb_m165) = true := by decide +kernel
set_option maxRecDepth 100000 in
theorem tb_ok165 : tb_okm tb_m165 := ⟨Or.inr (by decide +kernel), tb_cut 24 tb_ok165_0 (tb_ok165_1), tb_ok165_l0, by decide +kernel⟩
/-! CountedActorsModel.send(IIII)V -/
set_option maxRecDepth 100000 in
theorem tb_ok166_0 : (tb_c166.take 24).all (tb_okc tb_m166) = true := by decide +kernel
set_option maxRecDepth 100000 in
theorem tb_ok166_1 : ((tb_c166.drop 24).take 24).all (tb_okc tb_m166) = true := by decide +kernel
set_option maxRecDepth 100000 in
theorem tb_ok166_2 : (((tb_c166.drop 24).drop 24).take 24).all (tb_okc tb_m166) = true := by decide +kernel
set_option maxRecDepth 100000 in
theorem tb_ok166_3 : ((((tb_c166.drop 24).drop 24).drop 24)).all (tb_okc tb_m166) = true := by decide +kernel
set_option maxRecDepth 100000 in
theorem tb_ok166_l0 : (tb_l166.take 6).all (tb_okl tb_m166) = true := by decide +kernel
set_option maxRecDepth 100000 in
theorem tb_ok166_l1 : ((tb_l166.drop 6)).all (tb_okl tb_m166) = true := by decide +kernel
set_option maxRecDepth 100000 in
theorem tb_ok166 : tb_okm tb_m166 := ⟨Or.inr (by decide +kernel), tb_cut 24 tb_ok166_0 (tb_cut 24 tb_ok166_1 (tb_cut 24 tb_ok166_2 (tb_ok166_3))), tb_cut 6 tb_ok166_l0 (tb_ok166_l1), by decide +kernel⟩
/-! CountedActorsModel.pay(II)V -/
set_option maxRecDepth 100000 in
theorem tb_ok167_0 : (tb_c167.take 24).all (tb_okc tb_m167) = true := by decide +kernel
set_option maxRecDepth 100000 in
theorem tb_ok167_1 : ((tb_c167.drop 24).take 24).all (tb_okc tb_m167) = true := by decide +kernel
set_option maxRecDepth 100000 in
theorem tb_ok167_2 : (((tb_c167.drop 24).drop 24)).all (tb_okc tb_m167) = true := by decide +kernel
set_option maxRecDepth 100000 in
theorem tb_ok167_l0 : (tb_l167).all (tb_okl tb_m167) = true := by decide +kernel
set_option maxRecDepth 100000 in
theorem tb_ok167 : tb_okm tb_m167 := ⟨Or.inr (by decide +kernel), tb_cut 24 tb_ok167_0 (tb_cut 24 tb_ok167_1 (tb_ok167_2)), tb_ok167_l0, by decide +kernel⟩
/-! CountedActorsModel.collect(I)I -/
set_option maxRecDepth 100000 in
theorem tb_ok168_0 : (tb_c168.take 24).all (tb_okc tb_m168) = true := by decide +kernel
set_option maxRecDepth 100000 in
theorem tb_ok168_1 : ((tb_c168.drop 24).take 24).all (tb_okc tb_m168) = true := by decide +kernel
set_option maxRecDepth 100000 in
theorem tb_ok168_2 : (((tb_c168.drop 24).drop 24).take 24).all (tb_okc tb_m168) = true := by decide +kernel
set_option maxRecDepth 100000 in
theorem tb_ok168_3 : ((((tb_c168.drop 24).drop 24).drop 24).take 24).all (tb_okc tb_m168) = true := by decide +kernel
set_option maxRecDepth 100000 in
theorem tb_ok168_4 : (((((tb_c168.drop 24).drop 24).drop 24).drop 24)).all (tb_okc tb_m168) = true := by decide +kernel
set_option maxRecDepth 100000 in
theorem tb_ok168_l0 : (tb_l168.take 6).all (tb_okl tb_m168) = true := by decide +kernel
set_option maxRecDepth 100000 in
theorem tb_ok168_l1 : ((tb_l168.drop 6)).all (tb_okl tb_m168) = true := by decide +kernel
set_option maxRecDepth 100000 in
theorem tb_ok168 : tb_okm tb_m168 := ⟨Or.inr (by decide +kernel), tb_cut 24 tb_ok168_0 (tb_cut 24 tb_ok168_1 (tb_cut 24 tb_ok168_2 (tb_cut 24 tb_ok168_3 (tb_ok168_4)))), tb_cut 6 tb_ok168_l0 (tb_ok168_l1), by decide +kernel⟩
/-! CountedActorsModel.ownRoots(I)V -/
set_option maxRecDepth 100000 in
theorem tb_ok169_0 : (tb_c169).all (tb_okc tb_m169) = true := by decide +kernel
set_option maxRecDepth 100000 in
theorem tb_ok169_l0 : (tb_l169).all (tb_okl tb_m169) = true := by decide +kernel
set_option maxRecDepth 100000 in
theorem tb_ok169 : tb_okm tb_m169 := ⟨Or.inr (by decide +kernel), tb_ok169_0, tb_ok169_l0, by decide +kernel⟩
/-! CountedActorsModel.remove(I)V -/
set_option maxRecDepth 100000 in
theorem tb_ok170_0 : (tb_c170.take 24).all (tb_okc tb_m170) = true := by decide +kernel
set_option maxRecDepth 100000 in
theorem tb_ok170_1 : ((tb_c170.drop 24)).all (tb_okc tb_m170) = true := by decide +kernel
set_option maxRecDepth 100000 in
theorem tb_ok170_l0 : (tb_l170).all (tb_okl tb_m170) = true := by decide +kernel
set_option maxRecDepth 100000 in
theorem tb_ok170 : tb_okm tb_m170 := ⟨Or.inr (by decide +kernel), tb_cut 24 tb_ok170_0 (tb_ok170_1), tb_ok170_l0, by decide +kernel⟩
/-! CountedActorsModel.waiting(I)I -/
set_option maxRecDepth 100000 in
theorem tb_ok171_0 : (tb_c171.take 24).all (tb_okc tb_m171) = true := by decide +kernel
set_option maxRecDepth 100000 in
theorem tb_ok171_1 : ((tb_c171.drop 24)).all (tb_okc tb_m171) = true := by decide +kernel
set_option maxRecDepth 100000 in
theorem tb_ok171_l0 : (tb_l171).all (tb_okl tb_m171) = true := by decide +kernel
set_option maxRecDepth 100000 in
theorem tb_ok171 : tb_okm tb_m171 := ⟨Or.inr (by decide +kernel), tb_cut 24 tb_ok171_0 (tb_ok171_1), tb_ok171_l0, by decide +kernel⟩
/-! CountedActorsModel.owner(I)I -/
set_option maxRecDepth 100000 in
theorem tb_ok172_0 : (tb_c172).all (tb_okc tb_m172) = true := by decide +kernel
set_option maxRecDepth 100000 in
theorem tb_ok172_l0 : (tb_l172).all (tb_okl tb_m172) = true := by decide +kernel
set_option maxRecDepth 100000 in
theorem tb_ok172 : tb_okm tb_m172 := ⟨Or.inr (by decide +kernel), tb_ok172_0, tb_ok172_l0, by decide +kernel⟩
/-! CountedActorsModel.there(I)Z -/
set_option maxRecDepth 100000 in
theorem tb_ok173_0 : (tb_c173).all (tb_okc tb_m173) = true := by decide +kernel
set_option maxRecDepth 100000 in
theorem tb_ok173_l0 : (tb_l173).all (tb_okl tb_m173) = true := by decide +kernel
set_option maxRecDepth 100000 in
theorem tb_ok173 : tb_okm tb_m173 := ⟨Or.inr (by decide +kernel), tb_ok173_0, tb_ok173_l0, by decide +kernel⟩
/-! CountedActorsModel.cell(I)I -/
set_option maxRecDepth 100000 in
theorem tb_ok174_0 : (tb_c174).all (tb_okc tb_m174) = true := by decide +kernel
set_option maxRecDepth 100000 in
theorem tb_ok174_l0 : (tb_l174).all (tb_okl tb_m174) = true := by decide +kernel
set_option maxRecDepth 100000 in
theorem tb_ok174 : tb_okm tb_m174 := ⟨Or.inr (by decide +kernel), tb_ok174_0, tb_ok174_l0, by decide +kernel⟩
/-! CountedActorsModel.count(II)I -/
set_option maxRecDepth 100000 in
theorem tb_ok175_0 : (tb_c175).all (tb_okc tb_m175) = true := by decide +kernel
set_option maxRecDepth 100000 in
theorem tb_ok175_l0 : (tb_l175).all (tb_okl tb_m175) = true := by decide +kernel
set_option maxRecDepth 100000 in
theorem tb_ok175 : tb_okm tb_m175 := ⟨Or.inr (by decide +kernel), tb_ok175_0, tb_ok175_l0, by decide +kernel⟩
/-! CountedActorsModel.field(II)I -/
set_option maxRecDepth 100000 in
theorem tb_ok176_0 : (tb_c176).all (tb_okc tb_m176) = true := by decide +kernel
set_option maxRecDepth 100000 in
theorem tb_ok176_l0 : (tb_l176).all (tb_okl tb_m176) = true := by decide +kernel
set_option maxRecDepth 100000 in
theorem tb_ok176 : tb_okm tb_m176 := ⟨Or.inr (by decide +kernel), tb_ok176_0, tb_ok176_l0, by decide +kernel⟩
/-! CountedActorsModel.inner(II)I -/
set_option maxRecDepth 100000 in
theorem tb_ok177_0 : (tb_c177).all (tb_okc tb_m177) = true := by decide +kernel
set_option maxRecDepth 100000 in
theorem tb_ok177_l0 : (tb_l177).all (tb_okl tb_m177) = true := by decide +kernel
set_option maxRecDepth 100000 in
theorem tb_ok177 : tb_okm tb_m177 := ⟨Or.inr (by decide +kernel), tb_ok177_0, tb_ok177_l0, by decide +kernel⟩
/-! CountedActorsModel.rights(II)I -/
set_option maxRecDepth 100000 in
theorem tb_ok178_0 : (tb_c178.take 24).all (tb_okc tb_m178) = true := by decide +kernel
set_option maxRecDepth 100000 in
theorem tb_ok178_1 : ((tb_c178.drop 24).take 24).all (tb_okc tb_m178) = true := by decide +kernel
set_option maxRecDepth 100000 in
theorem tb_ok178_2 : (((tb_c178.drop 24).drop 24).take 24).all (tb_okc tb_m178) = true := by decide +kernel
set_option maxRecDepth 100000 in
theorem tb_ok178_3 : ((((tb_c178.drop 24).drop 24).drop 24).take 24).all (tb_okc tb_m178) = true := by decide +kernel
set_option maxRecDepth 100000 in
theorem tb_ok178_4 : (((((tb_c178.drop 24).drop 24).drop 24).drop 24).take 24).all (tb_okc tb_m178) = true := by decide +kernel
set_option maxRecDepth 100000 in
theorem tb_ok178_5 : ((((((tb_c178.drop 24).drop 24).drop 24).drop 24).drop 24).take 24).all (tb_okc tb_m178) = true := by decide +kernel
set_option maxRecDepth 100000 in
theorem tb_ok178_6 : (((((((tb_c178.drop 24).drop 24).drop 24).drop 24).drop 24).drop 24).take 24).all (tb_okc tb_m178) = true := by decide +kernel
set_option maxRecDepth 100000 in
theorem tb_ok178_7 : ((((((((tb_c178.drop 24).drop 24).drop 24).drop 24).drop 24).drop 24).drop 24)).all (tb_okc tb_m178) = true := by decide +kernel
set_option maxRecDepth 100000 in
theorem tb_ok178_l0 : (tb_l178.take 6).all (tb_okl tb_m178) = true := by decide +kernel
set_option maxRecDepth 100000 in
theorem tb_ok178_l1 : ((tb_l178.drop 6).take 6).all (tb_okl tb_m178) = true := by decide +kernel
set_option maxRecDepth 100000 in
theorem tb_ok178_l2 : (((tb_l178.drop 6).drop 6)).all (tb_okl tb_m178) = true := by decide +kernel
set_option maxRecDepth 100000 in
theorem tb_ok178 : tb_okm tb_m178 := ⟨Or.inr (by decide +kernel), tb_cut 24 tb_ok178_0 (tb_cut 24 tb_ok178_1 (tb_cut 24 tb_ok178_2 (tb_cut 24 tb_ok178_3 (tb_cut 24 tb_ok178_4 (tb_cut 24 tb_ok178_5 (tb_cut 24 tb_ok178_6 (tb_ok178_7))))))), tb_cut 6 tb_ok178_l0 (tb_cut 6 tb_ok178_l1 (tb_ok178_l2)), by decide +kernel⟩
/-! CountedActorsModel.look()V -/
set_option maxRecDepth 100000 in
theorem tb_ok179_0 : (tb_c179.take 24).all (tb_okc tb_m179) = true := by decide +kernel
set_option maxRecDepth 100000 in
theorem tb_ok179_1 : ((tb_c179.drop 24).take 24).all (tb_okc tb_m179) = true := by decide +kernel
set_option maxRecDepth 100000 in
theorem tb_ok179_2 : (((tb_c179.drop 24).drop 24)).all (tb_okc tb_m179) = true := by decide +kernel
set_option maxRecDepth 100000 in
theorem tb_ok179_l0 : (tb_l179).all (tb_okl tb_m179) = true := by decide +kernel
set_option maxRecDepth 100000 in
theorem tb_ok179 : tb_okm tb_m179 := ⟨Or.inr (by decide +kernel), tb_cut 24 tb_ok179_0 (tb_cut 24 tb_ok179_1 (tb_ok179_2)), tb_ok179_l0, by decide +kernel⟩
/-! CountedActorsModel.shown(I)I -/
set_option maxRecDepth 100000 in
theorem tb_ok180_0 : (tb_c180).all (tb_okc tb_m180) = true := by decide +kernel
set_option maxRecDepth 100000 in
theorem tb_ok180_l0 : (tb_l180).all (tb_okl tb_m180) = true := by decide +kernel
set_option maxRecDepth 100000 in
theorem tb_ok180 : tb_okm tb_m180 := ⟨Or.inr (by decide +kernel), tb_ok180_0, tb_ok180_l0, by decide +kernel⟩
/-! CountedActorsModel.garbage()I -/
set_option maxRecDepth 100000 in
theorem tb_ok181_0 : (tb_c181.take 24).all (tb_okc tb_m181) = true := by decide +kernel
set_option maxRecDepth 100000 in
theorem tb_ok181_1 : ((tb_c181.drop 24).take 24).all (tb_okc tb_m181) = true := by decide +kernel
set_option maxRecDepth 100000 in
theorem tb_ok181_2 : (((tb_c181.drop 24).drop 24)).all (tb_okc tb_m181) = true := by decide +kernel
set_option maxRecDepth 100000 in
theorem tb_ok181_l0 : (tb_l181.take 6).all (tb_okl tb_m181) = true := by decide +kernel
set_option maxRecDepth 100000 in
theorem tb_ok181_l1 : ((tb_l181.drop 6)).all (tb_okl tb_m181) = true := by decide +kernel
set_option maxRecDepth 100000 in
theorem tb_ok181 : tb_okm tb_m181 := ⟨Or.inr (by decide +kernel), tb_cut 24 tb_ok181_0 (tb_cut 24 tb_ok181_1 (tb_ok181_2)), tb_cut 6 tb_ok181_l0 (tb_ok181_l1), by decide +kernel⟩
/-! CountedActorsModel.lost()I -/
set_option maxRecDepth 100000 in
theorem tb_ok182_0 : (tb_c182).all (tb_okc tb_m182) = true := by decide +kernel
set_option maxRecDepth 100000 in
theorem tb_ok182_l0 : (tb_l182).all (tb_okl tb_m182) = true := by decide +kernel
set_option maxRecDepth 100000 in
theorem tb_ok182 : tb_okm tb_m182 := ⟨Or.inr (by decide +kernel), tb_ok182_0, tb_ok182_l0, by decide +kernel⟩
end
section
theorem tb_okM0 : ∀ q ∈ tb_M0, tb_okm q := List.forall_mem_cons.mpr ⟨tb_ok0, List.forall_mem_cons.mpr ⟨tb_ok1, List.forall_mem_cons.mpr ⟨tb_ok2, List.forall_mem_cons.mpr ⟨tb_ok3, List.forall_mem_cons.mpr ⟨tb_ok4, List.forall_mem_cons.mpr ⟨tb_ok5, List.forall_mem_cons.mpr ⟨tb_ok6, List.forall_mem_cons.mpr ⟨tb_ok7, List.forall_mem_cons.mpr ⟨tb_ok8, List.forall_mem_cons.mpr ⟨tb_ok9, List.forall_mem_cons.mpr ⟨tb_ok10, List.forall_mem_cons.mpr ⟨tb_ok11, List.forall_mem_cons.mpr ⟨tb_ok12, List.forall_mem_cons.mpr ⟨tb_ok13, List.forall_mem_cons.mpr ⟨tb_ok14, List.forall_mem_cons.mpr ⟨tb_ok15, fun _ h => absurd h List.not_mem_nil⟩⟩⟩⟩⟩⟩⟩⟩⟩⟩⟩⟩⟩⟩⟩⟩
theorem tb_okM1 : ∀ q ∈ tb_M1, tb_okm q := List.forall_mem_cons.mpr ⟨tb_ok16, List.forall_mem_cons.mpr ⟨tb_ok17, List.forall_mem_cons.mpr ⟨tb_ok18, List.forall_mem_cons.mpr ⟨tb_ok19, List.forall_mem_cons.mpr ⟨tb_ok20, List.forall_mem_cons.mpr ⟨tb_ok21, List.forall_mem_cons.mpr ⟨tb_ok22, List.forall_mem_cons.mpr ⟨tb_ok23, List.forall_mem_cons.mpr ⟨tb_ok24, List.forall_mem_cons.mpr ⟨tb_ok25, List.forall_mem_cons.mpr ⟨tb_ok26, List.forall_mem_cons.mpr ⟨tb_ok27, List.forall_mem_cons.mpr ⟨tb_ok28, List.forall_mem_cons.mpr ⟨tb_ok29, List.forall_mem_cons.mpr ⟨tb_ok30, List.forall_mem_cons.mpr ⟨tb_ok31, fun _ h => absurd h List.not_mem_nil⟩⟩⟩⟩⟩⟩⟩⟩⟩⟩⟩⟩⟩⟩⟩⟩
theorem tb_okM2 : ∀ q ∈ tb_M2, tb_okm q := List.forall_mem_cons.mpr ⟨tb_ok32, List.forall_mem_cons.mpr ⟨tb_ok33, List.forall_mem_cons.mpr ⟨tb_ok34, List.forall_mem_cons.mpr ⟨tb_ok35, List.forall_mem_cons.mpr ⟨tb_ok36, List.forall_mem_cons.mpr ⟨tb_ok37, List.forall_mem_cons.mpr ⟨tb_ok38, List.forall_mem_cons.mpr ⟨tb_ok39, List.forall_mem_cons.mpr ⟨tb_ok40, List.forall_mem_cons.mpr ⟨tb_ok41, List.forall_mem_cons.mpr ⟨tb_ok42, List.forall_mem_cons.mpr ⟨tb_ok43, List.forall_mem_cons.mpr ⟨tb_ok44, List.forall_mem_cons.mpr ⟨tb_ok45, List.forall_mem_cons.mpr ⟨tb_ok46, List.forall_mem_cons.mpr ⟨tb_ok47, fun _ h => absurd h List.not_mem_nil⟩⟩⟩⟩⟩⟩⟩⟩⟩⟩⟩⟩⟩⟩⟩⟩
theorem tb_okM3 : ∀ q ∈ tb_M3, tb_okm q := List.forall_mem_cons.mpr ⟨tb_ok48, List.forall_mem_cons.mpr ⟨tb_ok49, List.forall_mem_cons.mpr ⟨tb_ok50, List.forall_mem_cons.mpr ⟨tb_ok51, List.forall_mem_cons.mpr ⟨tb_ok52, List.forall_mem_cons.mpr ⟨tb_ok53, List.forall_mem_cons.mpr ⟨tb_ok54, List.forall_mem_cons.mpr ⟨tb_ok55, List.forall_mem_cons.mpr ⟨tb_ok56, List.forall_mem_cons.mpr ⟨tb_ok57, List.forall_mem_cons.mpr ⟨tb_ok58, List.forall_mem_cons.mpr ⟨tb_ok59, List.forall_mem_cons.mpr ⟨tb_ok60, List.forall_mem_cons.mpr ⟨tb_ok61, List.forall_mem_cons.mpr ⟨tb_ok62, List.forall_mem_cons.mpr ⟨tb_ok63, fun _ h => absurd h List.not_mem_nil⟩⟩⟩⟩⟩⟩⟩⟩⟩⟩⟩⟩⟩⟩⟩⟩
theorem tb_okM4 : ∀ q ∈ tb_M4, tb_okm q := List.forall_mem_cons.mpr ⟨tb_ok64, List.forall_mem_cons.mpr ⟨tb_ok65, List.forall_mem_cons.mpr ⟨tb_ok66, List.forall_mem_cons.mpr ⟨tb_ok67, List.forall_mem_cons.mpr ⟨tb_ok68, List.forall_mem_cons.mpr ⟨tb_ok69, List.forall_mem_cons.mpr ⟨tb_ok70, List.forall_mem_cons.mpr ⟨tb_ok71, List.forall_mem_cons.mpr ⟨tb_ok72, List.forall_mem_cons.mpr ⟨tb_ok73, List.forall_mem_cons.mpr ⟨tb_ok74, List.forall_mem_cons.mpr ⟨tb_ok75, List.forall_mem_cons.mpr ⟨tb_ok76, List.forall_mem_cons.mpr ⟨tb_ok77, List.forall_mem_cons.mpr ⟨tb_ok78, List.forall_mem_cons.mpr ⟨tb_ok79, fun _ h => absurd h List.not_mem_nil⟩⟩⟩⟩⟩⟩⟩⟩⟩⟩⟩⟩⟩⟩⟩⟩
theorem tb_okM5 : ∀ q ∈ tb_M5, tb_okm q := List.forall_mem_cons.mpr ⟨tb_ok80, List.forall_mem_cons.mpr ⟨tb_ok81, List.forall_mem_cons.mpr ⟨tb_ok82, List.forall_mem_cons.mpr ⟨tb_ok83, List.forall_mem_cons.mpr ⟨tb_ok84, List.forall_mem_cons.mpr ⟨tb_ok85, List.forall_mem_cons.mpr ⟨tb_ok86, List.forall_mem_cons.mpr ⟨tb_ok87, List.forall_mem_cons.mpr ⟨tb_ok88, List.forall_mem_cons.mpr ⟨tb_ok89, List.forall_mem_cons.mpr ⟨tb_ok90, List.forall_mem_cons.mpr ⟨tb_ok91, List.forall_mem_cons.mpr ⟨tb_ok92, List.forall_mem_cons.mpr ⟨tb_ok93, List.forall_mem_cons.mpr ⟨tb_ok94, List.forall_mem_cons.mpr ⟨tb_ok95, fun _ h => absurd h List.not_mem_nil⟩⟩⟩⟩⟩⟩⟩⟩⟩⟩⟩⟩⟩⟩⟩⟩
theorem tb_okM6 : ∀ q ∈ tb_M6, tb_okm q := List.forall_mem_cons.mpr ⟨tb_ok96, List.forall_mem_cons.mpr ⟨tb_ok97, List.forall_mem_cons.mpr ⟨tb_ok98, List.forall_mem_cons.mpr ⟨tb_ok99, List.forall_mem_cons.mpr ⟨tb_ok100, List.forall_mem_cons.mpr ⟨tb_ok101, List.forall_mem_cons.mpr ⟨tb_ok102, List.forall_mem_cons.mpr ⟨tb_ok103, List.forall_mem_cons.mpr ⟨tb_ok104, List.forall_mem_cons.mpr ⟨tb_ok105, List.forall_mem_cons.mpr ⟨tb_ok106, List.forall_mem_cons.mpr ⟨tb_ok107, List.forall_mem_cons.mpr ⟨tb_ok108, List.forall_mem_cons.mpr ⟨tb_ok109, List.forall_mem_cons.mpr ⟨tb_ok110, List.forall_mem_cons.mpr ⟨tb_ok111, fun _ h => absurd h List.not_mem_nil⟩⟩⟩⟩⟩⟩⟩⟩⟩⟩⟩⟩⟩⟩⟩⟩
theorem tb_okM7 : ∀ q ∈ tb_M7, tb_okm q := List.forall_mem_cons.mpr ⟨tb_ok112, List.forall_mem_cons.mpr ⟨tb_ok113, List.forall_mem_cons.mpr ⟨tb_ok114, List.forall_mem_cons.mpr ⟨tb_ok115, List.forall_mem_cons.mpr ⟨tb_ok116, List.forall_mem_cons.mpr ⟨tb_ok117, List.forall_mem_cons.mpr ⟨tb_ok118, List.forall_mem_cons.mpr ⟨tb_ok119, List.forall_mem_cons.mpr ⟨tb_ok120, List.forall_mem_cons.mpr ⟨tb_ok121, List.forall_mem_cons.mpr ⟨tb_ok122, List.forall_mem_cons.mpr ⟨tb_ok123, List.forall_mem_cons.mpr ⟨tb_ok124, List.forall_mem_cons.mpr ⟨tb_ok125, List.forall_mem_cons.mpr ⟨tb_ok126, List.forall_mem_cons.mpr ⟨tb_ok127, fun _ h => absurd h List.not_mem_nil⟩⟩⟩⟩⟩⟩⟩⟩⟩⟩⟩⟩⟩⟩⟩⟩
theorem tb_okM8 : ∀ q ∈ tb_M8, tb_okm q := List.forall_mem_cons.mpr ⟨tb_ok128, List.forall_mem_cons.mpr ⟨tb_ok129, List.forall_mem_cons.mpr ⟨tb_ok130, List.forall_mem_cons.mpr ⟨tb_ok131, List.forall_mem_cons.mpr ⟨tb_ok132, List.forall_mem_cons.mpr ⟨tb_ok133, List.forall_mem_cons.mpr ⟨tb_ok134, List.forall_mem_cons.mpr ⟨tb_ok135, List.forall_mem_cons.mpr ⟨tb_ok136, List.forall_mem_cons.mpr ⟨tb_ok137, List.forall_mem_cons.mpr ⟨tb_ok138, List.forall_mem_cons.mpr ⟨tb_ok139, List.forall_mem_cons.mpr ⟨tb_ok140, List.forall_mem_cons.mpr ⟨tb_ok141, List.forall_mem_cons.mpr ⟨tb_ok142, List.forall_mem_cons.mpr ⟨tb_ok143, fun _ h => absurd h List.not_mem_nil⟩⟩⟩⟩⟩⟩⟩⟩⟩⟩⟩⟩⟩⟩⟩⟩
theorem tb_okM9 : ∀ q ∈ tb_M9, tb_okm q := List.forall_mem_cons.mpr ⟨tb_ok144, List.forall_mem_cons.mpr ⟨tb_ok145, List.forall_mem_cons.mpr ⟨tb_ok146, List.forall_mem_cons.mpr ⟨tb_ok147, List.forall_mem_cons.mpr ⟨tb_ok148, List.forall_mem_cons.mpr ⟨tb_ok149, List.forall_mem_cons.mpr ⟨tb_ok150, List.forall_mem_cons.mpr ⟨tb_ok151, List.forall_mem_cons.mpr ⟨tb_ok152, List.forall_mem_cons.mpr ⟨tb_ok153, List.forall_mem_cons.mpr ⟨tb_ok154, List.forall_mem_cons.mpr ⟨tb_ok155, List.forall_mem_cons.mpr ⟨tb_ok156, List.forall_mem_cons.mpr ⟨tb_ok157, List.forall_mem_cons.mpr ⟨tb_ok158, List.forall_mem_cons.mpr ⟨tb_ok159, fun _ h => absurd h List.not_mem_nil⟩⟩⟩⟩⟩⟩⟩⟩⟩⟩⟩⟩⟩⟩⟩⟩
theorem tb_okM10 : ∀ q ∈ tb_M10, tb_okm q := List.forall_mem_cons.mpr ⟨tb_ok160, List.forall_mem_cons.mpr ⟨tb_ok161, List.forall_mem_cons.mpr ⟨tb_ok162, List.forall_mem_cons.mpr ⟨tb_ok163, List.forall_mem_cons.mpr ⟨tb_ok164, List.forall_mem_cons.mpr ⟨tb_ok165, List.forall_mem_cons.mpr ⟨tb_ok166, List.forall_mem_cons.mpr ⟨tb_ok167, List.forall_mem_cons.mpr ⟨tb_ok168, List.forall_mem_cons.mpr ⟨tb_ok169, List.forall_mem_cons.mpr ⟨tb_ok170, List.forall_mem_cons.mpr ⟨tb_ok171, List.forall_mem_cons.mpr ⟨tb_ok172, List.forall_mem_cons.mpr ⟨tb_ok173, List.forall_mem_cons.mpr ⟨tb_ok174, List.forall_mem_cons.mpr ⟨tb_ok175, fun _ h => absurd h List.not_mem_nil⟩⟩⟩⟩⟩⟩⟩⟩⟩⟩⟩⟩⟩⟩⟩⟩
theorem tb_okM11 : ∀ q ∈ tb_M11, tb_okm q := List.forall_mem_cons.mpr ⟨tb_ok176, List.forall_mem_cons.mpr ⟨tb_ok177, List.forall_mem_cons.mpr ⟨tb_ok178, List.forall_mem_cons.mpr ⟨tb_ok179, List.forall_mem_cons.mpr ⟨tb_ok180, List.forall_mem_cons.mpr ⟨tb_ok181, List.forall_mem_cons.mpr ⟨tb_ok182, fun _ h => absurd h List.not_mem_nil⟩⟩⟩⟩⟩⟩⟩
theorem tb_okM : ∀ l ∈ tb_M, ∀ q ∈ l, tb_okm q := List.forall_mem_cons.mpr ⟨tb_okM0, List.forall_mem_cons.mpr ⟨tb_okM1, List.forall_mem_cons.mpr ⟨tb_okM2, List.forall_mem_cons.mpr ⟨tb_okM3, List.forall_mem_cons.mpr ⟨tb_okM4, List.forall_mem_cons.mpr ⟨tb_okM5, List.forall_mem_cons.mpr ⟨tb_okM6, List.forall_mem_cons.mpr ⟨tb_okM7, List.forall_mem_cons.mpr ⟨tb_okM8, List.forall_mem_cons.mpr ⟨tb_okM9, List.forall_mem_cons.mpr ⟨tb_okM10, List.forall_mem_cons.mpr ⟨tb_okM11, fun _ h => absurd h List.not_mem_nil⟩⟩⟩⟩⟩⟩⟩⟩⟩⟩⟩⟩
end
section
/-! The world of the small machine: handles, addresses, cells -/
def am_ad (ra : Nat → Nat) (ws : va_W) (k : Nat) : Nat := match ws[k]? with
  | some q => q.1
  | none => ra k
def am_tv (ra : Nat → Nat) (ws : va_W) (v : Value) : Value := match v with
  | .ref k => .ref (am_ad ra ws k)
  | w => w
def am_ok (n : Nat) (v : Value) : Prop := match v with
  | .int _ => True
  | .null => True
  | .ref k => k < n ∨ 1048576 ≤ k
  | _ => False
theorem am_ok.mono {n n' : Nat} (h : n ≤ n') {v : Value} (hv : am_ok n v) : am_ok n' v := by
  cases v with
  | ref k => exact hv.elim (fun q => Or.inl (Nat.lt_of_lt_of_le q h)) Or.inr
  | _ => exact hv
theorem am_ok.cat {n : Nat} {v : Value} (hv : am_ok n v) : v.category = 1 := by
  cases v <;> simp only [am_ok] at hv <;> rfl
theorem am_tv_cat {ra : Nat → Nat} {ws : va_W} {v : Value} : (am_tv ra ws v).category = v.category := by
  cases v <;> rfl
def am_ex (ra : Nat → Nat) (ws ws' : va_W) : Prop := ws.length ≤ ws'.length ∧ ws'.length ≤ 1048576 ∧ ∀ k, k < ws.length → am_ad ra ws' k = am_ad ra ws k
theorem am_ex.rf {ra : Nat → Nat} {ws : va_W} (h : ws.length ≤ 1048576) : am_ex ra ws ws := ⟨Nat.le_refl _, h, fun _ _ => rfl⟩
theorem am_ex.tr {ra : Nat → Nat} {w1 w2 w3 : va_W} (h : am_ex ra w1 w2) (h' : am_ex ra w2 w3) : am_ex ra w1 w3 :=
  ⟨Nat.le_trans h.1 h'.1, h'.2.1, fun k hk => (h'.2.2 k (Nat.lt_of_lt_of_le hk h.1)).trans (h.2.2 k hk)⟩
theorem am_ad_big {ra : Nat → Nat} {ws : va_W} {k : Nat} (h : ws.length ≤ k) : am_ad ra ws k = ra k := by
  unfold am_ad
  rw [List.getElem?_eq_none h]
theorem am_ad_at {ra : Nat → Nat} {ws : va_W} {k a : Nat} {e : va_E} (h : ws[k]? = some (a, e)) : am_ad ra ws k = a := by
  unfold am_ad
  rw [h]
theorem am_ex.tv {ra : Nat → Nat} {ws ws' : va_W} (h : am_ex ra ws ws') {v : Value} (hv : am_ok ws.length v) : am_tv ra ws' v = am_tv ra ws v := by
  cases v with
  | ref k =>
    simp only [am_tv]
    rcases hv with hk | hk
    · rw [h.2.2 k hk]
    · rw [am_ad_big (Nat.le_trans h.2.1 hk), am_ad_big (Nat.le_trans h.1 (Nat.le_trans h.2.1 hk))]
  | _ => rfl
theorem am_ex.tvs {ra : Nat → Nat} {ws ws' : va_W} (h : am_ex ra ws ws') : ∀ {st : List Value}, (∀ v ∈ st, am_ok ws.length v) → st.map (am_tv ra ws') = st.map (am_tv ra ws)
  | [], _ => rfl
  | v :: r, hv => by
    rw [List.map_cons, List.map_cons, h.tv (hv v List.mem_cons_self), h.tvs (fun w hw => hv w (List.mem_cons_of_mem _ hw))]
theorem am_ad_set {ra : Nat → Nat} {ws : va_W} {q a : Nat} {e0 e : va_E} (h : ws[q]? = some (a, e0)) (k : Nat) : am_ad ra (ws.set q (a, e)) k = am_ad ra ws k := by
  unfold am_ad
  by_cases hk : q = k
  · subst hk
    rw [List.getElem?_set_self (List.getElem?_eq_some_iff.mp h).1, h]
  · rw [List.getElem?_set_ne hk]
theorem am_ad_push {ra : Nat → Nat} {ws : va_W} {x : Nat × va_E} {k : Nat} (h : k < ws.length) : am_ad ra (ws ++ [x]) k = am_ad ra ws k := by
  unfold am_ad
  rw [List.getElem?_append_left h]
theorem am_ad_new {ra : Nat → Nat} {ws : va_W} {x : Nat × va_E} : am_ad ra (ws ++ [x]) ws.length = x.1 := by
  unfold am_ad
  rw [List.getElem?_append_right (Nat.le_refl _), Nat.sub_self]
  rfl
/-- a cell of the small machine, whose ints are f, and a cell of the kit's world -/
def am_ce (cl : List vw_C) (ra : Nat → Nat) (ws : va_W) (tys : List (ClassId × FieldType)) (f : Nat → Int32) (c : am_C) (e : va_E) : Prop := match c with
  | .inl o => ∃ vs : List Value, e = .inr (o.1, vs) ∧ vs.length = o.2.length ∧ (∀ j : Nat, o.2[j]? = some none → vs[j]? = some (.int (f j))) ∧ ∀ (j : Nat) (v : Value), o.2[j]? = some (some v) → vs[j]? = some (am_tv ra ws v) ∧ am_ok ws.length v
  | .inr a => ∃ (cA : ClassId) (t0 : Nat), (a.1 = 0 ∧ tys[t0]? = some (cA, FieldType.int) ∧ e = .inl (cA, a.2.1, .inl f)) ∨ (a.1 = 1 ∧ tys[t0]? = some (cA, FieldType.boolean) ∧ e = .inl (cA, a.2.1, .inl f)) ∨
    ∃ (ci : Nat) (r : vw_C), a.1 = ci + 2 ∧ cl[ci]? = some r ∧ tys[t0]? = some (cA, FieldType.object r.1) ∧ e = .inl (cA, a.2.1, .inr (.inr (.inr (.inr (fun j => (a.2.2 j).map (am_ad ra ws)))))) ∧ ∀ (j b : Nat), a.2.2 j = some b → b < ws.length
theorem am_ce.ex {cl : List vw_C} {ra : Nat → Nat} {ws ws' : va_W} {tys tys' : List (ClassId × FieldType)} {f : Nat → Int32} {c : am_C} {e : va_E} (h : am_ce cl ra ws tys f c e) (hx : am_ex ra ws ws') (ht : ∀ (k : Nat) (x : ClassId × FieldType), tys[k]? = some x → tys'[k]? = some x) : am_ce cl ra ws' tys' f c e := by
  cases c with
  | inl o =>
    obtain ⟨vs, h1, h2, h3, h4⟩ := h
    refine ⟨vs, h1, h2, h3, fun j v hj => ?_⟩
    obtain ⟨h5, h6⟩ := h4 j v hj
    exact ⟨by rw [hx.tv h6]; exact h5, h6.mono hx.1⟩
  | inr a =>
    obtain ⟨cA, t0, h⟩ := h
    refine ⟨cA, t0, ?_⟩
    rcases h with ⟨h1, h2, h3⟩ | ⟨h1, h2, h3⟩ | ⟨ci, r, h1, h2, h3, h4, h5⟩
    · exact Or.inl ⟨h1, ht _ _ h2, h3⟩
    · exact Or.inr (Or.inl ⟨h1, ht _ _ h2, h3⟩)
    · refine Or.inr (Or.inr ⟨ci, r, h1, h2, ht _ _ h3, ?_, fun j b hb => Nat.lt_of_lt_of_le (h5 j b hb) hx.1⟩)
      rw [h4]
      congr 7
      funext j
      cases hj : a.2.2 j with
      | none => rfl
      | some b =>
        show some (am_ad ra ws b) = some (am_ad ra ws' b)
        rw [hx.2.2 b (h5 j b hj)]
def am_W (cl : List vw_C) (ra : Nat → Nat) (ws : va_W) (tys : List (ClassId × FieldType)) (sh : List am_C) (M : am_M) : Prop :=
  ws.length = sh.length ∧ sh.length ≤ 1048576 ∧ ∀ (k : Nat) (c : am_C), sh[k]? = some c → ∃ (a : Nat) (e : va_E), ws[k]? = some (a, e) ∧ am_ce cl ra ws tys (M k) c e
theorem am_W.set {cl : List vw_C} {ra : Nat → Nat} {ws : va_W} {tys : List (ClassId × FieldType)} {sh : List am_C} {M M' : am_M} {q a : Nat} {e0 e : va_E} {c : am_C} (h : am_W cl ra ws tys sh M) (hq : ws[q]? = some (a, e0)) (hce : am_ce cl ra ws tys (M' q) c e) (hM : ∀ k, k ≠ q → M' k = M k) :
    am_W cl ra (ws.set q (a, e)) tys (sh.set q c) M' ∧ am_ex ra ws (ws.set q (a, e)) := by
  have hx : am_ex ra ws (ws.set q (a, e)) := ⟨by rw [List.length_set]; exact Nat.le_refl _, by rw [List.length_set, h.1]; exact h.2.1, fun k _ => am_ad_set hq k⟩
  refine ⟨⟨by rw [List.length_set, List.length_set]; exact h.1, by rw [List.length_set]; exact h.2.1, fun k c' hk => ?_⟩, hx⟩
  have hl := (List.getElem?_eq_some_iff.mp hq).1
  by_cases hkq : q = k
  · subst hkq
    rw [List.getElem?_set_self (by rw [← h.1]; exact hl)] at hk
    cases hk
    exact ⟨a, e, List.getElem?_set_self hl, hce.ex hx (fun _ _ z => z)⟩
  · rw [List.getElem?_set_ne hkq] at hk
    obtain ⟨a', e', h1, h2⟩ := h.2.2 k c' hk
    exact ⟨a', e', by rw [List.getElem?_set_ne hkq]; exact h1, by rw [hM k (Ne.symm hkq)]; exact h2.ex hx (fun _ _ z => z)⟩
theorem am_set_same {α : Type} {l : List α} {q : Nat} {c : α} (h : l[q]? = some c) : l.set q c = l := by
  apply List.ext_getElem?
  intro k
  by_cases hk : q = k
  · subst hk
    rw [List.getElem?_set_self (List.getElem?_eq_some_iff.mp h).1, h]
  · rw [List.getElem?_set_ne hk]
theorem am_W.put {cl : List vw_C} {ra : Nat → Nat} {ws : va_W} {tys : List (ClassId × FieldType)} {sh : List am_C} {M M' : am_M} {q a : Nat} {e0 e : va_E} {c : am_C} (h : am_W cl ra ws tys sh M) (hc : sh[q]? = some c) (hq : ws[q]? = some (a, e0)) (hce : am_ce cl ra ws tys (M' q) c e) (hM : ∀ k, k ≠ q → M' k = M k) :
    am_W cl ra (ws.set q (a, e)) tys sh M' ∧ am_ex ra ws (ws.set q (a, e)) := by
  have := am_W.set h hq hce hM
  rwa [am_set_same hc] at this
theorem am_W.push {cl : List vw_C} {ra : Nat → Nat} {ws : va_W} {tys tl : List (ClassId × FieldType)} {sh : List am_C} {M M' : am_M} {a : Nat} {e : va_E} {c : am_C} (h : am_W cl ra ws tys sh M) (hlen : ¬ 1048576 ≤ sh.length + 1) (hM : ∀ k, k ≠ sh.length → M' k = M k)
    (hce : am_ex ra ws (ws ++ [(a, e)]) → am_ce cl ra (ws ++ [(a, e)]) (tys ++ tl) (M' sh.length) c e) :
    am_W cl ra (ws ++ [(a, e)]) (tys ++ tl) (sh ++ [c]) M' ∧ am_ex ra ws (ws ++ [(a, e)]) := by
  have hx : am_ex ra ws (ws ++ [(a, e)]) := ⟨by rw [List.length_append]; omega, by rw [List.length_append, h.1]; show sh.length + 1 ≤ _; omega, fun k hk => am_ad_push hk⟩
  refine ⟨⟨by rw [List.length_append, List.length_append, h.1]; rfl, by rw [List.length_append]; show sh.length + 1 ≤ _; omega, fun k c' hk => ?_⟩, hx⟩
  by_cases hkl : k < sh.length
  · rw [List.getElem?_append_left hkl] at hk
    obtain ⟨a', e', h1, h2⟩ := h.2.2 k c' hk
    refine ⟨a', e', by rw [List.getElem?_append_left (by rw [h.1]; exact hkl)]; exact h1, ?_⟩
    rw [hM k (by omega)]
    refine h2.ex hx (fun t x ht => ?_)
    rw [List.getElem?_append_left (List.getElem?_eq_some_iff.mp ht).1]
    exact ht
  · rw [List.getElem?_append_right (by omega)] at hk
    have hz : k - sh.length < 1 := (List.getElem?_eq_some_iff.mp hk).1
    have hk0 : k = sh.length := by omega
    subst hk0
    rw [Nat.sub_self] at hk
    cases hk
    refine ⟨a, e, ?_, hce hx⟩
    rw [List.getElem?_append_right (by rw [h.1]; exact Nat.le_refl _), h.1, Nat.sub_self]
    rfl
def am_sc (c : am_C) : Nat := match c with
  | .inl o => o.2.length
  | .inr a => a.2.1
def am_sz : List am_C → Nat
  | [] => 0
  | c :: r => am_sc c + am_sz r
theorem am_sz_push : ∀ (sh : List am_C) (c : am_C), am_sz (sh ++ [c]) = am_sz sh + am_sc c
  | [], c => by simp [am_sz]
  | a :: r, c => by
    show am_sc a + am_sz (r ++ [c]) = am_sc a + am_sz r + am_sc c
    rw [am_sz_push r c]
    omega
theorem am_sz_set : ∀ (sh : List am_C) (k : Nat) (c c' : am_C), sh[k]? = some c → am_sc c' = am_sc c → am_sz (sh.set k c') = am_sz sh
  | [], k, c, c', h, _ => by simp at h
  | a :: r, 0, c, c', h, hs => by
    simp at h
    subst h
    show am_sc c' + am_sz r = am_sc a + am_sz r
    rw [hs]
  | a :: r, k + 1, c, c', h, hs => by
    show am_sc a + am_sz (r.set k c') = am_sc a + am_sz r
    rw [am_sz_set r k c c' (by simpa using h) hs]
/-- the locals -/
def am_L (ra : Nat → Nat) (ws : va_W) (nL : Nat) (L : List (Option Value)) (ls : Array Slot) : Prop :=
  ls.size = nL ∧ lv_wf ls ∧ L.length = nL ∧ ∀ (j : Nat) (v : Value), L[j]? = some (some v) → ls[j]? = some (.val (am_tv ra ws v)) ∧ am_ok ws.length v
theorem am_L.ex {ra : Nat → Nat} {ws ws' : va_W} {nL : Nat} {L : List (Option Value)} {ls : Array Slot} (h : am_L ra ws nL L ls) (hx : am_ex ra ws ws') : am_L ra ws' nL L ls :=
  ⟨h.1, h.2.1, h.2.2.1, fun j v hj => ⟨by rw [hx.tv (h.2.2.2 j v hj).2]; exact (h.2.2.2 j v hj).1, (h.2.2.2 j v hj).2.mono hx.1⟩⟩
def am_pr (ra : Nat → Nat) (ws : va_W) : Nat → List (Option Value) → List (Nat × Value)
  | _, [] => []
  | i, none :: r => am_pr ra ws (i + 1) r
  | i, some v :: r => (i, am_tv ra ws v) :: am_pr ra ws (i + 1) r
theorem am_pr_mem {ra : Nat → Nat} {ws : va_W} : ∀ (L : List (Option Value)) (i : Nat) (q : Nat × Value), q ∈ am_pr ra ws i L ↔ ∃ (j : Nat) (v : Value), L[j]? = some (some v) ∧ q = (i + j, am_tv ra ws v)
  | [], i, q => by simp [am_pr]
  | none :: r, i, q => by
    rw [am_pr, am_pr_mem r (i + 1) q]
    constructor
    · rintro ⟨j, v, h1, h2⟩
      exact ⟨j + 1, v, by simpa using h1, by rw [h2]; congr 1; omega⟩
    · rintro ⟨j, v, h1, h2⟩
      cases j with
      | zero => simp at h1
      | succ j => exact ⟨j, v, by simpa using h1, by rw [h2]; congr 1; omega⟩
  | some w :: r, i, q => by
    rw [am_pr, List.mem_cons, am_pr_mem r (i + 1) q]
    constructor
    · rintro (h | ⟨j, v, h1, h2⟩)
      · exact ⟨0, w, by simp, by rw [h]; rfl⟩
      · exact ⟨j + 1, v, by simpa using h1, by rw [h2]; congr 1; omega⟩
    · rintro ⟨j, v, h1, h2⟩
      cases j with
      | zero =>
        simp at h1
        subst h1
        exact Or.inl h2
      | succ j => exact Or.inr ⟨j, v, by simpa using h1, by rw [h2]; congr 1; omega⟩
theorem am_L.has {ra : Nat → Nat} {ws : va_W} {nL : Nat} {L : List (Option Value)} {ls : Array Slot} (h : am_L ra ws nL L ls) : lv_has ls nL (am_pr ra ws 0 L) := by
  refine ⟨h.1, h.2.1, fun q hq => ?_⟩
  obtain ⟨j, v, h1, rfl⟩ := (am_pr_mem L 0 q).mp hq
  show ls[0 + j]? = _
  rw [Nat.zero_add]
  exact (h.2.2.2 j v h1).1
theorem am_L.store {ra : Nat → Nat} {ws : va_W} {nL i : Nat} {L : List (Option Value)} {ls ls' : Array Slot} {x : Value} (h : am_L ra ws nL L ls) (hx : am_ok ws.length x)
    (hh : lv_has ls' nL ((i, am_tv ra ws x) :: (am_pr ra ws 0 L).filter (fun q => !(q.1 == i) && !(q.1 + 1 == i && q.2.category == 2)))) : am_L ra ws nL (L.set i (some x)) ls' := by
  refine ⟨hh.1, hh.2.1, by rw [List.length_set]; exact h.2.2.1, fun j v hj => ?_⟩
  by_cases hij : i = j
  · subst hij
    have hl : i < L.length := by
      have := (List.getElem?_eq_some_iff.mp hj).1
      rwa [List.length_set] at this
    rw [List.getElem?_set_self hl] at hj
    cases hj
    exact ⟨hh.2.2 (i, am_tv ra ws x) List.mem_cons_self, hx⟩
  · rw [List.getElem?_set_ne hij] at hj
    have hv := (h.2.2.2 j v hj).2
    refine ⟨hh.2.2 (j, am_tv ra ws v) (List.mem_cons_of_mem _ (List.mem_filter.mpr ⟨(am_pr_mem L 0 _).mpr ⟨j, v, hj, by rw [Nat.zero_add]⟩, ?_⟩)), hv⟩
    have hc : (am_tv ra ws v).category = 1 := by rw [am_tv_cat]; exact hv.cat
    simp [hc, Ne.symm hij]
theorem am_L.get {ra : Nat → Nat} {ws : va_W} {nL j : Nat} {L : List (Option Value)} {ls : Array Slot} {v : Value} (h : am_L ra ws nL L ls) (hg : am_get L j = some v) : ls[j]? = some (.val (am_tv ra ws v)) ∧ am_ok ws.length v := by
  refine h.2.2.2 j v ?_
  unfold am_get at hg
  rw [am_nth_eq] at hg
  cases hj : L[j]? with
  | none => rw [hj] at hg; cases hg
  | some o => rw [hj] at hg; cases hg; rfl
theorem am_sl_len : ∀ (vs : List Value), (∀ v ∈ vs, v.category = 1) → (lg_sl vs).length = vs.length
  | [], _ => rfl
  | v :: r, h => by
    have h1 := h v List.mem_cons_self
    have h2 := am_sl_len r (fun w hw => h w (List.mem_cons_of_mem _ hw))
    simp only [lg_sl, List.flatMap_cons, h1] at h2 ⊢
    simp at h2 ⊢
    omega
theorem am_args_mem : ∀ (vs : List Value) (i j : Nat) (v : Value), (∀ v ∈ vs, v.category = 1) → vs[j]? = some v → (i + j, v) ∈ lv_args i vs
  | [], i, j, v, _, h => by simp at h
  | w :: r, i, 0, v, hc, h => by
    simp at h
    subst h
    exact List.mem_cons_self
  | w :: r, i, j + 1, v, hc, h => by
    rw [lv_args]
    refine List.mem_cons_of_mem _ ?_
    have h1 : ¬ w.category = 2 := by rw [hc w List.mem_cons_self]; decide
    rw [if_neg h1]
    have := am_args_mem r (i + 1) j v (fun u hu => hc u (List.mem_cons_of_mem _ hu)) (by simpa using h)
    rwa [show i + 1 + j = i + (j + 1) by omega] at this
theorem am_L.entry {ra : Nat → Nat} {ws : va_W} {n : Nat} {as : List Value} {ls : Array Slot} (hn : ¬ n < as.length) (ho : ∀ v ∈ as, am_ok ws.length v) (h : lv_has ls n (lv_args 0 (as.map (am_tv ra ws)))) : am_L ra ws n (am_ent n as) ls := by
  refine ⟨h.1, h.2.1, by simp [am_ent]; omega, fun j v hj => ?_⟩
  unfold am_ent at hj
  by_cases hjl : j < as.length
  · rw [List.getElem?_append_left (by simpa using hjl), List.getElem?_map] at hj
    cases hv : as[j]? with
    | none => rw [hv] at hj; cases hj
    | some w =>
      rw [hv] at hj
      cases hj
      refine ⟨?_, ho v (List.mem_of_getElem? hv)⟩
      have := h.2.2 (0 + j, am_tv ra ws v) (am_args_mem _ 0 j _ (fun u hu => ?_) (by rw [List.getElem?_map, hv]; rfl))
      · rwa [Nat.zero_add] at this
      · obtain ⟨u', hu', rfl⟩ := List.mem_map.mp hu
        rw [am_tv_cat]
        exact (ho u' hu').cat
  · rw [List.getElem?_append_right (by simpa using hjl)] at hj
    have := List.mem_of_getElem? hj
    simp at this
end
section
/-! The small machine's rows: each instruction, out of the kit's row of it -/
/-- names beside the tables: words of the tables, words of nest mates, code, method names, static fields, classes of reference arrays, the frames and the words of the stack that a method wants -/
abbrev am_X : Type := List Cond × List Cond × (Nat → ByteArray) × (Nat → MethodName) × (Nat → String × String × String) × List String × (Nat → Nat) × (Nat → Nat)
def am_gC (P : am_T) (X : am_X) : Prop := ∀ (mi pc : Nat) (i : am_I) (n : Nat), P.1 mi pc = some (i, n) → decode (X.2.2.1 mi) pc = .ok (i, n) ∧ (am_len i = 0 ∨ n = am_len i)
def am_gL (P : am_T) (X : am_X) (cl : List vw_C) : Prop := ∀ (ci : Nat) (C : String) (T : u_T) (N : Nat), cl[ci]? = some (C, T, N) → (P.2.2.2.1 ci).length = N ∧ (∀ k, k < N → parseFieldDescriptor (T k).2.2.1 = some ((P.2.2.2.1 ci).getD k .int)) ∧ (∀ a, a < N → ∀ b, b < N → a ≠ b → (T a).2.1 ≠ (T b).2.1) ∧ (∀ w ∈ u_ws C T N, w ∈ X.1) ∧ ∀ ty ∈ P.2.2.2.1 ci, ty = .int ∨ ty = .boolean ∨ am_rty ty = true
def am_gF (P : am_T) (X : am_X) (cl : List vw_C) : Prop := ∀ (mi ix ci k z u : Nat), P.2.1 mi ix = some (0, ci, k, z, u) → ∃ (C : String) (T : u_T) (N : Nat), cl[ci]? = some (C, T, N) ∧ k < N ∧
  (Cond.fieldLink (X.2.2.2.1 mi).cls ix (T k).1 (T k).2.1 (T k).2.2.1 ∈ X.1 ∨ ∃ host, Cond.fieldLinkNest (X.2.2.2.1 mi).cls ix (T k).1 (T k).2.1 (T k).2.2.1 host ∈ X.2.1) ∧
  (u = 0 → (T k).2.2.2 = false ∨ ((T k).2.2.2 = true ∧ Cond.fieldLink (X.2.2.2.1 mi).cls ix (T k).1 (T k).2.1 (T k).2.2.1 ∈ X.1 ∧ (X.2.2.2.1 mi).name = "<init>" ∧ (T k).1 = (X.2.2.2.1 mi).cls))
def am_gS (P : am_T) (X : am_X) : Prop := ∀ (mi ix j z u v : Nat), P.2.1 mi ix = some (1, j, z, u, v) → P.2.2.2.2.2.2 (1048576 + j) ≠ none ∧ (X.2.2.2.2.1 j).1 ≠ "" ∧
  (Cond.fieldLink (X.2.2.2.1 mi).cls ix (X.2.2.2.2.1 j).1 (X.2.2.2.2.1 j).2.1 (X.2.2.2.2.1 j).2.2 ∈ X.1 ∨ ∃ host, Cond.fieldLinkNest (X.2.2.2.1 mi).cls ix (X.2.2.2.2.1 j).1 (X.2.2.2.2.1 j).2.1 (X.2.2.2.2.1 j).2.2 host ∈ X.2.1)
def am_gN (P : am_T) (X : am_X) (cl : List vw_C) : Prop := (∀ (mi ix ci z u v : Nat), P.2.1 mi ix = some (5, ci, z, u, v) → ∃ (C : String) (T : u_T) (N : Nat), cl[ci]? = some (C, T, N) ∧ Cond.classLink (X.2.2.2.1 mi).cls ix C ∈ X.1 ∧ Cond.instantiable C N ∈ X.1 ∧ Cond.initialized C ∈ X.1) ∧
  (∀ (mi ix ci z u v : Nat), P.2.1 mi (ix + 100000) = some (6, ci, z, u, v) → ∃ (C : String) (T : u_T) (N : Nat), cl[ci]? = some (C, T, N) ∧ Cond.classLink (X.2.2.2.1 mi).cls ix C ∈ X.1 ∧ C ∈ X.2.2.2.2.2.1) ∧ Cond.arrayClass .int ∈ X.1 ∧ Cond.arrayClass .boolean ∈ X.1 ∧
  ∀ (mi ix : Nat) (z : Int32), P.2.2.1 mi ix = some z → Cond.constant (X.2.2.2.1 mi).cls ix z ∈ X.1
def am_gM (P : am_T) (X : am_X) (cl : List vw_C) : Prop := (∀ w ∈ X.1, (w.onTables && w.keeps) = true ∨ ∃ ty, w = .arrayClass ty) ∧
  (∀ w ∈ X.2.1, (∃ a i b n d h, w = Cond.fieldLinkNest a i b n d h) ∨ ∃ a i x h, w = Cond.methodLinkNest a i x h) ∧
  (∀ (mi ix mj na kd ci : Nat), P.2.1 mi ix = some (2, mj, na, kd, ci) → Cond.code (X.2.2.2.1 mj) (X.2.2.1 mj) (P.2.2.2.2.2.1 mj) (P.2.2.2.2.1 mj) ∈ X.1 ∧ plainName (X.2.2.2.1 mj).cls = true ∧ X.2.2.2.2.2.2.1 mj + 1 ≤ X.2.2.2.2.2.2.1 mi ∧ 8 + (P.2.2.2.2.2.1 mj + 11) + X.2.2.2.2.2.2.2 mj ≤ X.2.2.2.2.2.2.2 mi ∧ Cond.initialized (X.2.2.2.1 mj).cls ∈ X.1 ∧
    ((X.2.2.2.1 mj).cls ≠ "java/lang/invoke/MethodHandle" ∧ (X.2.2.2.1 mj).cls ≠ "java/lang/invoke/VarHandle" ∧ (parseMethodDescriptor (X.2.2.2.1 mj).desc).map (fun d => d.parameters.length) = some na) ∧
    (Cond.methodLink (X.2.2.2.1 mi).cls ix (X.2.2.2.1 mj) ∈ X.1 ∨ ∃ host, Cond.methodLinkNest (X.2.2.2.1 mi).cls ix (X.2.2.2.1 mj) host ∈ X.2.1) ∧
    (kd % 3 = 0 → Cond.instanceMethod (X.2.2.2.1 mj) ∈ X.1 ∧ Cond.selects (X.2.2.2.1 mj).cls (X.2.2.2.1 mj) (X.2.2.2.1 mj) ∈ X.1 ∧ ∃ (T : u_T) (N : Nat), cl[ci]? = some ((X.2.2.2.1 mj).cls, T, N)) ∧
    (kd % 3 = 1 → Cond.static (X.2.2.2.1 mj) ∈ X.1) ∧
    (kd % 3 = 2 → Cond.instanceMethod (X.2.2.2.1 mj) ∈ X.1 ∧ (X.2.2.2.1 mj).name = "<init>" ∧ P.2.2.2.2.1 mj = none)) ∧
  (∀ (mi ix z u v w : Nat), P.2.1 mi ix = some (3, z, u, v, w) → Cond.methodLink (X.2.2.2.1 mi).cls ix Lib.objectInit ∈ X.1 ∧ Cond.instanceMethod Lib.objectInit ∈ X.1 ∧ Cond.code Lib.objectInit ⟨#[0xb1]⟩ 1 none ∈ X.1 ∧ 1 ≤ X.2.2.2.2.2.2.1 mi ∧ 20 ≤ X.2.2.2.2.2.2.2 mi) ∧
  (∀ (mi ix z u v w : Nat), P.2.1 mi ix = some (4, z, u, v, w) → Cond.methodLink (X.2.2.2.1 mi).cls ix arraycopyName ∈ X.1 ∧ Cond.native arraycopyName ∈ X.1 ∧ Cond.static arraycopyName ∈ X.1 ∧ Cond.initialized "java/lang/System" ∈ X.1 ∧ 1 ≤ X.2.2.2.2.2.2.1 mi ∧ 8 + (nativeFrameWords "java/lang/System" "arraycopy" 5 + 11) ≤ X.2.2.2.2.2.2.2 mi) ∧
  (∀ (mi ix k z u v w : Nat), P.2.1 mi ix = some (k, z, u, v, w) → 7 ≤ k → k ≤ 9 → Cond.initialized "java/lang/Math" ∈ X.1 ∧ 1 ≤ X.2.2.2.2.2.2.1 mi ∧ 22 ≤ X.2.2.2.2.2.2.2 mi ∧
    (k = 7 → Cond.methodLink (X.2.2.2.1 mi).cls ix Lib.Math.max.name ∈ X.1 ∧ Cond.static Lib.Math.max.name ∈ X.1 ∧ Cond.code Lib.Math.max.name Lib.Math.max.code 2 (some .int) ∈ X.1) ∧
    (k = 8 → Cond.methodLink (X.2.2.2.1 mi).cls ix Lib.Math.min.name ∈ X.1 ∧ Cond.static Lib.Math.min.name ∈ X.1 ∧ Cond.code Lib.Math.min.name Lib.Math.min.code 2 (some .int) ∈ X.1) ∧
    (k = 9 → Cond.methodLink (X.2.2.2.1 mi).cls ix fm_y ∈ X.1 ∧ Cond.static fm_y ∈ X.1 ∧ Cond.code fm_y prog_14_method_50_code 3 (some .int) ∈ X.1))
def am_G (P : am_T) (X : am_X) (cl : List vw_C) : Prop := am_gC P X ∧ am_gL P X cl ∧ am_gF P X cl ∧ am_gS P X ∧ am_gN P X cl ∧ am_gM P X cl
/-- what holds at a method's entry beside its world -/
def am_E (P : am_T) (X : am_X) (ra : Nat → Nat) (A : Nat → Prop) (U : State) (H : Heap) : Prop := (∀ w ∈ X.2.1, va_Nw w U) ∧
  (∀ j, P.2.2.2.2.2.2 (1048576 + j) ≠ none → ∀ C n d, X.2.2.2.2.1 j = (C, n, d) → C ≠ "" → va_Z C n d (.ref (ra (1048576 + j))) A U H) ∧
  (∀ (k n : Nat) (f : Nat → Int32), P.2.2.2.2.2.2 k = some (n, f) → va_T .int (ra k) n (fun j => .int (f j)) A U H) ∧ (∀ C ∈ X.2.2.2.2.2.1, va_AO C U)
/-- what holds in a method's frame -/
def am_F (P : am_T) (X : am_X) (mi : Nat) (p : Program) (R : Room) (s : State) (m : MethodId) (args : Array Value) (meth : Method) (c : Code) : Prop :=
  p.tables.exec = Jvm.exec ∧ c.code = X.2.2.1 mi ∧ c.maxLocals = P.2.2.2.2.2.1 mi ∧ meth.sig.returnType = P.2.2.2.2.1 mi ∧ meth.locks = false ∧ (∀ w ∈ X.1, w.before args s = true) ∧ s.vm.findClass (X.2.2.2.1 mi).cls = some m.cls ∧ ((X.2.2.2.1 mi).name = "<init>" → meth.name = "<init>") ∧ X.2.2.2.2.2.2.1 mi ≤ R.frames ∧ X.2.2.2.2.2.2.2 mi ≤ R.locals
def am_Wo (D : va_G) (cl : List vw_C) (ra : Nat → Nat) (A : Nat → Prop) (s : State) (H : Heap) (locs : List Loc) (ws : va_W) (tys : List (ClassId × FieldType)) (sh : List am_C) (M : am_M) : Prop :=
  am_W cl ra ws tys sh M ∧ va_P D cl ws H ∧ va_D A ws ∧ va_K D cl tys s ∧ va_S A s.heap H locs ∧ ∀ q, s.heap.size ≤ q → A q
section AMR
variable {P : am_T} {X : am_X} {D : va_G} {cl : List vw_C} {ra : Nat → Nat} {A : Nat → Prop}
variable {p : Program} {l : Launch} {e : Env} {R : Room} {s : State} {m : MethodId} {args : Array Value} {below : List Frame} {meth : Method} {c : Code} {H : Heap} {locs : List Loc} {cells slots : Nat} {Q : State → Prop}
variable {mi pc n : Nat} {ls : Array Slot} {rest : List Value} {ws : va_W} {tys : List (ClassId × FieldType)} {sh : List am_C} {M : am_M} {i : am_I}
theorem am_w_bin {cc : ByteArray} {g : Int32 → Int32 → Option Int32} {x y z : Int32} (hx : p.tables.exec = Jvm.exec) (hb : c.code = cc) (hg : am_bin i = some g) (hz : g x y = some z) (hdg : decode cc pc = .ok (i, n)) (hn : am_len i = 0 ∨ n = am_len i)
    (kk : W p l e R s m args below meth c H locs cells slots Q (F0 m (pc + 1) ls (.int z :: rest))) : W p l e R s m args below meth c H locs cells slots Q (F0 m pc ls (.int y :: .int x :: rest)) := by
  cases i <;> simp only [am_bin, reduceCtorEq, Option.some.injEq] at hg <;> subst hg <;> simp only [am_len, Nat.one_ne_zero, false_or] at hn <;> subst hn
  all_goals first
    | (simp only [Option.some.injEq] at hz
       subst hz
       first
       | exact lv_iadd hx hb hdg kk
       | exact lv_isub hx hb hdg kk
       | exact lv_imul hx hb hdg kk
       | exact lv_iand hx hb hdg kk
       | exact lv_ior hx hb hdg kk
       | exact lv_ixor hx hb hdg kk
       | exact lv_ishl hx hb hdg kk
       | exact lv_ishr hx hb hdg kk)
    | (by_cases hy : y = 0
       · simp [hy] at hz
       · simp only [hy, if_false, Option.some.injEq] at hz
         subst hz
         first
         | exact lv_idiv hx hb hdg hy kk
         | exact lv_irem hx hb hdg hy kk)
theorem am_w_psh {cc : ByteArray} {own : String} {cst : Nat → Option Int32} {v : Value} (hx : p.tables.exec = Jvm.exec) (hb : c.code = cc) (hown : s.vm.findClass own = some m.cls) (hc : ∀ ix z, cst ix = some z → (Cond.constant own ix z).before args s = true) (hg : am_psh cst i = some v) (hdg : decode cc pc = .ok (i, n)) (hn : am_len i = 0 ∨ n = am_len i)
    (kk : W p l e R s m args below meth c H locs cells slots Q (F0 m (pc + n) ls (v :: rest))) : (∃ z, v = .int z) ∧ W p l e R s m args below meth c H locs cells slots Q (F0 m pc ls rest) := by
  cases i <;> simp only [am_psh, reduceCtorEq, Option.some.injEq] at hg
  case iconst z =>
    subst hg
    simp only [am_len, Nat.one_ne_zero, false_or] at hn
    subst hn
    exact ⟨⟨_, rfl⟩, lv_iconst hx hb hdg rfl kk⟩
  case bipush z =>
    subst hg
    simp only [am_len, false_or, reduceCtorEq] at hn
    subst hn
    exact ⟨⟨_, rfl⟩, lv_bipush hx hb hdg rfl kk⟩
  case sipush z =>
    subst hg
    simp only [am_len, false_or, reduceCtorEq] at hn
    subst hn
    exact ⟨⟨_, rfl⟩, lv_sipush hx hb hdg rfl kk⟩
  case ldc ix =>
    simp only [am_len, false_or, reduceCtorEq] at hn
    subst hn
    cases hz : cst ix with
    | none => rw [hz] at hg; cases hg
    | some z =>
      rw [hz] at hg
      cases hg
      exact ⟨⟨_, rfl⟩, lv_ldc hx hb hown (hc ix z hz) hdg kk⟩
theorem am_w_ldi {cc : ByteArray} {j : Nat} {x : Int32} (hx : p.tables.exec = Jvm.exec) (hb : c.code = cc) (hg : am_ldi i = some j) (hl : ls[j]? = some (.val (.int x))) (hdg : decode cc pc = .ok (i, n)) (hn : am_len i = 0 ∨ n = am_len i)
    (kk : W p l e R s m args below meth c H locs cells slots Q (F0 m (pc + n) ls (.int x :: rest))) : W p l e R s m args below meth c H locs cells slots Q (F0 m pc ls rest) := by
  cases i <;> simp only [am_ldi, reduceCtorEq, Option.some.injEq] at hg <;> subst hg
  case iload z =>
    simp only [am_len, false_or, reduceCtorEq] at hn
    subst hn
    exact lv_iload hx hb hdg hl kk
  case iload_n z =>
    simp only [am_len, Nat.one_ne_zero, false_or] at hn
    subst hn
    exact lv_iload_n hx hb hdg rfl hl kk
theorem am_w_lda {cc : ByteArray} {j : Nat} {x : Nat} (hx : p.tables.exec = Jvm.exec) (hb : c.code = cc) (hg : am_lda i = some j) (hl : ls[j]? = some (.val (.ref x))) (hdg : decode cc pc = .ok (i, n)) (hn : am_len i = 0 ∨ n = am_len i)
    (kk : W p l e R s m args below meth c H locs cells slots Q (F0 m (pc + n) ls (.ref x :: rest))) : W p l e R s m args below meth c H locs cells slots Q (F0 m pc ls rest) := by
  cases i <;> simp only [am_lda, reduceCtorEq, Option.some.injEq] at hg <;> subst hg
  case aload z =>
    simp only [am_len, false_or, reduceCtorEq] at hn
    subst hn
    exact lv_aload hx hb hdg hl kk
  case aload_n z =>
    simp only [am_len, Nat.one_ne_zero, false_or] at hn
    subst hn
    exact lv_aload_n hx hb hdg rfl hl kk
theorem am_w_sti {cc : ByteArray} {j nL : Nat} {x : Int32} {lv : List (Nat × Value)} (hx : p.tables.exec = Jvm.exec) (hb : c.code = cc) (hg : am_sti i = some j) (h : lv_has ls nL lv) (hj : j < nL) (hdg : decode cc pc = .ok (i, n)) (hn : am_len i = 0 ∨ n = am_len i)
    (kk : ∀ ls' : Array Slot, lv_has ls' nL ((j, Value.int x) :: lv.filter (fun q => !(q.1 == j) && !(q.1 + 1 == j && q.2.category == 2))) → W p l e R s m args below meth c H locs cells slots Q (F0 m (pc + n) ls' rest)) : W p l e R s m args below meth c H locs cells slots Q (F0 m pc ls (.int x :: rest)) := by
  cases i <;> simp only [am_sti, reduceCtorEq, Option.some.injEq] at hg <;> subst hg
  case istore z =>
    simp only [am_len, false_or, reduceCtorEq] at hn
    subst hn
    exact lv_istore hx hb hdg h hj rfl kk
  case istore_n z =>
    simp only [am_len, Nat.one_ne_zero, false_or] at hn
    subst hn
    exact lv_istore_n hx hb hdg rfl h hj rfl kk
theorem am_w_sta {cc : ByteArray} {j nL : Nat} {x : Nat} {lv : List (Nat × Value)} (hx : p.tables.exec = Jvm.exec) (hb : c.code = cc) (hg : am_sta i = some j) (h : lv_has ls nL lv) (hj : j < nL) (hdg : decode cc pc = .ok (i, n)) (hn : am_len i = 0 ∨ n = am_len i)
    (kk : ∀ ls' : Array Slot, lv_has ls' nL ((j, Value.ref x) :: lv.filter (fun q => !(q.1 == j) && !(q.1 + 1 == j && q.2.category == 2))) → W p l e R s m args below meth c H locs cells slots Q (F0 m (pc + n) ls' rest)) : W p l e R s m args below meth c H locs cells slots Q (F0 m pc ls (.ref x :: rest)) := by
  cases i <;> simp only [am_sta, reduceCtorEq, Option.some.injEq] at hg <;> subst hg
  case astore z =>
    simp only [am_len, false_or, reduceCtorEq] at hn
    subst hn
    exact lv_astore hx hb hdg h hj rfl kk
  case astore_n z =>
    simp only [am_len, Nat.one_ne_zero, false_or] at hn
    subst hn
    exact lv_astore_n hx hb hdg rfl h hj rfl kk
theorem am_w_dup {cc : ByteArray} {st st' : List Value} (hx : p.tables.exec = Jvm.exec) (hb : c.code = cc) (hg : am_dup i st = some st') (ho : ∀ v ∈ st, am_ok ws.length v) (hdg : decode cc pc = .ok (i, n)) (hn : am_len i = 0 ∨ n = am_len i)
    (kk : W p l e R s m args below meth c H locs cells slots Q (F0 m (pc + 1) ls (st'.map (am_tv ra ws)))) : (∀ v ∈ st', am_ok ws.length v) ∧ W p l e R s m args below meth c H locs cells slots Q (F0 m pc ls (st.map (am_tv ra ws))) := by
  have hc : ∀ v ∈ st, (am_tv ra ws v).category = 1 := fun v hv => by rw [am_tv_cat]; exact (ho v hv).cat
  cases i <;> simp only [am_dup, reduceCtorEq] at hg
  case dup =>
    simp only [am_len, Nat.one_ne_zero, false_or] at hn
    subst hn
    cases st with
    | nil => simp [am_dup] at hg
    | cons v r =>
      cases hg
      exact ⟨fun w hw => ho w (by simp at hw ⊢; exact hw), lv_dup hx hb hdg (hc v (by simp)) kk⟩
  case pop =>
    simp only [am_len, Nat.one_ne_zero, false_or] at hn
    subst hn
    cases st with
    | nil => simp [am_dup] at hg
    | cons v r =>
      cases hg
      exact ⟨fun w hw => ho w (by simp; exact Or.inr hw), lv_pop hx hb hdg (hc v (by simp)) kk⟩
  case dup_x1 =>
    simp only [am_len, Nat.one_ne_zero, false_or] at hn
    subst hn
    match st, hg with
    | v :: w :: r, hg =>
      cases hg
      exact ⟨fun u hu => ho u (by simp at hu ⊢; rcases hu with h | h | h | h <;> simp [h]), lv_dup_x1 hx hb hdg (hc v (by simp)) (hc w (by simp)) kk⟩
  case dup_x2 =>
    simp only [am_len, Nat.one_ne_zero, false_or] at hn
    subst hn
    match st, hg with
    | v :: w :: x :: r, hg =>
      cases hg
      exact ⟨fun u hu => ho u (by simp at hu ⊢; rcases hu with h | h | h | h | h <;> simp [h]), lv_dup_x2 hx hb hdg (hc v (by simp)) (hc w (by simp)) (hc x (by simp)) kk⟩
  case dup2 =>
    simp only [am_len, Nat.one_ne_zero, false_or] at hn
    subst hn
    match st, hg with
    | v :: w :: r, hg =>
      cases hg
      exact ⟨fun u hu => ho u (by simp at hu ⊢; rcases hu with h | h | h | h | h <;> simp [h]), lv_dup2_11 hx hb hdg (hc v (by simp)) (hc w (by simp)) kk⟩
theorem am_tg_eq {off : Int} {t : Nat} (h : am_tg pc off = some t) : (pc : Int) + off = (t : Int) := by
  unfold am_tg at h
  split at h
  next t' h' => cases h; exact h'
  next => cases h
theorem am_w_if1 {cc : ByteArray} {cn : Jvm.ClassFile.Cond} {off : Int} {t : Nat} {x : Int32} (hx : p.tables.exec = Jvm.exec) (hb : c.code = cc) (ht : am_tg pc off = some t) (hdg : decode cc pc = .ok (.ifCond cn off, 3))
    (kk : am_br cn x 0 (W p l e R s m args below meth c H locs cells slots Q (F0 m t ls rest)) (W p l e R s m args below meth c H locs cells slots Q (F0 m (pc + 3) ls rest))) : W p l e R s m args below meth c H locs cells slots Q (F0 m pc ls (.int x :: rest)) := by
  have ht := am_tg_eq ht
  cases cn <;> simp only [am_br] at kk
  · exact lv_if_eq hx hb hdg ht (fun h => by rwa [if_pos h] at kk) (fun h => by rwa [if_neg h] at kk)
  · exact lv_if_ne hx hb hdg ht (fun h => by rwa [if_neg h] at kk) (fun h => by rwa [if_pos h] at kk)
  · exact lv_if_lt hx hb hdg ht (fun h => by rwa [if_pos h] at kk) (fun h => by rwa [if_neg h] at kk)
  · exact lv_if_ge hx hb hdg ht (fun h => by rwa [if_pos h] at kk) (fun h => by rwa [if_neg h] at kk)
  · exact lv_if_gt hx hb hdg ht (fun h => by rwa [if_pos h] at kk) (fun h => by rwa [if_neg h] at kk)
  · exact lv_if_le hx hb hdg ht (fun h => by rwa [if_pos h] at kk) (fun h => by rwa [if_neg h] at kk)
theorem am_w_if2 {cc : ByteArray} {cn : Jvm.ClassFile.Cond} {off : Int} {t : Nat} {x y : Int32} (hx : p.tables.exec = Jvm.exec) (hb : c.code = cc) (ht : am_tg pc off = some t) (hdg : decode cc pc = .ok (.if_icmp cn off, 3))
    (kk : am_br cn x y (W p l e R s m args below meth c H locs cells slots Q (F0 m t ls rest)) (W p l e R s m args below meth c H locs cells slots Q (F0 m (pc + 3) ls rest))) : W p l e R s m args below meth c H locs cells slots Q (F0 m pc ls (.int y :: .int x :: rest)) := by
  have ht := am_tg_eq ht
  cases cn <;> simp only [am_br] at kk
  · exact lv_icmp_eq hx hb hdg ht (fun h => by rwa [if_pos h] at kk) (fun h => by rwa [if_neg h] at kk)
  · exact lv_icmp_ne hx hb hdg ht (fun h => by rwa [if_neg h] at kk) (fun h => by rwa [if_pos h] at kk)
  · exact lv_icmp_lt hx hb hdg ht (fun h => by rwa [if_pos h] at kk) (fun h => by rwa [if_neg h] at kk)
  · exact lv_icmp_ge hx hb hdg ht (fun h => by rwa [if_pos h] at kk) (fun h => by rwa [if_neg h] at kk)
  · exact lv_icmp_gt hx hb hdg ht (fun h => by rwa [if_pos h] at kk) (fun h => by rwa [if_neg h] at kk)
  · exact lv_icmp_le hx hb hdg ht (fun h => by rwa [if_pos h] at kk) (fun h => by rwa [if_neg h] at kk)
theorem am_w_sw {cc : ByteArray} {t : Nat} {x : Int32} (hx : p.tables.exec = Jvm.exec) (hb : c.code = cc) (ht : am_sw pc x i = some t) (hdg : decode cc pc = .ok (i, n))
    (kk : W p l e R s m args below meth c H locs cells slots Q (F0 m t ls rest)) : W p l e R s m args below meth c H locs cells slots Q (F0 m pc ls (.int x :: rest)) := by
  cases i <;> simp only [am_sw, reduceCtorEq] at ht
  case tableswitch dflt lo hi offs =>
    by_cases h : x.toInt < lo ∨ hi < x.toInt
    · rw [if_pos h] at ht
      exact lv_tableOut hx hb hdg h (am_tg_eq ht) kk
    · rw [if_neg h] at ht
      cases ho : offs[(x.toInt - lo).toNat]? with
      | none => rw [ho] at ht; cases ht
      | some o =>
        rw [ho] at ht
        exact lv_tableIn hx hb hdg (fun z => h (Or.inl z)) (fun z => h (Or.inr z)) ho (am_tg_eq ht) kk
  case lookupswitch dflt ps =>
    by_cases h : (ps.toList.zip (ps.toList.drop 1)).all (fun (a, next) => a.1 < next.1) = true
    · rw [if_pos h] at ht
      exact lv_lookup hx hb hdg h rfl (am_tg_eq ht) kk
    · rw [if_neg h] at ht
      cases ht
end AMR
end
section
/-! The small machine's rows on the heap -/
section AMH
variable {P : am_T} {X : am_X} {D : va_G} {cl : List vw_C} {ra : Nat → Nat} {A : Nat → Prop}
variable {p : Program} {l : Launch} {e : Env} {R : Room} {s : State} {m : MethodId} {args : Array Value} {below : List Frame} {meth : Method} {c : Code} {H : Heap} {locs : List Loc} {cells slots : Nat} {Q : State → Prop}
variable {mi pc n : Nat} {ls : Array Slot} {rest : List Value} {ws : va_W} {tys : List (ClassId × FieldType)} {sh : List am_C} {M : am_M} {i : am_I}
/-- what lies in a field: an int of the memory, or a reference -/
def am_rd (ra : Nat → Nat) (ws : va_W) (x : Int32) (o : Option Value) : Value := match o with
  | none => .int x
  | some v => am_tv ra ws v
theorem am_h_get {ix ci k z u a : Nat} {fs : List (Option Value)} {o : Option Value} (G : am_G P X cl) (F : am_F P X mi p R s m args meth c) (E : am_E P X ra A s s.heap) (O : am_Wo D cl ra A s H locs ws tys sh M) (hlk : P.2.1 mi ix = some (0, ci, k, z, u)) (hsh : sh[a]? = some (.inl (ci, fs))) (hfs : fs[k]? = some o) (hdg : decode (X.2.2.1 mi) pc = .ok (.getfield ix, 3))
    (kk : W p l e R s m args below meth c H locs cells slots Q (F0 m (pc + 3) ls (am_rd ra ws (M a k) o :: rest))) : (∀ v, o = some v → am_ok ws.length v) ∧ W p l e R s m args below meth c H locs cells slots Q (F0 m pc ls (.ref (am_ad ra ws a) :: rest)) := by
  obtain ⟨hx, hb, -, -, -, hts, hown, -⟩ := F
  obtain ⟨hW, hP, hD, hK, hS, hA⟩ := O
  obtain ⟨a', e', h1, vs, rfl, h3, h4, h5⟩ := hW.2.2 a _ hsh
  obtain ⟨C, T, N, hr, hk, hl, -⟩ := G.2.2.1 mi ix ci k z u hlk
  have hin := (G.2.1 ci C T N hr).2.2.2.1
  rw [am_ad_at h1]
  have hv : vs[k]? = some (am_rd ra ws (M a k) o) := by
    cases o with
    | none => exact h4 k hfs
    | some v => exact (h5 k v hfs).1
  refine ⟨fun v hv => (h5 k v (by rw [hfs, hv])).2, ?_⟩
  rcases hl with hl | ⟨host, hl⟩
  · exact va_get (D := D) hx hb hts hin hown hK hP a h1 hr k hk (hts _ hl) (fun _ h => h) hv hdg kk
  · exact va_getN (D := D) hx hb hts hin hown hK hP a h1 hr k hk (va_Nw.use rfl (E.1 _ hl)) (fun _ h => h) hv hdg kk
theorem am_fit_n {ty : FieldType} {x : Int32} (h : am_fit ty x = true) : narrow ty (.int x) = .int x ∧ fits ty (.int x) = true := by
  cases ty <;> simp only [am_fit, Bool.false_eq_true] at h
  · exact ⟨rfl, rfl⟩
  · have : x = 0 ∨ x = 1 := by simpa using h
    rcases this with rfl | rfl <;> exact ⟨by decide, by decide⟩
theorem am_h_put {ix ci k z a : Nat} {fs : List (Option Value)} {o : Option Value} {v : Value} {ty : FieldType} (G : am_G P X cl) (F : am_F P X mi p R s m args meth c) (E : am_E P X ra A s s.heap) (O : am_Wo D cl ra A s H locs ws tys sh M) (hlk : P.2.1 mi ix = some (0, ci, k, z, 0)) (hsh : sh[a]? = some (.inl (ci, fs))) (hfs : fs[k]? = some o) (hty : (P.2.2.2.1 ci)[k]? = some ty)
    (hn : narrow ty v = v) (hf : fits ty v = true) (hdg : decode (X.2.2.1 mi) pc = .ok (.putfield ix, 3))
    (kk : ∀ (vs : List Value) (H' : Heap) (locs' : List Loc), ws[a]? = some (am_ad ra ws a, .inr (ci, vs)) → am_ce cl ra ws tys (M a) (.inl (ci, fs)) (.inr (ci, vs)) → va_P D cl (ws.set a (am_ad ra ws a, .inr (ci, vs.set k v))) H' → va_D A (ws.set a (am_ad ra ws a, .inr (ci, vs.set k v))) → va_S A s.heap H' locs' → W p l e R s m args below meth c H' locs' cells slots Q (F0 m (pc + 3) ls rest)) :
    W p l e R s m args below meth c H locs cells slots Q (F0 m pc ls (v :: .ref (am_ad ra ws a) :: rest)) := by
  obtain ⟨hx, hb, -, -, -, hts, hown, hnm, -⟩ := F
  obtain ⟨hW, hP, hD, hK, hS, hA⟩ := O
  obtain ⟨a', e', h1, hce⟩ := hW.2.2 a _ hsh
  obtain ⟨vs, rfl, h3, h4, h5⟩ := id hce
  obtain ⟨C, T, N, hr, hk, hl, hu⟩ := G.2.2.1 mi ix ci k z 0 hlk
  obtain ⟨g1, g2, g3, hin, -⟩ := G.2.1 ci C T N hr
  have hpd : parseFieldDescriptor (T k).2.2.1 = some ty := by
    rw [g2 k hk, List.getD_eq_getElem?_getD, hty]
    rfl
  have hkl : k < vs.length := by rw [h3]; exact (List.getElem?_eq_some_iff.mp hfs).1
  rw [am_ad_at h1] at kk ⊢
  rcases hu rfl with hfin | ⟨hfin, hl2, hnn, hdecl⟩
  · rcases hl with hl | ⟨host, hl⟩
    · exact va_put (D := D) hx hb hts hin (fun k => (P.2.2.2.1 ci).getD k .int) g2 g3 hown hK hP hD hS a h1 hr k hk (hts _ hl) (fun _ h => h) hfin hpd hn hf hkl hdg (fun H' locs' q1 q2 q3 => kk vs H' locs' h1 hce q1 q2 q3)
    · exact va_putN (D := D) hx hb hts hin (fun k => (P.2.2.2.1 ci).getD k .int) g2 g3 hown hK hP hD hS a h1 hr k hk (va_Nw.use rfl (E.1 _ hl)) (fun _ h => h) hfin hpd hn hf hkl hdg (fun H' locs' q1 q2 q3 => kk vs H' locs' h1 hce q1 q2 q3)
  · exact va_putF (D := D) hx hb hts hin (fun k => (P.2.2.2.1 ci).getD k .int) g2 g3 hown hK hP hD hS a h1 hr k hk (hts _ hl2) (fun _ h => h) hfin (hnm hnn) hdecl hpd hn hf hkl hdg (fun H' locs' q1 q2 q3 => kk vs H' locs' h1 hce q1 q2 q3)
theorem am_h_putI {ix ci k z a : Nat} {fs : List (Option Value)} {x : Int32} {ty : FieldType} (G : am_G P X cl) (F : am_F P X mi p R s m args meth c) (E : am_E P X ra A s s.heap) (O : am_Wo D cl ra A s H locs ws tys sh M) (hlk : P.2.1 mi ix = some (0, ci, k, z, 0)) (hsh : sh[a]? = some (.inl (ci, fs))) (hfs : fs[k]? = some none) (hty : (P.2.2.2.1 ci)[k]? = some ty)
    (hft : am_fit ty x = true) (hdg : decode (X.2.2.1 mi) pc = .ok (.putfield ix, 3))
    (kk : ∀ (ws' : va_W) (H' : Heap) (locs' : List Loc), am_Wo D cl ra A s H' locs' ws' tys sh (am_set M a (upd (M a) k x)) → am_ex ra ws ws' → W p l e R s m args below meth c H' locs' cells slots Q (F0 m (pc + 3) ls rest)) :
    W p l e R s m args below meth c H locs cells slots Q (F0 m pc ls (.int x :: .ref (am_ad ra ws a) :: rest)) := by
  refine am_h_put G F E O hlk hsh hfs hty (am_fit_n hft).1 (am_fit_n hft).2 hdg (fun vs H' locs' h1 hce q1 q2 q3 => ?_)
  obtain ⟨hW, hP, hD, hK, hS, hA⟩ := O
  obtain ⟨vs', he, h3, h4, h5⟩ := hce
  cases he
  have hkl : k < vs.length := by rw [h3]; exact (List.getElem?_eq_some_iff.mp hfs).1
  obtain ⟨w1, w2⟩ := hW.put (M' := am_set M a (upd (M a) k x)) (e := .inr (ci, vs.set k (.int x))) hsh h1 (by
    rw [am_set_s]
    refine ⟨vs.set k (.int x), rfl, by rw [List.length_set]; exact h3, fun j hj => ?_, fun j v hj => ?_⟩
    · by_cases hjk : k = j
      · subst hjk
        rw [List.getElem?_set_self hkl]
        simp [upd]
      · rw [List.getElem?_set_ne hjk, h4 j hj]
        simp [upd, Ne.symm hjk]
    · have hjk : ¬ k = j := fun q => by subst q; rw [hfs] at hj; cases hj
      rw [List.getElem?_set_ne hjk]
      exact h5 j v hj) (fun q hq => am_set_n M _ hq)
  exact kk _ H' locs' ⟨w1, q1, q2, hK, q3, hA⟩ w2
theorem am_h_putR {ix ci k z a b : Nat} {fs : List (Option Value)} {v0 : Value} {ty : FieldType} (G : am_G P X cl) (F : am_F P X mi p R s m args meth c) (E : am_E P X ra A s s.heap) (O : am_Wo D cl ra A s H locs ws tys sh M) (hlk : P.2.1 mi ix = some (0, ci, k, z, 0)) (hsh : sh[a]? = some (.inl (ci, fs))) (hfs : fs[k]? = some (some v0)) (hty : (P.2.2.2.1 ci)[k]? = some ty)
    (hft : am_rty ty = true) (hob : am_ok ws.length (.ref b)) (hdg : decode (X.2.2.1 mi) pc = .ok (.putfield ix, 3))
    (kk : ∀ (ws' : va_W) (H' : Heap) (locs' : List Loc), am_Wo D cl ra A s H' locs' ws' tys (sh.set a (.inl (ci, fs.set k (some (.ref b))))) M → am_ex ra ws ws' → W p l e R s m args below meth c H' locs' cells slots Q (F0 m (pc + 3) ls rest)) :
    W p l e R s m args below meth c H locs cells slots Q (F0 m pc ls (.ref (am_ad ra ws b) :: .ref (am_ad ra ws a) :: rest)) := by
  have hnf : narrow ty (.ref (am_ad ra ws b)) = .ref (am_ad ra ws b) ∧ fits ty (.ref (am_ad ra ws b)) = true := by
    cases ty <;> simp only [am_rty, Bool.false_eq_true] at hft <;> exact ⟨rfl, rfl⟩
  refine am_h_put G F E O hlk hsh hfs hty hnf.1 hnf.2 hdg (fun vs H' locs' h1 hce q1 q2 q3 => ?_)
  obtain ⟨hW, hP, hD, hK, hS, hA⟩ := O
  obtain ⟨vs', he, h3, h4, h5⟩ := hce
  cases he
  have hkl : k < fs.length := (List.getElem?_eq_some_iff.mp hfs).1
  obtain ⟨w1, w2⟩ := hW.set (M' := M) (c := .inl (ci, fs.set k (some (.ref b)))) (e := .inr (ci, vs.set k (.ref (am_ad ra ws b)))) h1 (by
    refine ⟨vs.set k (.ref (am_ad ra ws b)), rfl, by rw [List.length_set, List.length_set]; exact h3, fun j hj => ?_, fun j v hj => ?_⟩
    · by_cases hjk : k = j
      · subst hjk
        rw [List.getElem?_set_self hkl] at hj
        cases hj
      · rw [List.getElem?_set_ne hjk] at hj
        rw [List.getElem?_set_ne hjk]
        exact h4 j hj
    · by_cases hjk : k = j
      · subst hjk
        rw [List.getElem?_set_self hkl] at hj
        cases hj
        rw [List.getElem?_set_self (by rw [h3]; exact hkl)]
        exact ⟨rfl, hob⟩
      · rw [List.getElem?_set_ne hjk] at hj
        rw [List.getElem?_set_ne hjk]
        exact h5 j v hj) (fun q hq => rfl)
  exact kk _ H' locs' ⟨w1, q1, q2, hK, q3, hA⟩ w2
theorem am_h_gets {ix j z u v : Nat} (G : am_G P X cl) (F : am_F P X mi p R s m args meth c) (E : am_E P X ra A s s.heap) (O : am_Wo D cl ra A s H locs ws tys sh M) (hlk : P.2.1 mi ix = some (1, j, z, u, v)) (hdg : decode (X.2.2.1 mi) pc = .ok (.getstatic ix, 3))
    (kk : W p l e R s m args below meth c H locs cells slots Q (F0 m (pc + 3) ls (.ref (am_ad ra ws (1048576 + j)) :: rest))) : W p l e R s m args below meth c H locs cells slots Q (F0 m pc ls rest) := by
  obtain ⟨hx, hb, -, -, -, hts, hown, -⟩ := F
  obtain ⟨hW, hP, hD, hK, hS, hA⟩ := O
  obtain ⟨g1, g2, g3⟩ := G.2.2.2.1 mi ix j z u v hlk
  rw [am_ad_big (by rw [hW.1]; exact Nat.le_trans hW.2.1 (Nat.le_add_right _ _))] at kk
  have hZ := E.2.1 j g1 _ _ _ rfl g2
  rcases g3 with hl | ⟨host, hl⟩
  · exact va_gets hx hb hZ hS hown (hts _ hl) (fun _ h => h) hdg kk
  · exact va_getsN hx hb hZ hS hown (va_Nw.use rfl (E.1 _ hl)) (fun _ h => h) hdg kk
theorem am_h_iald {a t N : Nat} {g : Nat → Option Nat} {x : Int32} (F : am_F P X mi p R s m args meth c) (O : am_Wo D cl ra A s H locs ws tys sh M) (hsh : sh[a]? = some (.inr (t, N, g))) (ht : t = 0) (hin : ¬ (x < 0 ∨ N ≤ x.toNatClampNeg)) (hdg : decode (X.2.2.1 mi) pc = .ok (.iaload, 1))
    (kk : W p l e R s m args below meth c H locs cells slots Q (F0 m (pc + 1) ls (.int (M a x.toNatClampNeg) :: rest))) : W p l e R s m args below meth c H locs cells slots Q (F0 m pc ls (.int x :: .ref (am_ad ra ws a) :: rest)) := by
  obtain ⟨hx, hb, -⟩ := F
  obtain ⟨hW, hP, hD, hK, hS, hA⟩ := O
  obtain ⟨a', e', h1, cA, t0, h2⟩ := hW.2.2 a _ hsh
  rw [am_ad_at h1]
  rcases h2 with ⟨-, h3, rfl⟩ | ⟨h2, -, -⟩ | ⟨ci, r, h2, -⟩
  · exact va_iald (D := D) hx hb hK hP a t0 h1 h3 hin hdg kk
  · dsimp only at h2; omega
  · dsimp only at h2; omega
theorem am_h_bald {a t N : Nat} {g : Nat → Option Nat} {x : Int32} (F : am_F P X mi p R s m args meth c) (O : am_Wo D cl ra A s H locs ws tys sh M) (hsh : sh[a]? = some (.inr (t, N, g))) (ht : t = 1) (hin : ¬ (x < 0 ∨ N ≤ x.toNatClampNeg)) (hdg : decode (X.2.2.1 mi) pc = .ok (.baload, 1))
    (kk : W p l e R s m args below meth c H locs cells slots Q (F0 m (pc + 1) ls (.int (M a x.toNatClampNeg) :: rest))) : W p l e R s m args below meth c H locs cells slots Q (F0 m pc ls (.int x :: .ref (am_ad ra ws a) :: rest)) := by
  obtain ⟨hx, hb, -⟩ := F
  obtain ⟨hW, hP, hD, hK, hS, hA⟩ := O
  obtain ⟨a', e', h1, cA, t0, h2⟩ := hW.2.2 a _ hsh
  rw [am_ad_at h1]
  rcases h2 with ⟨h2, -, -⟩ | ⟨-, h3, rfl⟩ | ⟨ci, r, h2, -⟩
  · dsimp only at h2; omega
  · exact va_zald (D := D) hx hb hK hP a t0 h1 h3 hin hdg kk
  · dsimp only at h2; omega
theorem am_h_aald {a t N b : Nat} {g : Nat → Option Nat} {x : Int32} (F : am_F P X mi p R s m args meth c) (O : am_Wo D cl ra A s H locs ws tys sh M) (hsh : sh[a]? = some (.inr (t, N, g))) (ht : 2 ≤ t) (hin : ¬ (x < 0 ∨ N ≤ x.toNatClampNeg)) (hg : g x.toNatClampNeg = some b) (hdg : decode (X.2.2.1 mi) pc = .ok (.aaload, 1))
    (kk : W p l e R s m args below meth c H locs cells slots Q (F0 m (pc + 1) ls (.ref (am_ad ra ws b) :: rest))) : am_ok ws.length (.ref b) ∧ W p l e R s m args below meth c H locs cells slots Q (F0 m pc ls (.int x :: .ref (am_ad ra ws a) :: rest)) := by
  obtain ⟨hx, hb, -⟩ := F
  obtain ⟨hW, hP, hD, hK, hS, hA⟩ := O
  obtain ⟨a', e', h1, cA, t0, h2⟩ := hW.2.2 a _ hsh
  rw [am_ad_at h1]
  rcases h2 with ⟨h2, -, -⟩ | ⟨h2, -, -⟩ | ⟨ci, r, h2, h3, h4, rfl, h5⟩
  · dsimp only at h2; omega
  · dsimp only at h2; omega
  · refine ⟨Or.inl (h5 _ b hg), va_aldq (D := D) hx hb hK hP a t0 h1 h4 hin hdg ?_⟩
    show W p l e R s m args below meth c H locs cells slots Q (F0 m (pc + 1) ls (va_rf ((g x.toNatClampNeg).map (am_ad ra ws)) :: rest))
    rw [hg]
    exact kk
theorem am_h_iast {a t N : Nat} {g : Nat → Option Nat} {x v : Int32} (F : am_F P X mi p R s m args meth c) (O : am_Wo D cl ra A s H locs ws tys sh M) (hsh : sh[a]? = some (.inr (t, N, g))) (ht : t = 0) (hin : ¬ (x < 0 ∨ N ≤ x.toNatClampNeg)) (hdg : decode (X.2.2.1 mi) pc = .ok (.iastore, 1))
    (kk : ∀ (ws' : va_W) (H' : Heap) (locs' : List Loc), am_Wo D cl ra A s H' locs' ws' tys sh (am_set M a (upd (M a) x.toNatClampNeg v)) → am_ex ra ws ws' → W p l e R s m args below meth c H' locs' cells slots Q (F0 m (pc + 1) ls rest)) : W p l e R s m args below meth c H locs cells slots Q (F0 m pc ls (.int v :: .int x :: .ref (am_ad ra ws a) :: rest)) := by
  obtain ⟨hx, hb, -⟩ := F
  obtain ⟨hW, hP, hD, hK, hS, hA⟩ := O
  obtain ⟨a', e', h1, cA, t0, h2⟩ := hW.2.2 a _ hsh
  rw [am_ad_at h1]
  rcases h2 with ⟨-, h3, rfl⟩ | ⟨h2, -, -⟩ | ⟨ci, r, h2, -⟩
  · refine va_iast (D := D) hx hb hK hP hD hS a t0 h1 h3 hin hdg (fun H' locs' q1 q2 q3 => ?_)
    obtain ⟨w1, w2⟩ := hW.put (M' := am_set M a (upd (M a) x.toNatClampNeg v)) (e := .inl (cA, N, .inl (upd (M a) x.toNatClampNeg v))) hsh h1 (by
      rw [am_set_s]
      exact ⟨cA, t0, Or.inl ⟨ht, h3, rfl⟩⟩) (fun q hq => am_set_n M _ hq)
    exact kk _ H' locs' ⟨w1, q1, q2, hK, q3, hA⟩ w2
  · dsimp only at h2; omega
  · dsimp only at h2; omega
theorem am_h_bast {a t N : Nat} {g : Nat → Option Nat} {x v : Int32} (F : am_F P X mi p R s m args meth c) (O : am_Wo D cl ra A s H locs ws tys sh M) (hsh : sh[a]? = some (.inr (t, N, g))) (ht : t = 1) (hin : ¬ (x < 0 ∨ N ≤ x.toNatClampNeg)) (hdg : decode (X.2.2.1 mi) pc = .ok (.bastore, 1))
    (kk : ∀ (ws' : va_W) (H' : Heap) (locs' : List Loc), am_Wo D cl ra A s H' locs' ws' tys sh (am_set M a (upd (M a) x.toNatClampNeg (v &&& 1))) → am_ex ra ws ws' → W p l e R s m args below meth c H' locs' cells slots Q (F0 m (pc + 1) ls rest)) : W p l e R s m args below meth c H locs cells slots Q (F0 m pc ls (.int v :: .int x :: .ref (am_ad ra ws a) :: rest)) := by
  obtain ⟨hx, hb, -⟩ := F
  obtain ⟨hW, hP, hD, hK, hS, hA⟩ := O
  obtain ⟨a', e', h1, cA, t0, h2⟩ := hW.2.2 a _ hsh
  rw [am_ad_at h1]
  rcases h2 with ⟨h2, -, -⟩ | ⟨-, h3, rfl⟩ | ⟨ci, r, h2, -⟩
  · dsimp only at h2; omega
  · refine va_zast (D := D) hx hb hK hP hD hS a t0 h1 h3 hin hdg (fun H' locs' q1 q2 q3 => ?_)
    obtain ⟨w1, w2⟩ := hW.put (M' := am_set M a (upd (M a) x.toNatClampNeg (v &&& 1))) (e := .inl (cA, N, .inl (upd (M a) x.toNatClampNeg (v &&& 1)))) hsh h1 (by
      rw [am_set_s]
      exact ⟨cA, t0, Or.inr (Or.inl ⟨ht, h3, rfl⟩)⟩) (fun q hq => am_set_n M _ hq)
    exact kk _ H' locs' ⟨w1, q1, q2, hK, q3, hA⟩ w2
  · dsimp only at h2; omega
theorem am_h_aast {a t N b ci : Nat} {g : Nat → Option Nat} {fs : List (Option Value)} {x : Int32} (F : am_F P X mi p R s m args meth c) (O : am_Wo D cl ra A s H locs ws tys sh M) (hsh : sh[a]? = some (.inr (t, N, g))) (hsb : sh[b]? = some (.inl (ci, fs))) (ht : t = ci + 2) (hin : ¬ (x < 0 ∨ N ≤ x.toNatClampNeg)) (hdg : decode (X.2.2.1 mi) pc = .ok (.aastore, 1))
    (kk : ∀ (ws' : va_W) (H' : Heap) (locs' : List Loc), am_Wo D cl ra A s H' locs' ws' tys (sh.set a (.inr (t, N, va_up g x.toNatClampNeg (some b)))) M → am_ex ra ws ws' → W p l e R s m args below meth c H' locs' cells slots Q (F0 m (pc + 1) ls rest)) : W p l e R s m args below meth c H locs cells slots Q (F0 m pc ls (.ref (am_ad ra ws b) :: .int x :: .ref (am_ad ra ws a) :: rest)) := by
  obtain ⟨hx, hb, -⟩ := F
  obtain ⟨hW, hP, hD, hK, hS, hA⟩ := O
  obtain ⟨a', e', h1, cA, t0, h2⟩ := hW.2.2 a _ hsh
  obtain ⟨b', e2, g1, vs, rfl, g3⟩ := hW.2.2 b _ hsb
  rw [am_ad_at h1, am_ad_at g1]
  rcases h2 with ⟨h2, -, -⟩ | ⟨h2, -, -⟩ | ⟨cj, r, h2, h3, h4, rfl, h5⟩
  · dsimp only at h2; omega
  · dsimp only at h2; omega
  · have hcj : cj = ci := by dsimp only at h2; omega
    subst hcj
    refine va_astq (D := D) hx hb hK hP hD hS a t0 b cj h1 h4 g1 h3 hin hdg (fun H' locs' q1 q2 q3 => ?_)
    have hfe : va_up (fun j => (g j).map (am_ad ra ws)) x.toNatClampNeg (some b') = fun j => ((va_up g x.toNatClampNeg (some b)) j).map (am_ad ra ws) := by
      funext j
      by_cases hj : j = x.toNatClampNeg
      · simp [va_up, hj, am_ad_at g1]
      · simp [va_up, hj]
    have hbl : b < ws.length := (List.getElem?_eq_some_iff.mp g1).1
    obtain ⟨w1, w2⟩ := hW.set (M' := M) (c := .inr (t, N, va_up g x.toNatClampNeg (some b))) (e := .inl (cA, N, .inr (.inr (.inr (.inr (va_up (fun j => (g j).map (am_ad ra ws)) x.toNatClampNeg (some b'))))))) h1 (by
      refine ⟨cA, t0, Or.inr (Or.inr ⟨cj, r, h2, h3, h4, by rw [hfe], fun j b2 hb2 => ?_⟩)⟩
      by_cases hj : j = x.toNatClampNeg
      · simp only [va_up, hj, if_true, Option.some.injEq] at hb2
        omega
      · simp only [va_up, hj, if_false] at hb2
        exact h5 j b2 hb2) (fun q hq => rfl)
    exact kk _ H' locs' ⟨w1, q1, q2, hK, q3, hA⟩ w2
theorem am_h_alen {a t N : Nat} {g : Nat → Option Nat} (F : am_F P X mi p R s m args meth c) (O : am_Wo D cl ra A s H locs ws tys sh M) (hsh : sh[a]? = some (.inr (t, N, g))) (hdg : decode (X.2.2.1 mi) pc = .ok (.arraylength, 1))
    (kk : W p l e R s m args below meth c H locs cells slots Q (F0 m (pc + 1) ls (.int (Int32.ofNat N) :: rest))) : W p l e R s m args below meth c H locs cells slots Q (F0 m pc ls (.ref (am_ad ra ws a) :: rest)) := by
  obtain ⟨hx, hb, -⟩ := F
  obtain ⟨hW, hP, hD, hK, hS, hA⟩ := O
  obtain ⟨a', e', h1, cA, t0, h2⟩ := hW.2.2 a _ hsh
  rw [am_ad_at h1]
  rcases h2 with ⟨-, h3, rfl⟩ | ⟨-, h3, rfl⟩ | ⟨cj, r, -, -, h3, rfl, -⟩
  · exact va_alen (D := D) hx hb hK hP a t0 h1 h3 rfl hdg kk
  · exact va_alen (D := D) hx hb hK hP a t0 h1 h3 rfl hdg kk
  · exact va_alen (D := D) hx hb hK hP a t0 h1 h3 rfl hdg kk
theorem am_h_slen {a N : Nat} {f : Nat → Int32} (F : am_F P X mi p R s m args meth c) (E : am_E P X ra A s s.heap) (O : am_Wo D cl ra A s H locs ws tys sh M) (hsh : sh[a]? = none) (hro : P.2.2.2.2.2.2 a = some (N, f)) (hdg : decode (X.2.2.1 mi) pc = .ok (.arraylength, 1))
    (kk : W p l e R s m args below meth c H locs cells slots Q (F0 m (pc + 1) ls (.int (Int32.ofNat N) :: rest))) : W p l e R s m args below meth c H locs cells slots Q (F0 m pc ls (.ref (am_ad ra ws a) :: rest)) := by
  obtain ⟨hx, hb, -⟩ := F
  obtain ⟨hW, hP, hD, hK, hS, hA⟩ := O
  rw [am_ad_big (by rw [hW.1]; exact List.getElem?_eq_none_iff.mp hsh)]
  exact va_tlen hx hb (E.2.2.1 a N f hro) hS rfl hdg kk
theorem am_h_sld {a N : Nat} {f : Nat → Int32} {x : Int32} (F : am_F P X mi p R s m args meth c) (E : am_E P X ra A s s.heap) (O : am_Wo D cl ra A s H locs ws tys sh M) (hsh : sh[a]? = none) (hro : P.2.2.2.2.2.2 a = some (N, f)) (hin : ¬ (x < 0 ∨ N ≤ x.toNatClampNeg)) (hdg : decode (X.2.2.1 mi) pc = .ok (.iaload, 1))
    (kk : W p l e R s m args below meth c H locs cells slots Q (F0 m (pc + 1) ls (.int (f x.toNatClampNeg) :: rest))) : W p l e R s m args below meth c H locs cells slots Q (F0 m pc ls (.int x :: .ref (am_ad ra ws a) :: rest)) := by
  obtain ⟨hx, hb, -⟩ := F
  obtain ⟨hW, hP, hD, hK, hS, hA⟩ := O
  rw [am_ad_big (by rw [hW.1]; exact List.getElem?_eq_none_iff.mp hsh)]
  exact va_ti hx hb (E.2.2.1 a N f hro) hS hin rfl hdg kk
theorem am_h_newI {at_ : Jvm.ClassFile.ArrayType} {x : Int32} {t : Nat} (hat : (at_ = .int ∧ t = 0) ∨ (at_ = .boolean ∧ t = 1)) (G : am_G P X cl) (F : am_F P X mi p R s m args meth c) (O : am_Wo D cl ra A s H locs ws tys sh M) (hin : ¬ (x < 0 ∨ 100000 ≤ x.toNatClampNeg ∨ 1048576 ≤ sh.length + 1)) (hc : cells + 1 ≤ R.cells) (hs : slots + x.toNatClampNeg ≤ R.slots) (hdg : decode (X.2.2.1 mi) pc = .ok (.newarray at_, 2))
    (kk : ∀ (ws' : va_W) (tys' : List (ClassId × FieldType)) (H' : Heap) (locs' : List Loc), am_Wo D cl ra A s H' locs' ws' tys' (sh ++ [.inr (t, x.toNatClampNeg, fun _ => none)]) (am_set M sh.length (fun _ => 0)) → am_ex ra ws ws' → W p l e R s m args below meth c H' locs' (cells + 1) (slots + x.toNatClampNeg) Q (F0 m (pc + 2) ls (.ref (am_ad ra ws' sh.length) :: rest))) : W p l e R s m args below meth c H locs cells slots Q (F0 m pc ls (.int x :: rest)) := by
  obtain ⟨hx, hb, -, -, -, hts, -⟩ := F
  obtain ⟨hW, hP, hD, hK, hS, hA⟩ := O
  have h0 : ¬ x < 0 := fun q => hin (Or.inl q)
  have h1 : ¬ 100000 ≤ x.toNatClampNeg := fun q => hin (Or.inr (Or.inl q))
  have h2 : ¬ 1048576 ≤ sh.length + 1 := fun q => hin (Or.inr (Or.inr q))
  have fin : ∀ (q : Nat) (cA : ClassId) (H1 : Heap) (ty : FieldType), ((t = 0 ∧ ty = .int) ∨ (t = 1 ∧ ty = .boolean)) → va_K D cl (tys ++ [(cA, ty)]) s → va_P D cl (ws ++ [(q, .inl (cA, x.toNatClampNeg, .inl (fun _ => 0)))]) H1 → va_D A (ws ++ [(q, .inl (cA, x.toNatClampNeg, .inl (fun _ => 0)))]) → va_S A s.heap H1 locs →
      W p l e R s m args below meth c H1 locs (cells + 1) (slots + x.toNatClampNeg) Q (F0 m (pc + 2) ls (.ref q :: rest)) := by
    intro q cA H1 ty hty q1 q2 q3 q4
    obtain ⟨w1, w2⟩ := hW.push (M' := am_set M sh.length (fun _ => 0)) (tl := [(cA, ty)]) (a := q) (e := .inl (cA, x.toNatClampNeg, .inl (fun _ => 0))) (c := .inr (t, x.toNatClampNeg, fun _ => none)) h2 (fun k hk => am_set_n M _ hk) (fun _ => by
      rw [am_set_s]
      refine ⟨cA, tys.length, ?_⟩
      have ht : (tys ++ [(cA, ty)])[tys.length]? = some (cA, ty) := by
        rw [List.getElem?_append_right (Nat.le_refl _), Nat.sub_self]
        rfl
      rcases hty with ⟨e1, rfl⟩ | ⟨e1, rfl⟩
      · exact Or.inl ⟨e1, ht, rfl⟩
      · exact Or.inr (Or.inl ⟨e1, ht, rfl⟩))
    have := kk _ _ H1 locs ⟨w1, q2, q3, q1, q4, hA⟩ w2
    rw [← hW.1, am_ad_new] at this
    exact this
  rcases hat with ⟨rfl, ht⟩ | ⟨rfl, ht⟩
  · refine va_newa (D := D) (atype := .int) (ty := .int) hx hb (hts _ G.2.2.2.2.1.2.2.1) rfl hK hP hD hS hA (a0 := (x.toNatClampNeg, .inl (fun _ => 0))) (fun cA => rfl) h0 rfl (by show _ * 4 ≤ _; omega) hc hs hdg (fun q cA H1 q1 q2 q3 q4 => fin q cA H1 .int (Or.inl ⟨ht, rfl⟩) q1 q2 q3 q4)
  · refine va_newa (D := D) (atype := .boolean) (ty := .boolean) hx hb (hts _ G.2.2.2.2.1.2.2.2.1) rfl hK hP hD hS hA (a0 := (x.toNatClampNeg, .inl (fun _ => 0))) (fun cA => rfl) h0 rfl (by show _ * 1 ≤ _; omega) hc hs hdg (fun q cA H1 q1 q2 q3 q4 => fin q cA H1 .boolean (Or.inr ⟨ht, rfl⟩) q1 q2 q3 q4)
theorem am_h_newR {x : Int32} {ix ci z u v : Nat} (G : am_G P X cl) (F : am_F P X mi p R s m args meth c) (E : am_E P X ra A s s.heap) (O : am_Wo D cl ra A s H locs ws tys sh M) (hlk : P.2.1 mi (ix + 100000) = some (6, ci, z, u, v)) (hin : ¬ (x < 0 ∨ 100000 ≤ x.toNatClampNeg ∨ 1048576 ≤ sh.length + 1)) (hc : cells + 1 ≤ R.cells) (hs : slots + x.toNatClampNeg ≤ R.slots) (hdg : decode (X.2.2.1 mi) pc = .ok (.anewarray ix, 3))
    (kk : ∀ (ws' : va_W) (tys' : List (ClassId × FieldType)) (H' : Heap) (locs' : List Loc), am_Wo D cl ra A s H' locs' ws' tys' (sh ++ [.inr (ci + 2, x.toNatClampNeg, fun _ => none)]) (am_set M sh.length (fun _ => 0)) → am_ex ra ws ws' → W p l e R s m args below meth c H' locs' (cells + 1) (slots + x.toNatClampNeg) Q (F0 m (pc + 3) ls (.ref (am_ad ra ws' sh.length) :: rest))) : W p l e R s m args below meth c H locs cells slots Q (F0 m pc ls (.int x :: rest)) := by
  obtain ⟨hx, hb, -, -, -, hts, hown, -⟩ := F
  obtain ⟨hW, hP, hD, hK, hS, hA⟩ := O
  have h0 : ¬ x < 0 := fun q => hin (Or.inl q)
  have h1 : ¬ 100000 ≤ x.toNatClampNeg := fun q => hin (Or.inr (Or.inl q))
  have h2 : ¬ 1048576 ≤ sh.length + 1 := fun q => hin (Or.inr (Or.inr q))
  obtain ⟨C, T, N, hr, hcl, hAO⟩ := G.2.2.2.2.1.2.1 mi ix ci z u v hlk
  refine va_newq (D := D) hx hb hown (hts _ hcl) (E.2.2.2 C hAO) hK hP hD hS hA h0 rfl (by omega) hc hs hdg (fun q cA H1 q1 q2 q3 q4 => ?_)
  obtain ⟨w1, w2⟩ := hW.push (M' := am_set M sh.length (fun _ => 0)) (tl := [(cA, .object C)]) (a := q) (e := .inl (cA, x.toNatClampNeg, .inr (.inr (.inr (.inr (fun _ => none)))))) (c := .inr (ci + 2, x.toNatClampNeg, fun _ => none)) h2 (fun k hk => am_set_n M _ hk) (fun _ => by
    refine ⟨cA, tys.length, Or.inr (Or.inr ⟨ci, (C, T, N), rfl, hr, ?_, rfl, fun j b hb => by cases hb⟩)⟩
    rw [List.getElem?_append_right (Nat.le_refl _), Nat.sub_self]
    rfl)
  have := kk _ _ H1 locs ⟨w1, q2, q3, q1, q4, hA⟩ w2
  rw [← hW.1, am_ad_new] at this
  exact this
theorem am_h_newO {ix ci z u v : Nat} (G : am_G P X cl) (F : am_F P X mi p R s m args meth c) (O : am_Wo D cl ra A s H locs ws tys sh M) (hlk : P.2.1 mi ix = some (5, ci, z, u, v)) (hin : ¬ 1048576 ≤ sh.length + 1) (hc : cells + 1 ≤ R.cells) (hs : slots + (P.2.2.2.1 ci).length ≤ R.slots) (hdg : decode (X.2.2.1 mi) pc = .ok (.new ix, 3))
    (kk : ∀ (ws' : va_W) (H' : Heap) (locs' : List Loc), am_Wo D cl ra A s H' locs' ws' tys (sh ++ [.inl (ci, (P.2.2.2.1 ci).map am_new)]) (am_set M sh.length (fun _ => 0)) → am_ex ra ws ws' → W p l e R s m args below meth c H' locs' (cells + 1) (slots + (P.2.2.2.1 ci).length) Q (F0 m (pc + 3) ls (.ref (am_ad ra ws' sh.length) :: rest))) : W p l e R s m args below meth c H locs cells slots Q (F0 m pc ls rest) := by
  obtain ⟨hx, hb, -, -, -, hts, hown, -⟩ := F
  obtain ⟨hW, hP, hD, hK, hS, hA⟩ := O
  obtain ⟨C, T, N, hr, hcl, hins, hini⟩ := G.2.2.2.2.1.1 mi ix ci z u v hlk
  obtain ⟨g1, g2, g3, hin2, hty0⟩ := G.2.1 ci C T N hr
  subst g1
  have hall : ∀ ty ∈ P.2.2.2.1 ci, (am_new ty = none ∧ defaultValue ty = .int 0) ∨ (am_new ty = some .null ∧ defaultValue ty = .null) := by
    intro ty hty
    rcases hty0 ty hty with rfl | rfl | h
    · exact Or.inl ⟨rfl, rfl⟩
    · exact Or.inl ⟨rfl, rfl⟩
    · cases ty <;> simp only [am_rty, Bool.false_eq_true] at h <;> exact Or.inr ⟨rfl, rfl⟩
  refine va_new (D := D) hx hb hts hin2 (fun k => (P.2.2.2.1 ci).getD k .int) g2 hown (hts _ hcl) (hts _ hins) (hts _ hini) hK hP hD hS hA hr (fs := (P.2.2.2.1 ci).map defaultValue) (fun j hj => ?_) hc hs hdg (fun q H1 q2 q3 q4 => ?_)
  · show defaultValue ((P.2.2.2.1 ci).getD j .int) = ((P.2.2.2.1 ci).map defaultValue).getD j .null
    rw [List.getD_eq_getElem?_getD, List.getD_eq_getElem?_getD, List.getElem?_map, List.getElem?_eq_getElem hj]
    rfl
  obtain ⟨w1, w2⟩ := hW.push (M' := am_set M sh.length (fun _ => 0)) (tl := []) (a := q) (e := .inr (ci, (P.2.2.2.1 ci).map defaultValue)) (c := .inl (ci, (P.2.2.2.1 ci).map am_new)) hin (fun k hk => am_set_n M _ hk) (fun _ => by
    rw [am_set_s]
    refine ⟨_, rfl, by simp, fun j hj => ?_, fun j v hj => ?_⟩
    · rw [List.getElem?_map] at hj ⊢
      cases hty : (P.2.2.2.1 ci)[j]? with
      | none => rw [hty] at hj; cases hj
      | some ty =>
        rw [hty] at hj
        have hj : am_new ty = none := Option.some.inj hj
        rcases hall ty (List.mem_of_getElem? hty) with ⟨-, h2⟩ | ⟨h1, -⟩
        · show some (defaultValue ty) = _
          rw [h2]
        · rw [hj] at h1; cases h1
    · rw [List.getElem?_map] at hj ⊢
      cases hty : (P.2.2.2.1 ci)[j]? with
      | none => rw [hty] at hj; cases hj
      | some ty =>
        rw [hty] at hj
        have hj : am_new ty = some v := Option.some.inj hj
        rcases hall ty (List.mem_of_getElem? hty) with ⟨h1, -⟩ | ⟨h1, h2⟩
        · rw [hj] at h1; cases h1
        · rw [hj] at h1
          cases h1
          show some (defaultValue ty) = _ ∧ _
          rw [h2]
          exact ⟨rfl, trivial⟩)
  rw [List.append_nil] at w1
  have := kk _ H1 locs ⟨w1, q2, q3, hK, q4, hA⟩ w2
  rw [← hW.1, am_ad_new] at this
  exact this
end AMH
end
section
/-! The small machine is sound: one instruction -/
section AMS
variable {P : am_T} {X : am_X} {D : va_G} {cl : List vw_C} {ra : Nat → Nat} {A : Nat → Prop} {l : Launch}
/-- a step from (pc, L, st, sh, M) to (pc', L', st', sh', M') of the small machine is one of the real machine -/
def am_Nx (P : am_T) (X : am_X) (D : va_G) (cl : List vw_C) (ra : Nat → Nat) (A : Nat → Prop) (l : Launch) (mi pc : Nat) (L : List (Option Value)) (st : List Value) (sh : List am_C) (M : am_M) (pc' : Nat) (L' : List (Option Value)) (st' : List Value) (sh' : List am_C) (M' : am_M) : Prop :=
  (sh.length ≤ sh'.length ∧ am_sz sh ≤ am_sz sh') ∧
  ∀ (p : Program) (e : Env) (R : Room) (s : State) (m : MethodId) (args : Array Value) (below : List Frame) (meth : Method) (c : Code) (H : Heap) (locs : List Loc) (cells slots : Nat) (Q : State → Prop) (ls : Array Slot) (ws : va_W) (tys : List (ClassId × FieldType)),
    am_F P X mi p R s m args meth c → am_E P X ra A s s.heap → am_Wo D cl ra A s H locs ws tys sh M → am_L ra ws (P.2.2.2.2.2.1 mi) L ls → (∀ v ∈ st, am_ok ws.length v) → cells + (sh'.length - sh.length) ≤ R.cells → slots + (am_sz sh' - am_sz sh) ≤ R.slots →
    (∀ (ws' : va_W) (tys' : List (ClassId × FieldType)) (H' : Heap) (locs' : List Loc) (ls' : Array Slot), am_Wo D cl ra A s H' locs' ws' tys' sh' M' → am_ex ra ws ws' → am_L ra ws' (P.2.2.2.2.2.1 mi) L' ls' → (∀ v ∈ st', am_ok ws'.length v) → W p l e R s m args below meth c H' locs' (cells + (sh'.length - sh.length)) (slots + (am_sz sh' - am_sz sh)) Q (F0 m pc' ls' (st'.map (am_tv ra ws')))) →
    W p l e R s m args below meth c H locs cells slots Q (F0 m pc ls (st.map (am_tv ra ws)))
theorem am_len1 {n k : Nat} (hk : k ≠ 0) (hn : k = 0 ∨ n = k) : n = k := by omega
/-- an instruction that changes neither cells nor memory -/
theorem am_Nx.same {mi pc pc' : Nat} {L L' : List (Option Value)} {st st' : List Value} {sh : List am_C} {M : am_M}
    (h : ∀ (p : Program) (e : Env) (R : Room) (s : State) (m : MethodId) (args : Array Value) (below : List Frame) (meth : Method) (c : Code) (H : Heap) (locs : List Loc) (cells slots : Nat) (Q : State → Prop) (ls : Array Slot) (ws : va_W) (tys : List (ClassId × FieldType)),
      am_F P X mi p R s m args meth c → am_E P X ra A s s.heap → am_Wo D cl ra A s H locs ws tys sh M → am_L ra ws (P.2.2.2.2.2.1 mi) L ls → (∀ v ∈ st, am_ok ws.length v) →
      (∀ ls' : Array Slot, am_L ra ws (P.2.2.2.2.2.1 mi) L' ls' → (∀ v ∈ st', am_ok ws.length v) → W p l e R s m args below meth c H locs cells slots Q (F0 m pc' ls' (st'.map (am_tv ra ws)))) → W p l e R s m args below meth c H locs cells slots Q (F0 m pc ls (st.map (am_tv ra ws)))) : am_Nx P X D cl ra A l mi pc L st sh M pc' L' st' sh M := by
  refine ⟨⟨Nat.le_refl _, Nat.le_refl _⟩, fun p e R s m args below meth c H locs cells slots Q ls ws tys hF hE hO hL hst _ _ kk => ?_⟩
  refine h p e R s m args below meth c H locs cells slots Q ls ws tys hF hE hO hL hst (fun ls' hL' hst' => ?_)
  have := kk ws tys H locs ls' hO (am_ex.rf (by rw [hO.1.1]; exact hO.1.2.1)) hL' hst'
  rwa [Nat.sub_self, Nat.sub_self, Nat.add_zero, Nat.add_zero] at this
/-- an instruction that changes the memory, or a cell, but makes none -/
theorem am_Nx.wr {mi pc pc' : Nat} {L : List (Option Value)} {st st' : List Value} {sh sh' : List am_C} {M M' : am_M} (hlen : sh'.length = sh.length) (hsz : am_sz sh' = am_sz sh) (hsub : ∀ v ∈ st', v ∈ st)
    (h : ∀ (p : Program) (e : Env) (R : Room) (s : State) (m : MethodId) (args : Array Value) (below : List Frame) (meth : Method) (c : Code) (H : Heap) (locs : List Loc) (cells slots : Nat) (Q : State → Prop) (ls : Array Slot) (ws : va_W) (tys : List (ClassId × FieldType)),
      am_F P X mi p R s m args meth c → am_E P X ra A s s.heap → am_Wo D cl ra A s H locs ws tys sh M → (∀ v ∈ st, am_ok ws.length v) →
      (∀ (ws' : va_W) (H' : Heap) (locs' : List Loc), am_Wo D cl ra A s H' locs' ws' tys sh' M' → am_ex ra ws ws' → W p l e R s m args below meth c H' locs' cells slots Q (F0 m pc' ls (st'.map (am_tv ra ws)))) → W p l e R s m args below meth c H locs cells slots Q (F0 m pc ls (st.map (am_tv ra ws)))) : am_Nx P X D cl ra A l mi pc L st sh M pc' L st' sh' M' := by
  refine ⟨⟨by rw [hlen]; exact Nat.le_refl _, by rw [hsz]; exact Nat.le_refl _⟩, fun p e R s m args below meth c H locs cells slots Q ls ws tys hF hE hO hL hst _ _ kk => ?_⟩
  refine h p e R s m args below meth c H locs cells slots Q ls ws tys hF hE hO hst (fun ws' H' locs' hO' hx => ?_)
  have hst1 : ∀ v ∈ st', am_ok ws.length v := fun v hv => hst v (hsub v hv)
  have := kk ws' tys H' locs' ls hO' hx (hL.ex hx) (fun v hv => (hst1 v hv).mono hx.1)
  rwa [hlen, hsz, Nat.sub_self, Nat.sub_self, Nat.add_zero, Nat.add_zero, hx.tvs hst1] at this
/-- an instruction that makes a cell -/
theorem am_Nx.mk {mi pc pc' : Nat} {L : List (Option Value)} {st st' : List Value} {sh : List am_C} {c0 : am_C} {M M' : am_M} (hsub : ∀ v ∈ st', v ∈ st)
    (h : ∀ (p : Program) (e : Env) (R : Room) (s : State) (m : MethodId) (args : Array Value) (below : List Frame) (meth : Method) (c : Code) (H : Heap) (locs : List Loc) (cells slots : Nat) (Q : State → Prop) (ls : Array Slot) (ws : va_W) (tys : List (ClassId × FieldType)),
      am_F P X mi p R s m args meth c → am_E P X ra A s s.heap → am_Wo D cl ra A s H locs ws tys sh M → (∀ v ∈ st, am_ok ws.length v) → cells + 1 ≤ R.cells → slots + am_sc c0 ≤ R.slots →
      (∀ (ws' : va_W) (tys' : List (ClassId × FieldType)) (H' : Heap) (locs' : List Loc), am_Wo D cl ra A s H' locs' ws' tys' (sh ++ [c0]) M' → am_ex ra ws ws' → W p l e R s m args below meth c H' locs' (cells + 1) (slots + am_sc c0) Q (F0 m pc' ls (.ref (am_ad ra ws' sh.length) :: st'.map (am_tv ra ws)))) → W p l e R s m args below meth c H locs cells slots Q (F0 m pc ls (st.map (am_tv ra ws)))) : am_Nx P X D cl ra A l mi pc L st sh M pc' L (.ref sh.length :: st') (sh ++ [c0]) M' := by
  have hlen : (sh ++ [c0]).length - sh.length = 1 := by rw [List.length_append]; show sh.length + 1 - sh.length = 1; omega
  have hsz : am_sz (sh ++ [c0]) - am_sz sh = am_sc c0 := by rw [am_sz_push]; omega
  refine ⟨⟨by rw [List.length_append]; omega, by rw [am_sz_push]; omega⟩, fun p e R s m args below meth c H locs cells slots Q ls ws tys hF hE hO hL hst hc hs kk => ?_⟩
  rw [hlen] at hc
  rw [hsz] at hs
  refine h p e R s m args below meth c H locs cells slots Q ls ws tys hF hE hO hst hc hs (fun ws' tys' H' locs' hO' hx => ?_)
  have hst1 : ∀ v ∈ st', am_ok ws.length v := fun v hv => hst v (hsub v hv)
  have := kk ws' tys' H' locs' ls hO' hx (hL.ex hx) (fun v hv => by
    rcases List.mem_cons.mp hv with rfl | hv
    · refine Or.inl ?_
      rw [hO'.1.1, List.length_append]
      exact Nat.lt_succ_self _
    · exact (hst1 v hv).mono hx.1)
  rw [hlen, hsz, List.map_cons, hx.tvs hst1] at this
  exact this
theorem am_hp_get (G : am_G P X cl) {mi pc n ix : Nat} {L : List (Option Value)} {st st' : List Value} {sh sh' : List am_C} {M M' : am_M} (h : am_hp P mi (.getfield ix) st sh M = some (st', sh', M')) (hdg : decode (X.2.2.1 mi) pc = .ok (.getfield ix, n)) (hn : am_len (.getfield ix) = 0 ∨ n = am_len (.getfield ix)) : am_Nx P X D cl ra A l mi pc L st sh M (pc + n) L st' sh' M' := by
  have hn : n = 3 := am_len1 (k := 3) (by decide) hn
  subst hn
  simp only [am_hp] at h
  split at h
  case h_2 => cases h
  case h_1 q1 q2 ci k z u a r hlk =>
  split at h
  case h_2 => cases h
  case h_1 q3 cj fs hsh =>
  rw [am_nth_eq] at hsh
  by_cases hc : cj = ci
  case neg => rw [if_neg hc] at h; cases h
  subst hc
  rw [if_pos rfl] at h
  split at h
  case h_3 => cases h
  case h_1 hfs =>
    rw [am_nth_eq] at hfs
    cases h
    refine am_Nx.same (fun p e R s m args below meth c H locs cells slots Q ls ws tys hF hE hO hL hst kk => ?_)
    exact (am_h_get G hF hE hO hlk hsh hfs hdg (kk ls hL (fun v hv => by
      rcases List.mem_cons.mp hv with rfl | hv
      · trivial
      · exact hst v (List.mem_cons_of_mem _ hv)))).2
  case h_2 v hfs =>
    rw [am_nth_eq] at hfs
    cases h
    refine am_Nx.same (fun p e R s m args below meth c H locs cells slots Q ls ws tys hF hE hO hL hst kk => ?_)
    have hv : am_ok ws.length v := by
      obtain ⟨a', e', h1, vs, -, -, -, h5⟩ := hO.1.2.2 a _ hsh
      exact (h5 k v hfs).2
    exact (am_h_get G hF hE hO hlk hsh hfs hdg (kk ls hL (fun w hw => by
      rcases List.mem_cons.mp hw with rfl | hw
      · exact hv
      · exact hst w (List.mem_cons_of_mem _ hw)))).2
theorem am_hp_put (G : am_G P X cl) {mi pc n ix : Nat} {L : List (Option Value)} {st st' : List Value} {sh sh' : List am_C} {M M' : am_M} (h : am_hp P mi (.putfield ix) st sh M = some (st', sh', M')) (hdg : decode (X.2.2.1 mi) pc = .ok (.putfield ix, n)) (hn : am_len (.putfield ix) = 0 ∨ n = am_len (.putfield ix)) : am_Nx P X D cl ra A l mi pc L st sh M (pc + n) L st' sh' M' := by
  have hn : n = 3 := am_len1 (k := 3) (by decide) hn
  subst hn
  simp only [am_hp] at h
  split at h
  case h_2 => cases h
  case h_1 q1 q2 ci k z v a r hlk =>
  split at h
  case h_2 => cases h
  case h_1 q3 cj fs hsh =>
  rw [am_nth_eq] at hsh
  by_cases hc : cj = ci
  case neg => rw [if_neg hc] at h; cases h
  subst hc
  rw [if_pos rfl] at h
  split at h
  case h_3 => cases h
  case h_1 q4 q5 x hfs =>
    rw [am_nth_eq] at hfs
    split at h
    case h_2 => cases h
    case h_1 q6 ty hty =>
    rw [am_nth_eq] at hty
    by_cases hft : am_fit ty x = true
    case neg => rw [if_neg hft] at h; cases h
    rw [if_pos hft] at h
    cases h
    refine am_Nx.wr rfl rfl (fun v hv => List.mem_cons_of_mem _ (List.mem_cons_of_mem _ hv)) (fun p e R s m args below meth c H locs cells slots Q ls ws tys hF hE hO hst kk => ?_)
    exact am_h_putI G hF hE hO hlk hsh hfs hty hft hdg kk
  case h_2 q4 q5 v0 b hfs =>
    rw [am_nth_eq] at hfs
    split at h
    case h_2 => cases h
    case h_1 q6 ty hty =>
    rw [am_nth_eq] at hty
    by_cases hft : am_rty ty = true
    case neg => rw [if_neg hft] at h; cases h
    rw [if_pos hft] at h
    cases h
    refine am_Nx.wr (List.length_set ..) (am_sz_set sh a _ _ hsh (List.length_set ..)) (fun v hv => List.mem_cons_of_mem _ (List.mem_cons_of_mem _ hv)) (fun p e R s m args below meth c H locs cells slots Q ls ws tys hF hE hO hst kk => ?_)
    exact am_h_putR G hF hE hO hlk hsh hfs hty hft (hst _ List.mem_cons_self) hdg kk
theorem am_hp_gets (G : am_G P X cl) {mi pc n ix : Nat} {L : List (Option Value)} {st st' : List Value} {sh sh' : List am_C} {M M' : am_M} (h : am_hp P mi (.getstatic ix) st sh M = some (st', sh', M')) (hdg : decode (X.2.2.1 mi) pc = .ok (.getstatic ix, n)) (hn : am_len (.getstatic ix) = 0 ∨ n = am_len (.getstatic ix)) : am_Nx P X D cl ra A l mi pc L st sh M (pc + n) L st' sh' M' := by
  have hn : n = 3 := am_len1 (k := 3) (by decide) hn
  subst hn
  simp only [am_hp] at h
  split at h
  case h_2 => cases h
  case h_1 q1 j z u v hlk =>
  cases h
  refine am_Nx.same (fun p e R s m args below meth c H locs cells slots Q ls ws tys hF hE hO hL hst kk => ?_)
  refine am_h_gets G hF hE hO hlk hdg (kk ls hL (fun v hv => ?_))
  rcases List.mem_cons.mp hv with rfl | hv
  · exact Or.inr (Nat.le_add_right _ _)
  · exact hst v hv
theorem am_hp_iald (G : am_G P X cl) {mi pc n ix : Nat} {L : List (Option Value)} {st st' : List Value} {sh sh' : List am_C} {M M' : am_M} (h : am_hp P mi (.iaload) st sh M = some (st', sh', M')) (hdg : decode (X.2.2.1 mi) pc = .ok (.iaload, n)) (hn : am_len (.iaload) = 0 ∨ n = am_len (.iaload)) : am_Nx P X D cl ra A l mi pc L st sh M (pc + n) L st' sh' M' := by
  have hn : n = 1 := am_len1 (k := 1) (by decide) hn
  subst hn
  simp only [am_hp] at h
  split at h
  case h_2 => cases h
  case h_1 q1 x a r =>
  split at h
  case h_2 => cases h
  case h_1 q2 t N g hsh =>
    rw [am_nth_eq] at hsh
    by_cases ht : t = 0
    case neg => rw [if_neg ht] at h; cases h
    rw [if_pos ht] at h
    by_cases hin : x < 0 ∨ N ≤ x.toNatClampNeg
    case pos => rw [if_pos hin] at h; cases h
    rw [if_neg hin] at h
    cases h
    refine am_Nx.same (fun p e R s m args below meth c H locs cells slots Q ls ws tys hF hE hO hL hst kk => ?_)
    exact am_h_iald hF hO hsh ht hin hdg (kk ls hL (fun v hv => by
      rcases List.mem_cons.mp hv with rfl | hv
      · trivial
      · exact hst v (List.mem_cons_of_mem _ (List.mem_cons_of_mem _ hv))))
  case h_3 q2 hsh =>
    rw [am_nth_eq] at hsh
    split at h
    case h_2 => cases h
    case h_1 q3 N f hro =>
    by_cases hin : x < 0 ∨ N ≤ x.toNatClampNeg
    case pos => rw [if_pos hin] at h; cases h
    rw [if_neg hin] at h
    cases h
    refine am_Nx.same (fun p e R s m args below meth c H locs cells slots Q ls ws tys hF hE hO hL hst kk => ?_)
    exact am_h_sld hF hE hO hsh hro hin hdg (kk ls hL (fun v hv => by
      rcases List.mem_cons.mp hv with rfl | hv
      · trivial
      · exact hst v (List.mem_cons_of_mem _ (List.mem_cons_of_mem _ hv))))
theorem am_hp_bald (G : am_G P X cl) {mi pc n ix : Nat} {L : List (Option Value)} {st st' : List Value} {sh sh' : List am_C} {M M' : am_M} (h : am_hp P mi (.baload) st sh M = some (st', sh', M')) (hdg : decode (X.2.2.1 mi) pc = .ok (.baload, n)) (hn : am_len (.baload) = 0 ∨ n = am_len (.baload)) : am_Nx P X D cl ra A l mi pc L st sh M (pc + n) L st' sh' M' := by
  have hn : n = 1 := am_len1 (k := 1) (by decide) hn
  subst hn
  simp only [am_hp] at h
  split at h
  case h_2 => cases h
  case h_1 q1 x a r =>
  split at h
  case h_2 => cases h
  case h_1 q2 t N g hsh =>
  rw [am_nth_eq] at hsh
  by_cases ht : t = 1
  case neg => rw [if_neg ht] at h; cases h
  rw [if_pos ht] at h
  by_cases hin : x < 0 ∨ N ≤ x.toNatClampNeg
  case pos => rw [if_pos hin] at h; cases h
  rw [if_neg hin] at h
  cases h
  refine am_Nx.same (fun p e R s m args below meth c H locs cells slots Q ls ws tys hF hE hO hL hst kk => ?_)
  exact am_h_bald hF hO hsh ht hin hdg (kk ls hL (fun v hv => by
      rcases List.mem_cons.mp hv with rfl | hv
      · trivial
      · exact hst v (List.mem_cons_of_mem _ (List.mem_cons_of_mem _ hv))))
theorem am_hp_aald (G : am_G P X cl) {mi pc n ix : Nat} {L : List (Option Value)} {st st' : List Value} {sh sh' : List am_C} {M M' : am_M} (h : am_hp P mi (.aaload) st sh M = some (st', sh', M')) (hdg : decode (X.2.2.1 mi) pc = .ok (.aaload, n)) (hn : am_len (.aaload) = 0 ∨ n = am_len (.aaload)) : am_Nx P X D cl ra A l mi pc L st sh M (pc + n) L st' sh' M' := by
  have hn : n = 1 := am_len1 (k := 1) (by decide) hn
  subst hn
  simp only [am_hp] at h
  split at h
  case h_2 => cases h
  case h_1 q1 x a r =>
  split at h
  case h_2 => cases h
  case h_1 q2 t N g hsh =>
  rw [am_nth_eq] at hsh
  by_cases ht : 2 ≤ t
  case neg => rw [if_neg ht] at h; cases h
  rw [if_pos ht] at h
  by_cases hin : x < 0 ∨ N ≤ x.toNatClampNeg
  case pos => rw [if_pos hin] at h; cases h
  rw [if_neg hin] at h
  split at h
  case h_2 => cases h
  case h_1 q3 b hg =>
  cases h
  refine am_Nx.same (fun p e R s m args below meth c H locs cells slots Q ls ws tys hF hE hO hL hst kk => ?_)
  have hb : am_ok ws.length (.ref b) := by
    obtain ⟨a', e', h1, cA, t0, h2⟩ := hO.1.2.2 a _ hsh
    rcases h2 with ⟨h2, -, -⟩ | ⟨h2, -, -⟩ | ⟨ci, r, h2, h3, h4, -, h5⟩
    · dsimp only at h2; omega
    · dsimp only at h2; omega
    · exact Or.inl (h5 _ b hg)
  exact (am_h_aald hF hO hsh ht hin hg hdg (kk ls hL (fun v hv => by
    rcases List.mem_cons.mp hv with rfl | hv
    · exact hb
    · exact hst v (List.mem_cons_of_mem _ (List.mem_cons_of_mem _ hv))))).2
theorem am_hp_iast (G : am_G P X cl) {mi pc n ix : Nat} {L : List (Option Value)} {st st' : List Value} {sh sh' : List am_C} {M M' : am_M} (h : am_hp P mi (.iastore) st sh M = some (st', sh', M')) (hdg : decode (X.2.2.1 mi) pc = .ok (.iastore, n)) (hn : am_len (.iastore) = 0 ∨ n = am_len (.iastore)) : am_Nx P X D cl ra A l mi pc L st sh M (pc + n) L st' sh' M' := by
  have hn : n = 1 := am_len1 (k := 1) (by decide) hn
  subst hn
  simp only [am_hp] at h
  split at h
  case h_2 => cases h
  case h_1 q1 v x a r =>
  split at h
  case h_2 => cases h
  case h_1 q2 t N g hsh =>
  rw [am_nth_eq] at hsh
  by_cases ht : t = 0
  case neg => rw [if_neg ht] at h; cases h
  rw [if_pos ht] at h
  by_cases hin : x < 0 ∨ N ≤ x.toNatClampNeg
  case pos => rw [if_pos hin] at h; cases h
  rw [if_neg hin] at h
  cases h
  refine am_Nx.wr rfl rfl (fun v hv => List.mem_cons_of_mem _ (List.mem_cons_of_mem _ (List.mem_cons_of_mem _ hv))) (fun p e R s m args below meth c H locs cells slots Q ls ws tys hF hE hO hst kk => ?_)
  exact am_h_iast hF hO hsh ht hin hdg kk
theorem am_hp_bast (G : am_G P X cl) {mi pc n ix : Nat} {L : List (Option Value)} {st st' : List Value} {sh sh' : List am_C} {M M' : am_M} (h : am_hp P mi (.bastore) st sh M = some (st', sh', M')) (hdg : decode (X.2.2.1 mi) pc = .ok (.bastore, n)) (hn : am_len (.bastore) = 0 ∨ n = am_len (.bastore)) : am_Nx P X D cl ra A l mi pc L st sh M (pc + n) L st' sh' M' := by
  have hn : n = 1 := am_len1 (k := 1) (by decide) hn
  subst hn
  simp only [am_hp] at h
  split at h
  case h_2 => cases h
  case h_1 q1 v x a r =>
  split at h
  case h_2 => cases h
  case h_1 q2 t N g hsh =>
  rw [am_nth_eq] at hsh
  by_cases ht : t = 1
  case neg => rw [if_neg ht] at h; cases h
  rw [if_pos ht] at h
  by_cases hin : x < 0 ∨ N ≤ x.toNatClampNeg
  case pos => rw [if_pos hin] at h; cases h
  rw [if_neg hin] at h
  cases h
  refine am_Nx.wr rfl rfl (fun v hv => List.mem_cons_of_mem _ (List.mem_cons_of_mem _ (List.mem_cons_of_mem _ hv))) (fun p e R s m args below meth c H locs cells slots Q ls ws tys hF hE hO hst kk => ?_)
  exact am_h_bast hF hO hsh ht hin hdg kk
theorem am_hp_aast (G : am_G P X cl) {mi pc n ix : Nat} {L : List (Option Value)} {st st' : List Value} {sh sh' : List am_C} {M M' : am_M} (h : am_hp P mi (.aastore) st sh M = some (st', sh', M')) (hdg : decode (X.2.2.1 mi) pc = .ok (.aastore, n)) (hn : am_len (.aastore) = 0 ∨ n = am_len (.aastore)) : am_Nx P X D cl ra A l mi pc L st sh M (pc + n) L st' sh' M' := by
  have hn : n = 1 := am_len1 (k := 1) (by decide) hn
  subst hn
  simp only [am_hp] at h
  split at h
  case h_2 => cases h
  case h_1 q1 b x a r =>
  split at h
  case h_2 => cases h
  case h_1 q2 q3 t N g ci fs hsh hsb =>
  rw [am_nth_eq] at hsh hsb
  by_cases ht : t = ci + 2
  case neg => rw [if_neg ht] at h; cases h
  rw [if_pos ht] at h
  by_cases hin : x < 0 ∨ N ≤ x.toNatClampNeg
  case pos => rw [if_pos hin] at h; cases h
  rw [if_neg hin] at h
  cases h
  refine am_Nx.wr (List.length_set ..) (am_sz_set sh a _ _ hsh rfl) (fun v hv => List.mem_cons_of_mem _ (List.mem_cons_of_mem _ (List.mem_cons_of_mem _ hv))) (fun p e R s m args below meth c H locs cells slots Q ls ws tys hF hE hO hst kk => ?_)
  exact am_h_aast hF hO hsh hsb ht hin hdg kk
theorem am_hp_alen (G : am_G P X cl) {mi pc n ix : Nat} {L : List (Option Value)} {st st' : List Value} {sh sh' : List am_C} {M M' : am_M} (h : am_hp P mi (.arraylength) st sh M = some (st', sh', M')) (hdg : decode (X.2.2.1 mi) pc = .ok (.arraylength, n)) (hn : am_len (.arraylength) = 0 ∨ n = am_len (.arraylength)) : am_Nx P X D cl ra A l mi pc L st sh M (pc + n) L st' sh' M' := by
  have hn : n = 1 := am_len1 (k := 1) (by decide) hn
  subst hn
  simp only [am_hp] at h
  split at h
  case h_2 => cases h
  case h_1 q1 a r =>
  split at h
  case h_2 => cases h
  case h_1 q2 t N g hsh =>
    rw [am_nth_eq] at hsh
    cases h
    refine am_Nx.same (fun p e R s m args below meth c H locs cells slots Q ls ws tys hF hE hO hL hst kk => ?_)
    exact am_h_alen hF hO hsh hdg (kk ls hL (fun v hv => by
      rcases List.mem_cons.mp hv with rfl | hv
      · trivial
      · exact hst v (List.mem_cons_of_mem _ hv)))
  case h_3 q2 hsh =>
    rw [am_nth_eq] at hsh
    split at h
    case h_2 => cases h
    case h_1 q3 N f hro =>
    cases h
    refine am_Nx.same (fun p e R s m args below meth c H locs cells slots Q ls ws tys hF hE hO hL hst kk => ?_)
    exact am_h_slen hF hE hO hsh hro hdg (kk ls hL (fun v hv => by
      rcases List.mem_cons.mp hv with rfl | hv
      · trivial
      · exact hst v (List.mem_cons_of_mem _ hv)))
theorem am_hp_newa (G : am_G P X cl) {at_ : Jvm.ClassFile.ArrayType} {mi pc n ix : Nat} {L : List (Option Value)} {st st' : List Value} {sh sh' : List am_C} {M M' : am_M} (h : am_hp P mi (.newarray at_) st sh M = some (st', sh', M')) (hdg : decode (X.2.2.1 mi) pc = .ok (.newarray at_, n)) (hn : am_len (.newarray at_) = 0 ∨ n = am_len (.newarray at_)) : am_Nx P X D cl ra A l mi pc L st sh M (pc + n) L st' sh' M' := by
  have hn : n = 2 := am_len1 (k := 2) (by decide) hn
  subst hn
  simp only [am_hp] at h
  split at h
  case h_3 => cases h
  case h_1 q1 x r =>
    by_cases hin : x < 0 ∨ 100000 ≤ x.toNatClampNeg ∨ 1048576 ≤ sh.length + 1
    case pos => rw [if_pos hin] at h; cases h
    rw [if_neg hin] at h
    cases h
    refine am_Nx.mk (fun v hv => List.mem_cons_of_mem _ hv) (fun p e R s m args below meth c H locs cells slots Q ls ws tys hF hE hO hst hc hs kk => ?_)
    exact am_h_newI (Or.inl ⟨rfl, rfl⟩) G hF hO hin hc hs hdg kk
  case h_2 q1 x r =>
    by_cases hin : x < 0 ∨ 100000 ≤ x.toNatClampNeg ∨ 1048576 ≤ sh.length + 1
    case pos => rw [if_pos hin] at h; cases h
    rw [if_neg hin] at h
    cases h
    refine am_Nx.mk (fun v hv => List.mem_cons_of_mem _ hv) (fun p e R s m args below meth c H locs cells slots Q ls ws tys hF hE hO hst hc hs kk => ?_)
    exact am_h_newI (Or.inr ⟨rfl, rfl⟩) G hF hO hin hc hs hdg kk
theorem am_hp_newr (G : am_G P X cl) {mi pc n ix : Nat} {L : List (Option Value)} {st st' : List Value} {sh sh' : List am_C} {M M' : am_M} (h : am_hp P mi (.anewarray ix) st sh M = some (st', sh', M')) (hdg : decode (X.2.2.1 mi) pc = .ok (.anewarray ix, n)) (hn : am_len (.anewarray ix) = 0 ∨ n = am_len (.anewarray ix)) : am_Nx P X D cl ra A l mi pc L st sh M (pc + n) L st' sh' M' := by
  have hn : n = 3 := am_len1 (k := 3) (by decide) hn
  subst hn
  simp only [am_hp] at h
  split at h
  case h_2 => cases h
  case h_1 q1 q2 x r ci z u v hlk =>
  by_cases hin : x < 0 ∨ 100000 ≤ x.toNatClampNeg ∨ 1048576 ≤ sh.length + 1
  case pos => rw [if_pos hin] at h; cases h
  rw [if_neg hin] at h
  cases h
  refine am_Nx.mk (fun v hv => List.mem_cons_of_mem _ hv) (fun p e R s m args below meth c H locs cells slots Q ls ws tys hF hE hO hst hc hs kk => ?_)
  exact am_h_newR G hF hE hO hlk hin hc hs hdg kk
theorem am_hp_newo (G : am_G P X cl) {mi pc n ix : Nat} {L : List (Option Value)} {st st' : List Value} {sh sh' : List am_C} {M M' : am_M} (h : am_hp P mi (.new ix) st sh M = some (st', sh', M')) (hdg : decode (X.2.2.1 mi) pc = .ok (.new ix, n)) (hn : am_len (.new ix) = 0 ∨ n = am_len (.new ix)) : am_Nx P X D cl ra A l mi pc L st sh M (pc + n) L st' sh' M' := by
  have hn : n = 3 := am_len1 (k := 3) (by decide) hn
  subst hn
  simp only [am_hp] at h
  split at h
  case h_2 => cases h
  case h_1 q1 ci z u v hlk =>
  by_cases hin : 1048576 ≤ sh.length + 1
  case pos => rw [if_pos hin] at h; cases h
  rw [if_neg hin] at h
  cases h
  refine am_Nx.mk (fun v hv => hv) (fun p e R s m args below meth c H locs cells slots Q ls ws tys hF hE hO hst hc hs kk => ?_)
  have hcs : am_sc (.inl (ci, (P.2.2.2.1 ci).map am_new)) = (P.2.2.2.1 ci).length := by simp [am_sc]
  rw [hcs] at hs kk
  exact am_h_newO G hF hO hlk hin hc hs hdg (fun ws' H' locs' => kk ws' tys H' locs')
theorem am_hp_ok (G : am_G P X cl) {i : am_I} {mi pc n ix : Nat} {L : List (Option Value)} {st st' : List Value} {sh sh' : List am_C} {M M' : am_M} (h : am_hp P mi i st sh M = some (st', sh', M')) (hdg : decode (X.2.2.1 mi) pc = .ok (i, n)) (hn : am_len i = 0 ∨ n = am_len i) : am_Nx P X D cl ra A l mi pc L st sh M (pc + n) L st' sh' M' := by
  cases i
  case getfield ix => exact am_hp_get G h hdg hn
  case putfield ix => exact am_hp_put G h hdg hn
  case getstatic ix => exact am_hp_gets G h hdg hn
  case iaload => exact am_hp_iald (ix := 0) G h hdg hn
  case baload => exact am_hp_bald (ix := 0) G h hdg hn
  case aaload => exact am_hp_aald (ix := 0) G h hdg hn
  case iastore => exact am_hp_iast (ix := 0) G h hdg hn
  case bastore => exact am_hp_bast (ix := 0) G h hdg hn
  case aastore => exact am_hp_aast (ix := 0) G h hdg hn
  case arraylength => exact am_hp_alen (ix := 0) G h hdg hn
  case newarray at_ => exact am_hp_newa (ix := 0) G h hdg hn
  case anewarray ix => exact am_hp_newr G h hdg hn
  case new ix => exact am_hp_newo G h hdg hn
  all_goals (simp only [am_hp, reduceCtorEq] at h)
end AMS
end
section
/-! The small machine is sound: the other instructions -/
section AMT
variable {P : am_T} {X : am_X} {D : va_G} {cl : List vw_C} {ra : Nat → Nat} {A : Nat → Prop} {l : Launch}
theorem am_br_ap {α β : Type} (f : α → β) (c : Jvm.ClassFile.Cond) (x y : Int32) (a b : α) : am_br c x y (f a) (f b) = f (am_br c x y a b) := by
  cases c <;> simp only [am_br] <;> split <;> rfl
theorem am_br_pr {α : Type} (f : α → Prop) (c : Jvm.ClassFile.Cond) (x y : Int32) (a b : α) (h : f (am_br c x y a b)) : am_br c x y (f a) (f b) := by
  rw [am_br_ap f]
  exact h
theorem am_cat_sum {ra : Nat → Nat} {ws : va_W} : ∀ (r : List Value), (∀ v ∈ r, am_ok ws.length v) → ((r.map (am_tv ra ws)).map fun v => v.category).sum = r.length
  | [], _ => rfl
  | v :: r, h => by
    rw [List.map_cons, List.map_cons, List.sum_cons, am_cat_sum r (fun w hw => h w (List.mem_cons_of_mem _ hw)), am_tv_cat, (h v List.mem_cons_self).cat, List.length_cons]
    omega
theorem am_cal_nx (G : am_G P X cl) {mi pc ix ik : Nat} {i : am_I} {L L' : List (Option Value)} {st st' : List Value} {sh sh' : List am_C} {M M' : am_M} {pc' : Nat} (hi : (ik = 0 ∧ i = .invokevirtual ix) ∨ (ik = 1 ∧ i = .invokestatic ix) ∨ (ik = 2 ∧ i = .invokespecial ix)) (h : am_cal P mi pc ix ik L st sh M = some (.inr (.inl (pc', L', st', sh', M')))) (hdg : decode (X.2.2.1 mi) pc = .ok (i, 3)) : am_Nx P X D cl ra A l mi pc L st sh M pc' L' st' sh' M' := by
  unfold am_cal at h
  split at h
  case h_7 => cases h
  case h_1 q1 mj na kd ci hlk =>
    exfalso
    split at h
    · cases h
    split at h
    case h_2 => cases h
    case h_1 q2 as r hr =>
    split at h
    · cases h
    · cases h
  case h_2 q1 z u v w hlk =>
    by_cases hk : ik = 2
    case neg => rw [if_pos hk] at h; cases h
    rw [if_neg (fun q => q hk)] at h
    split at h
    case h_2 => cases h
    case h_1 q2 a r =>
    by_cases hr : 8 < r.length
    case pos => rw [if_pos hr] at h; cases h
    rw [if_neg hr] at h
    unfold am_nx at h
    cases h
    obtain ⟨g1, g2, g3, g4, g5⟩ := G.2.2.2.2.2.2.2.2.1 mi ix z u v w hlk
    have hi : i = .invokespecial ix := by
      rcases hi with ⟨e, -⟩ | ⟨e, -⟩ | ⟨-, e⟩
      · omega
      · omega
      · exact e
    subst hi
    refine am_Nx.same (fun p e R s m args below meth c H locs cells slots Q ls ws tys hF hE hO hL hst kk => ?_)
    obtain ⟨hx, hb, hml, -, -, hts, hown, -, hfr, hlo⟩ := hF
    have hst1 : ∀ v ∈ st', am_ok ws.length v := fun v hv => hst v (List.mem_cons_of_mem _ hv)
    refine W.objInit hx hb hown (hts _ g1) (hts _ g2) (hts _ g3) rfl (by rw [hml]; exact hL.1) rfl hdg (Nat.le_trans g4 hfr) ?_ (kk ls hL hst1)
    have h8 : 2 * (F0 m pc ls (st'.map (am_tv ra ws))).monitorRoom + ((st'.map (am_tv ra ws)).map fun v => v.category).sum ≤ 8 := lv_room (by rw [am_cat_sum st' hst1]; omega)
    exact Nat.le_trans (Nat.add_le_add_right h8 12) (Nat.le_trans g5 hlo)
  case h_3 q1 z u v w hlk =>
    by_cases hk : ik = 1
    case neg => rw [if_pos hk] at h; cases h
    rw [if_neg (fun q => q hk)] at h
    split at h
    case h_2 => cases h
    case h_1 q2 n dp a sp b r =>
    split at h
    case h_2 => cases h
    case h_1 q3 q4 ta na ga tb nb gb ha hb0 =>
    rw [am_nth_eq] at ha hb0
    split at h
    · cases h
    rename_i hcond
    simp only [not_or, Classical.not_not] at hcond
    obtain ⟨k1, k2, k3, k4, k5, k6, k7, k8⟩ := hcond
    unfold am_nx at h
    cases h
    obtain ⟨g1, g2, g3, g4, g5, g6⟩ := G.2.2.2.2.2.2.2.2.2.1 mi ix z u v w hlk
    have hi : i = .invokestatic ix := by
      rcases hi with ⟨e, -⟩ | ⟨-, e⟩ | ⟨e, -⟩
      · omega
      · exact e
      · omega
    subst hi
    subst k2
    subst k3
    refine ⟨⟨Nat.le_refl _, Nat.le_refl _⟩, fun p e R s m args below meth c H locs cells slots Q ls ws tys hF hE hO hL hst _ _ kk => ?_⟩
    have hst1 : ∀ v ∈ st', am_ok ws.length v := fun v hv => hst v (by simp [hv])
    obtain ⟨hx, hb, hml, -, -, hts, hown, -, hfr, hlo⟩ := hF
    obtain ⟨hW, hP, hD, hK, hS, hA⟩ := hO
    obtain ⟨a', ea, a1, cA, t0, a2⟩ := hW.2.2 a _ ha
    obtain ⟨b', eb, b1, cB, t1, b2⟩ := hW.2.2 b _ hb0
    rcases a2 with ⟨-, a3, rfl⟩ | ⟨a2, -, -⟩ | ⟨ci, r9, a2, -⟩
    rotate_left
    · dsimp only at a2; omega
    · dsimp only at a2; omega
    rcases b2 with ⟨-, b3, rfl⟩ | ⟨b2, -, -⟩ | ⟨ci, r9, b2, -⟩
    rotate_left
    · dsimp only at b2; omega
    · dsimp only at b2; omega
    show W p l e R s m args below meth c H locs cells slots Q (F0 m pc ls (.int n :: .int dp :: .ref (am_ad ra ws a) :: .int sp :: .ref (am_ad ra ws b) :: st'.map (am_tv ra ws)))
    rw [am_ad_at a1, am_ad_at b1]
    refine va_copyi (D := D) hx hb (by rw [hml]; exact hL.1.symm) hown (hts _ g1) (hts _ g2) (hts _ g3) (hts _ g4) hK hP hD hS b a t1 t0 b1 a1 b3 a3 rfl k4 k5 k6 (Nat.not_lt.mp k7) (Nat.not_lt.mp k8) (fun _ _ => rfl) (Nat.le_trans g5 hfr) ?_ hdg (fun H' locs' q1 q2 q3 => ?_)
    · rw [am_cat_sum st' hst1]
      omega
    obtain ⟨w1, w2⟩ := hW.put (M' := am_set M a (va_cpy (M b) (M a) sp.toNatClampNeg dp.toNatClampNeg n.toNatClampNeg)) (e := .inl (cA, na, .inl (va_cpy (M b) (M a) sp.toNatClampNeg dp.toNatClampNeg n.toNatClampNeg))) ha a1 (by
      rw [am_set_s]
      exact ⟨cA, t0, Or.inl ⟨rfl, a3, rfl⟩⟩) (fun q hq => am_set_n M _ hq)
    have := kk _ tys H' locs' ls ⟨w1, q1, q2, hK, q3, hA⟩ w2 (hL.ex w2) (fun v hv => (hst1 v hv).mono w2.1)
    rwa [Nat.sub_self, Nat.sub_self, Nat.add_zero, Nat.add_zero, w2.tvs hst1] at this
  case h_4 q1 z u v w hlk =>
    by_cases hk : ik = 1
    case neg => rw [if_pos hk] at h; cases h
    rw [if_neg (fun q => q hk)] at h
    split at h
    case h_2 => cases h
    case h_1 q2 y x r =>
    by_cases hr : 8 < r.length
    case pos => rw [if_pos hr] at h; cases h
    rw [if_neg hr] at h
    unfold am_nx at h
    cases h
    obtain ⟨g1, g2, g3, g7, g8, g9⟩ := G.2.2.2.2.2.2.2.2.2.2 mi ix 7 z u v w hlk (by decide) (by decide)
    obtain ⟨k1, k2, k3⟩ := g7 rfl
    have hi : i = .invokestatic ix := by
      rcases hi with ⟨e, -⟩ | ⟨-, e⟩ | ⟨e, -⟩
      · omega
      · exact e
      · omega
    subst hi
    refine ⟨⟨Nat.le_refl _, Nat.le_refl _⟩, fun p e R s m args below meth c H locs cells slots Q ls ws tys hF hE hO hL hst hcc hss kk => ?_⟩
    obtain ⟨hx, hb, hml, -, -, hts, hown, -, hfr, hlo⟩ := hF
    have hst1 : ∀ v ∈ r, am_ok ws.length v := fun v hv => hst v (List.mem_cons_of_mem _ (List.mem_cons_of_mem _ hv))
    rw [Nat.sub_self, Nat.add_zero] at hcc hss
    have key := kk ws tys H locs ls hO (am_ex.rf (by rw [hO.1.1]; exact hO.1.2.1)) hL (fun v hv => by
      rcases List.mem_cons.mp hv with rfl | hv
      · trivial
      · exact hst1 v hv)
    rw [Nat.sub_self, Nat.sub_self, Nat.add_zero, Nat.add_zero] at key
    have h8 : ((r.map (am_tv ra ws)).map fun v => v.category).sum ≤ 8 := by
      rw [am_cat_sum r hst1]
      omega
    exact va_mmax hx hb (by rw [hml]; exact hL.1.symm) hown (hts _ k1) (hts _ k2) (hts _ g1) (hts _ k3) (Nat.le_trans g2 hfr) (by omega) hcc hss hdg key
  case h_5 q1 z u v w hlk =>
    by_cases hk : ik = 1
    case neg => rw [if_pos hk] at h; cases h
    rw [if_neg (fun q => q hk)] at h
    split at h
    case h_2 => cases h
    case h_1 q2 y x r =>
    by_cases hr : 8 < r.length
    case pos => rw [if_pos hr] at h; cases h
    rw [if_neg hr] at h
    unfold am_nx at h
    cases h
    obtain ⟨g1, g2, g3, g7, g8, g9⟩ := G.2.2.2.2.2.2.2.2.2.2 mi ix 8 z u v w hlk (by decide) (by decide)
    obtain ⟨k1, k2, k3⟩ := g8 rfl
    have hi : i = .invokestatic ix := by
      rcases hi with ⟨e, -⟩ | ⟨-, e⟩ | ⟨e, -⟩
      · omega
      · exact e
      · omega
    subst hi
    refine ⟨⟨Nat.le_refl _, Nat.le_refl _⟩, fun p e R s m args below meth c H locs cells slots Q ls ws tys hF hE hO hL hst hcc hss kk => ?_⟩
    obtain ⟨hx, hb, hml, -, -, hts, hown, -, hfr, hlo⟩ := hF
    have hst1 : ∀ v ∈ r, am_ok ws.length v := fun v hv => hst v (List.mem_cons_of_mem _ (List.mem_cons_of_mem _ hv))
    rw [Nat.sub_self, Nat.add_zero] at hcc hss
    have key := kk ws tys H locs ls hO (am_ex.rf (by rw [hO.1.1]; exact hO.1.2.1)) hL (fun v hv => by
      rcases List.mem_cons.mp hv with rfl | hv
      · trivial
      · exact hst1 v hv)
    rw [Nat.sub_self, Nat.sub_self, Nat.add_zero, Nat.add_zero] at key
    have h8 : ((r.map (am_tv ra ws)).map fun v => v.category).sum ≤ 8 := by
      rw [am_cat_sum r hst1]
      omega
    exact va_mmin hx hb (by rw [hml]; exact hL.1.symm) hown (hts _ k1) (hts _ k2) (hts _ g1) (hts _ k3) (Nat.le_trans g2 hfr) (by omega) hcc hss hdg key
  case h_6 q1 z u v w hlk =>
    by_cases hk : ik = 1
    case neg => rw [if_pos hk] at h; cases h
    rw [if_neg (fun q => q hk)] at h
    split at h
    case h_2 => cases h
    case h_1 q2 y x r =>
    by_cases hr : 8 < r.length ∨ ¬ y = 16 ∨ x < 0
    case pos => rw [if_pos hr] at h; cases h
    rw [if_neg hr] at h
    unfold am_nx at h
    cases h
    obtain ⟨g1, g2, g3, g7, g8, g9⟩ := G.2.2.2.2.2.2.2.2.2.2 mi ix 9 z u v w hlk (by decide) (by decide)
    obtain ⟨k1, k2, k3⟩ := g9 rfl
    have hi : i = .invokestatic ix := by
      rcases hi with ⟨e, -⟩ | ⟨-, e⟩ | ⟨e, -⟩
      · omega
      · exact e
      · omega
    subst hi
    refine ⟨⟨Nat.le_refl _, Nat.le_refl _⟩, fun p e R s m args below meth c H locs cells slots Q ls ws tys hF hE hO hL hst hcc hss kk => ?_⟩
    obtain ⟨hx, hb, hml, -, -, hts, hown, -, hfr, hlo⟩ := hF
    have hst1 : ∀ v ∈ r, am_ok ws.length v := fun v hv => hst v (List.mem_cons_of_mem _ (List.mem_cons_of_mem _ hv))
    rw [Nat.sub_self, Nat.add_zero] at hcc hss
    have key := kk ws tys H locs ls hO (am_ex.rf (by rw [hO.1.1]; exact hO.1.2.1)) hL (fun v hv => by
      rcases List.mem_cons.mp hv with rfl | hv
      · trivial
      · exact hst1 v hv)
    rw [Nat.sub_self, Nat.sub_self, Nat.add_zero, Nat.add_zero] at key
    have h8 : ((r.map (am_tv ra ws)).map fun v => v.category).sum ≤ 8 := by
      rw [am_cat_sum r hst1]
      omega
    have hy : y = 16 := Classical.not_not.mp (fun q => hr (Or.inr (Or.inl q)))
    subst hy
    have hx0 : 0 ≤ x := Int32.not_lt.mp (fun q => hr (Or.inr (Or.inr q)))
    exact fm_call hx hb (by rw [hml]; exact hL.1.symm) hown (hts _ k1) (hts _ k2) (hts _ g1) (hts _ k3) (Nat.le_trans g2 hfr) (by omega) hcc hss hx0 hdg key
theorem am_oth_nx (G : am_G P X cl) {mi pc n : Nat} {i : am_I} {L L' : List (Option Value)} {st st' : List Value} {sh sh' : List am_C} {M M' : am_M} {pc' : Nat} (h : am_oth P mi pc i L st sh M = some (.inr (.inl (pc', L', st', sh', M')))) (hdg : decode (X.2.2.1 mi) pc = .ok (i, n)) (hn : am_len i = 0 ∨ n = am_len i) : am_Nx P X D cl ra A l mi pc L st sh M pc' L' st' sh' M' := by
  cases i
  case ifCond cn off =>
    have hn : n = 3 := am_len1 (k := 3) (by decide) hn
    subst hn
    simp only [am_oth] at h
    split at h
    case h_2 => cases h
    case h_1 q1 q2 x r t ht =>
    unfold am_nx at h
    cases h
    refine am_Nx.same (fun p e R s m args below meth c H locs cells slots Q ls ws tys hF hE hO hL hst kk => ?_)
    exact am_w_if1 hF.1 hF.2.1 ht hdg (am_br_pr (fun pc1 => W p l e R s m args below meth c H locs cells slots Q (F0 m pc1 ls (st'.map (am_tv ra ws)))) cn x 0 t (pc + 3) (kk ls hL (fun v hv => hst v (List.mem_cons_of_mem _ hv))))
  case if_icmp cn off =>
    have hn : n = 3 := am_len1 (k := 3) (by decide) hn
    subst hn
    simp only [am_oth] at h
    split at h
    case h_2 => cases h
    case h_1 q1 q2 y x r t ht =>
    unfold am_nx at h
    cases h
    refine am_Nx.same (fun p e R s m args below meth c H locs cells slots Q ls ws tys hF hE hO hL hst kk => ?_)
    exact am_w_if2 hF.1 hF.2.1 ht hdg (am_br_pr (fun pc1 => W p l e R s m args below meth c H locs cells slots Q (F0 m pc1 ls (st'.map (am_tv ra ws)))) cn x y t (pc + 3) (kk ls hL (fun v hv => hst v (List.mem_cons_of_mem _ (List.mem_cons_of_mem _ hv)))))
  case goto off =>
    have hn : n = 3 := am_len1 (k := 3) (by decide) hn
    subst hn
    simp only [am_oth] at h
    split at h
    case h_2 => cases h
    case h_1 q1 t ht =>
    unfold am_nx at h
    cases h
    refine am_Nx.same (fun p e R s m args below meth c H locs cells slots Q ls ws tys hF hE hO hL hst kk => ?_)
    exact lv_goto hF.1 hF.2.1 hdg (am_tg_eq ht) (kk ls hL hst)
  case ineg =>
    have hn : n = 1 := am_len1 (k := 1) (by decide) hn
    subst hn
    simp only [am_oth] at h
    split at h
    case h_2 => cases h
    case h_1 q1 x r =>
    unfold am_nx at h
    cases h
    refine am_Nx.same (fun p e R s m args below meth c H locs cells slots Q ls ws tys hF hE hO hL hst kk => ?_)
    exact lv_ineg hF.1 hF.2.1 hdg (kk ls hL (fun v hv => by
      rcases List.mem_cons.mp hv with rfl | hv
      · trivial
      · exact hst v (List.mem_cons_of_mem _ hv)))
  case iinc j z =>
    have hn : n = 3 := am_len1 (k := 3) (by decide) hn
    subst hn
    simp only [am_oth] at h
    split at h
    case h_2 => cases h
    case h_1 q1 x hg =>
    by_cases hj : j < L.length
    case neg => rw [if_neg hj] at h; cases h
    rw [if_pos hj] at h
    unfold am_nx at h
    cases h
    refine am_Nx.same (fun p e R s m args below meth c H locs cells slots Q ls ws tys hF hE hO hL hst kk => ?_)
    have hmem : (j, Value.int x) ∈ am_pr ra ws 0 L := (am_pr_mem L 0 _).mpr ⟨j, .int x, by
      unfold am_get at hg
      rw [am_nth_eq] at hg
      cases hLj : L[j]? with
      | none => rw [hLj] at hg; cases hg
      | some o => rw [hLj] at hg; cases hg; rfl, by rw [Nat.zero_add]; rfl⟩
    obtain ⟨k, hk⟩ := List.getElem?_of_mem hmem
    exact lv_iinc hF.1 hF.2.1 hdg hL.has hk rfl (by rw [← hL.2.2.1]; exact hj) rfl (fun ls' hl' => kk ls' (hL.store (x := .int (x + Int32.ofInt z)) trivial hl') hst)
  case tableswitch dflt lo hi offs =>
    simp only [am_oth] at h
    split at h
    case h_2 => cases h
    case h_1 q1 x r =>
    split at h
    case h_2 => cases h
    case h_1 q2 t ht =>
    unfold am_nx at h
    cases h
    refine am_Nx.same (fun p e R s m args below meth c H locs cells slots Q ls ws tys hF hE hO hL hst kk => ?_)
    exact am_w_sw hF.1 hF.2.1 ht hdg (kk ls hL (fun v hv => hst v (List.mem_cons_of_mem _ hv)))
  case lookupswitch dflt ps =>
    simp only [am_oth] at h
    split at h
    case h_2 => cases h
    case h_1 q1 x r =>
    split at h
    case h_2 => cases h
    case h_1 q2 t ht =>
    unfold am_nx at h
    cases h
    refine am_Nx.same (fun p e R s m args below meth c H locs cells slots Q ls ws tys hF hE hO hL hst kk => ?_)
    exact am_w_sw hF.1 hF.2.1 ht hdg (kk ls hL (fun v hv => hst v (List.mem_cons_of_mem _ hv)))
  case invokevirtual ix =>
    have hn : n = 3 := am_len1 (k := 3) (by decide) hn
    subst hn
    exact am_cal_nx G (Or.inl ⟨rfl, rfl⟩) h hdg
  case invokestatic ix =>
    have hn : n = 3 := am_len1 (k := 3) (by decide) hn
    subst hn
    exact am_cal_nx G (Or.inr (Or.inl ⟨rfl, rfl⟩)) h hdg
  case invokespecial ix =>
    have hn : n = 3 := am_len1 (k := 3) (by decide) hn
    subst hn
    exact am_cal_nx G (Or.inr (Or.inr ⟨rfl, rfl⟩)) h hdg
  case ireturn =>
    simp only [am_oth] at h
    split at h
    case h_2 => cases h
    case h_1 =>
    split at h
    · cases h
    · cases h
  case areturn =>
    simp only [am_oth] at h
    split at h
    case h_2 => cases h
    case h_1 => cases h
  case return_ =>
    simp only [am_oth] at h
    split at h
    case h_2 => cases h
    case h_1 => cases h
  all_goals (simp only [am_oth, reduceCtorEq] at h)
theorem am_dup_sub {i : am_I} {st st' : List Value} (hg : am_dup i st = some st') : ∀ v ∈ st', v ∈ st := by
  cases i <;> simp only [am_dup, reduceCtorEq] at hg
  case dup =>
    match st, hg with
    | v :: r, hg => cases hg; intro u hu; simp at hu ⊢; exact hu
  case pop =>
    match st, hg with
    | v :: r, hg => cases hg; intro u hu; exact List.mem_cons_of_mem _ hu
  case dup_x1 =>
    match st, hg with
    | v :: w :: r, hg => cases hg; intro u hu; simp at hu ⊢; rcases hu with h | h | h | h <;> simp [h]
  case dup_x2 =>
    match st, hg with
    | v :: w :: x :: r, hg => cases hg; intro u hu; simp at hu ⊢; rcases hu with h | h | h | h | h <;> simp [h]
  case dup2 =>
    match st, hg with
    | v :: w :: r, hg => cases hg; intro u hu; simp at hu ⊢; rcases hu with h | h | h | h | h <;> simp [h]
theorem am_ins_nx (G : am_G P X cl) {mi pc n : Nat} {i : am_I} {L L' : List (Option Value)} {st st' : List Value} {sh sh' : List am_C} {M M' : am_M} {pc' : Nat} (h : am_ins P mi pc i n L st sh M = some (.inr (.inl (pc', L', st', sh', M')))) (hdg : decode (X.2.2.1 mi) pc = .ok (i, n)) (hn : am_len i = 0 ∨ n = am_len i) : am_Nx P X D cl ra A l mi pc L st sh M pc' L' st' sh' M' := by
  unfold am_ins at h
  split at h
  case h_1 q1 g hg =>
    split at h
    case h_2 => cases h
    case h_1 q2 y x r =>
    split at h
    case h_2 => cases h
    case h_1 q3 z hz =>
    unfold am_nx at h
    cases h
    refine am_Nx.same (fun p e R s m args below meth c H locs cells slots Q ls ws tys hF hE hO hL hst kk => ?_)
    exact am_w_bin hF.1 hF.2.1 hg hz hdg hn (kk ls hL (fun v hv => by
      rcases List.mem_cons.mp hv with rfl | hv
      · trivial
      · exact hst v (List.mem_cons_of_mem _ (List.mem_cons_of_mem _ hv))))
  split at h
  case h_1 q2 v hg =>
    unfold am_nx at h
    cases h
    refine am_Nx.same (fun p e R s m args below meth c H locs cells slots Q ls ws tys hF hE hO hL hst kk => ?_)
    have hint : ∃ z, v = .int z := by
      cases i <;> simp only [am_psh, reduceCtorEq, Option.some.injEq] at hg
      · exact ⟨_, hg.symm⟩
      · exact ⟨_, hg.symm⟩
      · split at hg
        · cases hg; exact ⟨_, rfl⟩
        · cases hg
      · exact ⟨_, hg.symm⟩
    obtain ⟨z, rfl⟩ := hint
    exact (am_w_psh hF.1 hF.2.1 hF.2.2.2.2.2.2.1 (fun ix z hz => hF.2.2.2.2.2.1 _ (G.2.2.2.2.1.2.2.2.2 mi ix z hz)) hg hdg hn (kk ls hL (fun v hv => by
      rcases List.mem_cons.mp hv with rfl | hv
      · trivial
      · exact hst v hv))).2
  split at h
  case h_1 q3 j hg =>
    split at h
    case h_2 => cases h
    case h_1 q4 x hx =>
    unfold am_nx at h
    cases h
    refine am_Nx.same (fun p e R s m args below meth c H locs cells slots Q ls ws tys hF hE hO hL hst kk => ?_)
    exact am_w_ldi hF.1 hF.2.1 hg (hL.get hx).1 hdg hn (kk ls hL (fun v hv => by
      rcases List.mem_cons.mp hv with rfl | hv
      · trivial
      · exact hst v hv))
  split at h
  case h_1 q4 j hg =>
    split at h
    case h_2 => cases h
    case h_1 q5 a hx =>
    unfold am_nx at h
    cases h
    refine am_Nx.same (fun p e R s m args below meth c H locs cells slots Q ls ws tys hF hE hO hL hst kk => ?_)
    exact am_w_lda hF.1 hF.2.1 hg (hL.get hx).1 hdg hn (kk ls hL (fun v hv => by
      rcases List.mem_cons.mp hv with rfl | hv
      · exact (hL.get hx).2
      · exact hst v hv))
  split at h
  case h_1 q5 j hg =>
    split at h
    case h_2 => cases h
    case h_1 q6 x r =>
    by_cases hj : j < L.length
    case neg => rw [if_neg hj] at h; cases h
    rw [if_pos hj] at h
    unfold am_nx at h
    cases h
    refine am_Nx.same (fun p e R s m args below meth c H locs cells slots Q ls ws tys hF hE hO hL hst kk => ?_)
    exact am_w_sti hF.1 hF.2.1 hg hL.has (by rw [← hL.2.2.1]; exact hj) hdg hn (fun ls' hl' => kk ls' (hL.store (x := .int x) trivial hl') (fun v hv => hst v (List.mem_cons_of_mem _ hv)))
  split at h
  case h_1 q6 j hg =>
    split at h
    case h_2 => cases h
    case h_1 q7 a r =>
    by_cases hj : j < L.length
    case neg => rw [if_neg hj] at h; cases h
    rw [if_pos hj] at h
    unfold am_nx at h
    cases h
    refine am_Nx.same (fun p e R s m args below meth c H locs cells slots Q ls ws tys hF hE hO hL hst kk => ?_)
    exact am_w_sta hF.1 hF.2.1 hg hL.has (by rw [← hL.2.2.1]; exact hj) hdg hn (fun ls' hl' => kk ls' (hL.store (x := .ref a) (hst _ List.mem_cons_self) hl') (fun v hv => hst v (List.mem_cons_of_mem _ hv)))
  split at h
  case h_1 q7 st1 hg =>
    unfold am_nx at h
    cases h
    refine am_Nx.same (fun p e R s m args below meth c H locs cells slots Q ls ws tys hF hE hO hL hst kk => ?_)
    have hok : ∀ v ∈ st', am_ok ws.length v := fun v hv => hst v (am_dup_sub hg v hv)
    exact (am_w_dup hF.1 hF.2.1 hg hst hdg hn (kk ls hL hok)).2
  split at h
  case h_1 q8 st1 sh1 M1 hg =>
    unfold am_nx at h
    cases h
    exact am_hp_ok (ix := 0) G hg hdg hn
  exact am_oth_nx G h hdg hn
end AMT
end
section
/-! The small machine is sound: calls, returns, whole runs -/
section AMU
variable {P : am_T} {X : am_X} {D : va_G} {cl : List vw_C} {ra : Nat → Nat} {A : Nat → Prop} {l : Launch}
/-- the ways in which a method of the small machine returns -/
def am_Rt (X : am_X) (mi : Nat) (meth : Method) (r : Option Value) (pc : Nat) : Prop :=
  (r = none ∧ meth.sig.returnType = none ∧ decode (X.2.2.1 mi) pc = .ok (.return_, 1)) ∨ (∃ (x : Int32) (ty : FieldType), r = some (.int x) ∧ meth.sig.returnType = some ty ∧ am_fit ty x = true ∧ decode (X.2.2.1 mi) pc = .ok (.ireturn, 1)) ∨ (∃ (a : Nat) (nm : String), r = some (.ref a) ∧ meth.sig.returnType = some (.object nm) ∧ decode (X.2.2.1 mi) pc = .ok (.areturn, 1))
/-- from a state of the small machine the real one comes to the method's return, with the answer r, the cells sh' and the memory M' -/
def am_Go (P : am_T) (X : am_X) (D : va_G) (cl : List vw_C) (ra : Nat → Nat) (A : Nat → Prop) (l : Launch) (mi pc : Nat) (L : List (Option Value)) (st : List Value) (sh : List am_C) (M : am_M) (r : Option Value) (sh' : List am_C) (M' : am_M) : Prop :=
  (sh.length ≤ sh'.length ∧ am_sz sh ≤ am_sz sh') ∧ ∀ (p : Program) (e : Env) (R : Room) (s : State) (m : MethodId) (args : Array Value) (below : List Frame) (meth : Method) (c : Code) (H : Heap) (locs : List Loc) (cells slots : Nat) (Q : State → Prop) (ls : Array Slot) (ws : va_W) (tys : List (ClassId × FieldType)),
    am_F P X mi p R s m args meth c → am_E P X ra A s s.heap → am_Wo D cl ra A s H locs ws tys sh M → am_L ra ws (P.2.2.2.2.2.1 mi) L ls → (∀ v ∈ st, am_ok ws.length v) → cells + (sh'.length - sh.length) ≤ R.cells → slots + (am_sz sh' - am_sz sh) ≤ R.slots →
    (∀ (ws' : va_W) (tys' : List (ClassId × FieldType)) (H' : Heap) (locs' : List Loc) (pc' : Nat) (ls' : Array Slot), am_Wo D cl ra A s H' locs' ws' tys' sh' M' → am_ex ra ws ws' → (∀ v ∈ r.toList, am_ok ws'.length v) → am_Rt X mi meth r pc' →
      W p l e R s m args below meth c H' locs' (cells + (sh'.length - sh.length)) (slots + (am_sz sh' - am_sz sh)) Q (F0 m pc' ls' (r.toList.map (am_tv ra ws')))) →
    W p l e R s m args below meth c H locs cells slots Q (F0 m pc ls (st.map (am_tv ra ws)))
def am_Sd (P : am_T) (X : am_X) (D : va_G) (cl : List vw_C) (ra : Nat → Nat) (A : Nat → Prop) (l : Launch) (K : am_K) : Prop :=
  ∀ (mi pc : Nat) (L : List (Option Value)) (st : List Value) (sh : List am_C) (M : am_M) (r : Option Value) (sh' : List am_C) (M' : am_M), K mi pc L st sh M = some (r, sh', M') → am_Go P X D cl ra A l mi pc L st sh M r sh' M'
theorem am_Go.nx {mi pc pc' : Nat} {L L' : List (Option Value)} {st st' : List Value} {sh sh1 sh' : List am_C} {M M1 M' : am_M} {r : Option Value} (hN : am_Nx P X D cl ra A l mi pc L st sh M pc' L' st' sh1 M1) (hG : am_Go P X D cl ra A l mi pc' L' st' sh1 M1 r sh' M') : am_Go P X D cl ra A l mi pc L st sh M r sh' M' := by
  obtain ⟨⟨n1, n2⟩, hN⟩ := hN
  obtain ⟨⟨m1, m2⟩, hG⟩ := hG
  refine ⟨⟨Nat.le_trans n1 m1, Nat.le_trans n2 m2⟩, fun p e R s m args below meth c H locs cells slots Q ls ws tys hF hE hO hL hst hc hs kk => ?_⟩
  refine hN p e R s m args below meth c H locs cells slots Q ls ws tys hF hE hO hL hst (by omega) (by omega) (fun ws1 tys1 H1 locs1 ls1 hO1 hx1 hL1 hst1 => ?_)
  refine hG p e R s m args below meth c H1 locs1 (cells + (sh1.length - sh.length)) (slots + (am_sz sh1 - am_sz sh)) Q ls1 ws1 tys1 hF hE hO1 hL1 hst1 (by omega) (by omega) (fun ws' tys' H' locs' pc2 ls' hO' hx' hok hrt => ?_)
  have := kk ws' tys' H' locs' pc2 ls' hO' (hx1.tr hx') hok hrt
  rwa [show cells + (sh'.length - sh.length) = cells + (sh1.length - sh.length) + (sh'.length - sh1.length) by omega, show slots + (am_sz sh' - am_sz sh) = slots + (am_sz sh1 - am_sz sh) + (am_sz sh' - am_sz sh1) by omega] at this
theorem am_Go.ret {mi pc : Nat} {L : List (Option Value)} {sh : List am_C} {M : am_M} {r : Option Value} (hr : ∀ meth : Method, meth.sig.returnType = P.2.2.2.2.1 mi → am_Rt X mi meth r pc) : am_Go P X D cl ra A l mi pc L r.toList sh M r sh M := by
  refine ⟨⟨Nat.le_refl _, Nat.le_refl _⟩, fun p e R s m args below meth c H locs cells slots Q ls ws tys hF hE hO hL hst hc hs kk => ?_⟩
  have := kk ws tys H locs pc ls hO (am_ex.rf (by rw [hO.1.1]; exact hO.1.2.1)) hst (hr meth hF.2.2.2.1)
  rwa [Nat.sub_self, Nat.sub_self, Nat.add_zero, Nat.add_zero] at this
theorem am_E.moved (G : am_G P X cl) {u U : State} {H H' : Heap} (h : am_E P X ra A u H) (hW : u.WarmedH U.vm) (hs : H.size ≤ H'.size) (hq : ∀ q : Nat, q < H.size → ¬ A q → H'[q]? = H[q]?) : am_E P X ra A U H' := by
  obtain ⟨h1, h2, h3, h4⟩ := h
  refine ⟨fun w hw => ?_, fun j hj C n d e1 e2 => ((h2 j hj C n d e1 e2).moved hW.alike).kept hq, fun k n f hk => ((h3 k n f hk).moved hW.alike).kept hq, fun C hC => (h4 C hC).moved hW.alike⟩
  · have h5 := h1 w hw
    rcases G.2.2.2.2.2.2.1 w hw with ⟨a, i, b, n, d, hh, rfl⟩ | ⟨a, i, x, hh, rfl⟩
    · exact h5.warmF hW
    · exact h5.warmM hW
theorem am_E.same (G : am_G P X cl) {u U : State} {H : Heap} (h : am_E P X ra A u H) (hv : u.vm = U.vm) : am_E P X ra A U H := by
  obtain ⟨h1, h2, h3, h4⟩ := h
  have ha : u.vm.Alike U.vm := by rw [hv]; exact Vm.Alike.refl _
  refine ⟨fun w hw => ?_, fun j hj C n d e1 e2 => (h2 j hj C n d e1 e2).moved ha, fun k n f hk => (h3 k n f hk).moved ha, fun C hC => (h4 C hC).moved ha⟩
  · have h5 := h1 w hw
    rcases G.2.2.2.2.2.2.1 w hw with ⟨a, i, b, n, d, hh, rfl⟩ | ⟨a, i, x, hh, rfl⟩
    · exact h5.same rfl hv
    · exact h5.same rfl hv
/-- a callee's start and end -/
def am_Pc (P : am_T) (X : am_X) (D : va_G) (cl : List vw_C) (ra : Nat → Nat) (A : Nat → Prop) (ws : va_W) (tys : List (ClassId × FieldType)) (H : Heap) (as : List Value) : Array Value → State → Prop := fun v U => v = (as.map (am_tv ra ws)).toArray ∧ U.heap = H ∧ va_K D cl tys U ∧ am_E P X ra A U H
def am_Qc (D : va_G) (cl : List vw_C) (ra : Nat → Nat) (A : Nat → Prop) (ws : va_W) (H : Heap) (r : Option Value) (sh : List am_C) (M : am_M) : Array Value → State → Outcome → State → Prop := fun _ _ oc t =>
  ∃ (ws1 : va_W) (tys1 : List (ClassId × FieldType)), oc = .returned (r.map (am_tv ra ws1)) ∧ am_W cl ra ws1 tys1 sh M ∧ am_ex ra ws ws1 ∧ va_P D cl ws1 t.heap ∧ va_D A ws1 ∧ va_K D cl tys1 t ∧ H.size ≤ t.heap.size ∧ (∀ q : Nat, q < H.size → ¬ A q → t.heap[q]? = H[q]?) ∧ ∀ v ∈ r.toList, am_ok ws1.length v
theorem am_met (G : am_G P X cl) {mj : Nat} {as : List Value} {sh sh1 : List am_C} {M M1 : am_M} {rv : Option Value} {H : Heap} {ws : va_W} {tys : List (ClassId × FieldType)} (hy : plainName (X.2.2.2.1 mj).cls = true) (hn : ¬ P.2.2.2.2.2.1 mj < as.length)
    (hG : am_Go P X D cl ra A l mj 0 (am_ent (P.2.2.2.2.2.1 mj) as) [] sh M rv sh1 M1) (hW : am_W cl ra ws tys sh M) (hP : va_P D cl ws H) (hD : va_D A ws) (hA : ∀ q, H.size ≤ q → A q) (hok : ∀ v ∈ as, am_ok ws.length v) :
    Met l (X.2.2.2.1 mj) (Cond.code (X.2.2.2.1 mj) (X.2.2.1 mj) (P.2.2.2.2.2.1 mj) (P.2.2.2.2.1 mj) :: X.1) { frames := X.2.2.2.2.2.2.1 mj, cells := sh1.length - sh.length, slots := am_sz sh1 - am_sz sh, locals := X.2.2.2.2.2.2.2 mj } (am_Pc P X D cl ra A ws tys H as) (am_Qc D cl ra A ws H rv sh1 M1) (sh1.length - sh.length) (am_sz sh1 - am_sz sh) A := by
  refine Met.ofW (cc := X.2.2.1 mj) (maxL := P.2.2.2.2.2.1 mj) (ret := P.2.2.2.2.1 mj) hy rfl ?_
  intro p e s m args below meth c s₁ B hml hv
  obtain ⟨rfl, rfl, hK, hE⟩ := hv
  have hts := atoms_spec (ws := Cond.code (X.2.2.2.1 mj) (X.2.2.1 mj) (P.2.2.2.2.2.1 mj) (P.2.2.2.2.1 mj) :: X.1) B.pre
  have hF : am_F P X mj p { frames := X.2.2.2.2.2.2.1 mj, cells := sh1.length - sh.length, slots := am_sz sh1 - am_sz sh, locals := X.2.2.2.2.2.2.2 mj } s m (as.map (am_tv ra ws)).toArray meth c :=
    ⟨B.exec, B.bytes, hml, B.returns, B.notSynchronized, fun w hw => hts w (List.mem_cons_of_mem _ hw), findClass_of_methodNamed B.named, fun h => (name_of_methodNamed B.named B.method).1.trans h, Nat.le_refl _, Nat.le_refl _⟩
  have hcat : ∀ v ∈ as.map (am_tv ra ws), v.category = 1 := fun v hv => by
    obtain ⟨u, hu, rfl⟩ := List.mem_map.mp hv
    rw [am_tv_cat]
    exact (hok u hu).cat
  have hl := lv_entry (as.map (am_tv ra ws)) (n := P.2.2.2.2.2.1 mj) (by rw [am_sl_len _ hcat, List.length_map]; omega)
  rw [lg_entry_eq]
  generalize (lg_sl (as.map (am_tv ra ws)) ++ List.replicate (P.2.2.2.2.2.1 mj - (lg_sl (as.map (am_tv ra ws))).length) Slot.unset).toArray = ls at hl ⊢
  have hL : am_L ra ws (P.2.2.2.2.2.1 mj) (am_ent (P.2.2.2.2.2.1 mj) as) ls := am_L.entry hn hok hl
  have hO : am_Wo D cl ra A s s.heap [] ws tys sh M := ⟨hW, hP, hD, hK, va_S.rf, hA⟩
  refine hG.2 p e { frames := X.2.2.2.2.2.2.1 mj, cells := sh1.length - sh.length, slots := am_sz sh1 - am_sz sh, locals := X.2.2.2.2.2.2.2 mj } s m (as.map (am_tv ra ws)).toArray below meth c s.heap [] 0 0 (MQ below (am_Qc D cl ra A ws s.heap rv sh1 M1) (as.map (am_tv ra ws)).toArray s (sh1.length - sh.length) (am_sz sh1 - am_sz sh) A) ls ws tys hF hE hO hL (fun v hv => by cases hv) (by rw [Nat.zero_add]; exact Nat.le_refl _) (by rw [Nat.zero_add]; exact Nat.le_refl _) (fun ws' tys' H' locs' pc' ls' hO' hx' hok' hrt => ?_)
  rw [Nat.zero_add, Nat.zero_add]
  obtain ⟨w1, w2, w3, w4, w5, w6⟩ := hO'
  have fin : ∀ t : State, t.heap = H' → s.WarmedH t.vm → am_Qc D cl ra A ws s.heap rv sh1 M1 (as.map (am_tv ra ws)).toArray s (.returned (rv.map (am_tv ra ws'))) t := fun t ht hWm =>
    ⟨ws', tys', rfl, w1, hx', by rw [ht]; exact w2, w3, va_K.moved hWm.alike w4, by rw [ht]; exact w5.1, fun q q1 q2 => by rw [ht]; exact w5.2.1 q q1 q2, hok'⟩
  rcases hrt with ⟨rfl, r1, r2⟩ | ⟨x, ty, rfl, r1, r2, r3⟩ | ⟨a, nm, rfl, r1, r2⟩
  · exact W.vret hF.1 hF.2.1 r1 fin w5.2.2 r2 hF.2.2.2.2.1
  · exact W.zret hF.1 hF.2.1 r1 (am_fit_n r2).1 fin w5.2.2 r3 hF.2.2.2.2.1
  · exact W.aret (v := .ref (am_ad ra ws' a)) hF.1 hF.2.1 r1 (Or.inl ⟨nm, rfl⟩) (Or.inr ⟨_, rfl⟩) fin w5.2.2 r2 hF.2.2.2.2.1
/-- behind a call -/
theorem am_Go.back {mi pc : Nat} {L : List (Option Value)} {rest : List Value} {sh sh1 sh' : List am_C} {M1 M' : am_M} {rv r : Option Value} (hG : am_Go P X D cl ra A l mi (pc + 3) L (rv.toList ++ rest) sh1 M1 r sh' M') (hm : sh.length ≤ sh1.length ∧ am_sz sh ≤ am_sz sh1)
    {p : Program} {e : Env} {R : Room} {s : State} {m : MethodId} {args : Array Value} {below : List Frame} {meth : Method} {c : Code} {H : Heap} {locs : List Loc} {cells slots : Nat} {Q : State → Prop} {ls : Array Slot} {ws : va_W} {tys : List (ClassId × FieldType)} {a : Array Value} {st0 : List Value}
    (hF : am_F P X mi p R s m args meth c) (hE : am_E P X ra A s s.heap) (hlw : ws.length ≤ 1048576) (hS : va_S A s.heap H locs) (hA : ∀ q, s.heap.size ≤ q → A q) (hL : am_L ra ws (P.2.2.2.2.2.1 mi) L ls) (hst : ∀ v ∈ rest, am_ok ws.length v) (hc : cells + (sh'.length - sh.length) ≤ R.cells) (hs : slots + (am_sz sh' - am_sz sh) ≤ R.slots)
    (kk : ∀ (ws' : va_W) (tys' : List (ClassId × FieldType)) (H' : Heap) (locs' : List Loc) (pc' : Nat) (ls' : Array Slot), am_Wo D cl ra A s H' locs' ws' tys' sh' M' → am_ex ra ws ws' → (∀ v ∈ r.toList, am_ok ws'.length v) → am_Rt X mi meth r pc' →
      W p l e R s m args below meth c H' locs' (cells + (sh'.length - sh.length)) (slots + (am_sz sh' - am_sz sh)) Q (F0 m pc' ls' (r.toList.map (am_tv ra ws'))))
    (run : va_Run p l e R s m args below meth c H locs cells slots (sh1.length - sh.length) (am_sz sh1 - am_sz sh) (F0 m pc ls st0) (rest.map (am_tv ra ws)) (am_Qc D cl ra A ws H rv sh1 M1 a) A) : W p l e R s m args below meth c H locs cells slots Q (F0 m pc ls st0) := by
  intro T hT XS
  obtain ⟨v, st0, t, T', Ls, h0, X', hLs, e1, e2, ⟨ws1, tys1, hv, hW1, hx1, hP1, hD1, hK1, f1, f2, hok1⟩, goes⟩ := run T hT XS
  obtain ⟨⟨m1, m2⟩, hG⟩ := hG
  have hv : v = rv.map (am_tv ra ws1) := Outcome.returned.inj hv
  subst hv
  have hO1 : am_Wo D cl ra A s T'.heap (locs ++ Ls) ws1 tys1 sh1 M1 := by
    refine ⟨hW1, by rw [e1]; exact hP1, hD1, va_K.moved (by rw [← e2]; exact X'.warmed.alike.symm) hK1, ⟨?_, fun q q1 q2 => ?_, fun x hx => ?_⟩, hA⟩
    · rw [e1]; exact Nat.le_trans hS.1 f1
    · rw [e1, f2 q (Nat.lt_of_lt_of_le q1 hS.1) q2]
      exact hS.2.1 q q1 q2
    · rcases List.mem_append.mp hx with hx | hx
      · exact hS.2.2 x hx
      · exact hLs x hx
  have hst1 : ∀ v ∈ rv.toList ++ rest, am_ok ws1.length v := fun v hv => by
    rcases List.mem_append.mp hv with hv | hv
    · exact hok1 v hv
    · exact (hst v hv).mono hx1.1
  have key := hG p e R s m args below meth c T'.heap (locs ++ Ls) (cells + (sh1.length - sh.length)) (slots + (am_sz sh1 - am_sz sh)) Q ls ws1 tys1 hF hE hO1 (hL.ex hx1) hst1 (by omega) (by omega) (fun ws' tys' H' locs' pc2 ls' hO' hx' hok hrt => by
    have := kk ws' tys' H' locs' pc2 ls' hO' (hx1.tr hx') hok hrt
    rwa [show cells + (sh'.length - sh.length) = cells + (sh1.length - sh.length) + (sh'.length - sh1.length) by omega, show slots + (am_sz sh' - am_sz sh) = slots + (am_sz sh1 - am_sz sh) + (am_sz sh' - am_sz sh1) by omega] at this)
  obtain ⟨t2, a1, b1⟩ := key T' rfl X'
  refine ⟨t2, goes t2 ?_, b1⟩
  have hgf : (rv.map (am_tv ra ws1)).toList ++ rest.map (am_tv ra ws) = (rv.toList ++ rest).map (am_tv ra ws1) := by
    rw [List.map_append, hx1.tvs hst]
    cases rv <;> rfl
  rw [hgf]
  exact a1
theorem am_take (f : Value → Value) (st : List Value) (na : Nat) : st.map f = ((st.take na).reverse.map f).reverse ++ (st.drop na).map f := by
  rw [← List.map_reverse, List.reverse_reverse, ← List.map_append, List.take_append_drop]
/-- a call -/
theorem am_Go.call (G : am_G P X cl) {mi pc ix ik mj : Nat} {i : am_I} {L : List (Option Value)} {st as rest : List Value} {sh sh1 sh' : List am_C} {M M1 M' : am_M} {rv r : Option Value} (hi : (ik = 0 ∧ i = .invokevirtual ix) ∨ (ik = 1 ∧ i = .invokestatic ix) ∨ (ik = 2 ∧ i = .invokespecial ix)) (h : am_cal P mi pc ix ik L st sh M = some (.inr (.inr (mj, as, rest)))) (hdg : decode (X.2.2.1 mi) pc = .ok (i, 3))
    (h1 : am_Go P X D cl ra A l mj 0 (am_ent (P.2.2.2.2.2.1 mj) as) [] sh M rv sh1 M1) (h2 : am_Go P X D cl ra A l mi (pc + 3) L (rv.toList ++ rest) sh1 M1 r sh' M') : am_Go P X D cl ra A l mi pc L st sh M r sh' M' := by
  unfold am_cal at h
  split at h
  case h_7 => cases h
  case h_4 =>
    exfalso
    unfold am_nx at h
    repeat' (split at h)
    all_goals cases h
  case h_5 =>
    exfalso
    unfold am_nx at h
    repeat' (split at h)
    all_goals cases h
  case h_6 =>
    exfalso
    unfold am_nx at h
    repeat' (split at h)
    all_goals cases h
  case h_2 =>
    exfalso
    split at h
    · cases h
    split at h
    case h_2 => cases h
    case h_1 =>
    split at h
    · cases h
    · unfold am_nx at h; cases h
  case h_3 =>
    exfalso
    split at h
    · cases h
    split at h
    case h_2 => cases h
    case h_1 =>
    split at h
    case h_2 => cases h
    case h_1 =>
    split at h
    · cases h
    · unfold am_nx at h; cases h
  case h_1 q1 mj' na kd ci hlk =>
  split at h
  · cases h
  rename_i hc0
  simp only [not_or, Classical.not_not] at hc0
  obtain ⟨hna, hkd⟩ := hc0
  split at h
  case h_2 => cases h
  case h_1 q2 as' r' hr =>
  split at h
  · cases h
  rename_i hc1
  simp only [not_or] at hc1
  obtain ⟨hr8, hml⟩ := hc1
  have hh := Option.some.inj h
  have hh := Sum.inr.inj (Sum.inr.inj hh)
  simp only [Prod.mk.injEq] at hh
  obtain ⟨rfl, rfl, rfl⟩ := hh
  obtain ⟨gcode, gpl, gfr, glo, gini, gd, glink, gV, gS, gI⟩ := G.2.2.2.2.2.2.2.1 mi ix mj' na kd ci hlk
  have hmono := h1.1
  refine ⟨⟨Nat.le_trans h1.1.1 h2.1.1, Nat.le_trans h1.1.2 h2.1.2⟩, fun p e R s m args below meth c H locs cells slots Q ls ws tys hF hE hO hL hst hc hs kk => ?_⟩
  have hlw : ws.length ≤ 1048576 := by rw [hO.1.1]; exact hO.1.2.1
  have hin1 : ∀ v ∈ st.take na, v ∈ st := fun v hv => List.mem_of_mem_take hv
  have hin2 : ∀ v ∈ st.drop na, v ∈ st := fun v hv => List.mem_of_mem_drop hv
  have hHs : ∀ q, H.size ≤ q → A q := fun q hq => hO.2.2.2.2.2 q (Nat.le_trans hO.2.2.2.2.1.1 hq)
  have hEm : ∀ U : State, U.heap = H → s.WarmedH U.vm → am_E P X ra A U H := fun U hU hW => am_E.moved G hE hW hO.2.2.2.2.1.1 (fun q q1 q2 => hO.2.2.2.2.1.2.1 q q1 q2)
  have hgood : GoodIn X.1 (Cond.code (X.2.2.2.1 mj') (X.2.2.1 mj') (P.2.2.2.2.2.1 mj') (P.2.2.2.2.1 mj') :: X.1) := by
    intro w hw
    have hw : w ∈ X.1 := by
      rcases List.mem_cons.mp hw with rfl | hw
      · exact gcode
      · exact hw
    exact ⟨hw, G.2.2.2.2.2.1 w hw⟩
  have hblind : ∀ as0 : List Value, FrameBlind (am_Pc P X D cl ra A ws tys H as0) := fun as0 a U g mk q => ⟨q.1, q.2.1, va_K.moved (u := U) (U := U.calling g mk a) (Vm.Alike.refl U.vm) q.2.2.1, am_E.same G q.2.2.2 rfl⟩
  have hroom : (X.2.2.2.2.2.2.1 mj' + 1 ≤ R.frames) ∧ 8 + (P.2.2.2.2.2.1 mj' + 11) + X.2.2.2.2.2.2.2 mj' ≤ R.locals := ⟨Nat.le_trans gfr hF.2.2.2.2.2.2.2.2.1, Nat.le_trans glo hF.2.2.2.2.2.2.2.2.2⟩
  have hcs : cells + (sh1.length - sh.length) ≤ R.cells ∧ slots + (am_sz sh1 - am_sz sh) ≤ R.slots := by
    have e1 := h1.1
    have e2 := h2.1
    omega
  have hS0 : CallFix p m c (X.2.2.1 mi) (P.2.2.2.2.2.1 mi) s args X.1 (X.2.2.2.1 mi).cls := ⟨hF.1, hF.2.1, hF.2.2.1, hF.2.2.2.2.2.2.1, hF.2.2.2.2.2.1⟩
  have hts := hF.2.2.2.2.2.1
  rcases hi with ⟨rfl, rfl⟩ | ⟨rfl, rfl⟩ | ⟨rfl, rfl⟩
  · -- virtual
    rw [if_neg (by decide)] at hr
    split at hr
    case h_2 => cases hr
    case h_1 q3 b r2 hdrop =>
    rw [if_pos rfl] at hr
    split at hr
    case h_2 => cases hr
    case h_1 q4 cj fs hsh =>
    rw [am_nth_eq] at hsh
    by_cases hcj : cj = ci
    case neg => rw [if_neg hcj] at hr; cases hr
    subst hcj
    rw [if_pos rfl] at hr
    cases hr
    obtain ⟨gV1, gV2, T, N, gV3⟩ := gV hkd
    have hst1 : ∀ v ∈ r', am_ok ws.length v := fun v hv => hst v (hin2 v (by rw [hdrop]; exact List.mem_cons_of_mem _ hv))
    have hob : am_ok ws.length (.ref b) := hst _ (hin2 _ (by rw [hdrop]; exact List.mem_cons_self))
    have hoks : ∀ v ∈ Value.ref b :: (st.take na).reverse, am_ok ws.length v := fun v hv => by
      rcases List.mem_cons.mp hv with rfl | hv
      · exact hob
      · exact hst v (hin1 v (List.mem_reverse.mp hv))
    have hM := am_met G gpl hml h1 hO.1 hO.2.1 hO.2.2.1 hHs hoks (tys := tys)
    have hstk : st.map (am_tv ra ws) = ((st.take na).reverse.map (am_tv ra ws)).reverse ++ .ref (am_ad ra ws b) :: r'.map (am_tv ra ws) := by
      rw [am_take (am_tv ra ws) st na, hdrop]
      rfl
    obtain ⟨b', eb, hb1, vs, rfl, -⟩ := hO.1.2.2 b _ hsh
    have hrec := va_recv hO.2.2.2.1 hO.2.1 gV3 hb1
    rw [← am_ad_at (ra := ra) hb1] at hrec
    have hPre : PreV s H (X.2.2.2.1 mj').cls (am_ad ra ws b) (am_Pc P X D cl ra A ws tys H (.ref b :: (st.take na).reverse)) ((st.take na).reverse.map (am_tv ra ws)) :=
      ⟨hblind _, hrec, fun U hU hW => ⟨rfl, hU, va_K.moved hW.alike hO.2.2.2.1, hEm U hU hW⟩⟩
    have hlen : ((st.take na).reverse.map (am_tv ra ws)).length = na := by simp; omega
    have h8 : 2 * (F0 m pc ls (st.map (am_tv ra ws))).monitorRoom + ((r'.map (am_tv ra ws)).map fun v => v.category).sum ≤ 8 := lv_room (by rw [am_cat_sum r' hst1]; omega)
    refine am_Go.back h2 hmono hF hE hlw hO.2.2.2.2.1 hO.2.2.2.2.2 hL hst1 hc hs kk (tys := tys) (a := (Value.ref (am_ad ra ws b) :: (st.take na).reverse.map (am_tv ra ws)).toArray) ?_
    rcases glink with gl | ⟨host, gl⟩
    · exact va_runV hS0 hM ⟨callB_of na hts hgood rfl rfl rfl (hts _ gini) (hts _ gl) gd hroom, hts _ gV1, hts _ gV2⟩ hPre rfl hlen hL.1 hstk h8 hdg hcs
    · exact va_runVN hS0 hM ⟨va_cnB na hts hgood rfl rfl rfl (hE.1 _ gl) (hts _ gini) gd hroom, hts _ gV1, hts _ gV2⟩ hPre rfl hlen hL.1 hstk h8 hdg hcs
  · -- static
    rw [if_pos rfl] at hr
    cases hr
    have hst1 : ∀ v ∈ st.drop na, am_ok ws.length v := fun v hv => hst v (hin2 v hv)
    have hoks : ∀ v ∈ (st.take na).reverse, am_ok ws.length v := fun v hv => hst v (hin1 v (List.mem_reverse.mp hv))
    have hM := am_met G gpl hml h1 hO.1 hO.2.1 hO.2.2.1 hHs hoks (tys := tys)
    have hPre : PreS s H (am_Pc P X D cl ra A ws tys H ((st.take na).reverse)) ((st.take na).reverse.map (am_tv ra ws)) :=
      ⟨hblind _, fun U hU hW => ⟨rfl, hU, va_K.moved hW.alike hO.2.2.2.1, hEm U hU hW⟩⟩
    have hlen : ((st.take na).reverse.map (am_tv ra ws)).length = na := by simp; omega
    have h8 : 2 * (F0 m pc ls (st.map (am_tv ra ws))).monitorRoom + (((st.drop na).map (am_tv ra ws)).map fun v => v.category).sum ≤ 8 := lv_room (by rw [am_cat_sum _ hst1]; omega)
    refine am_Go.back h2 hmono hF hE hlw hO.2.2.2.2.1 hO.2.2.2.2.2 hL hst1 hc hs kk (tys := tys) (a := ((st.take na).reverse.map (am_tv ra ws)).toArray) ?_
    rcases glink with gl | ⟨host, gl⟩
    · exact va_runS hS0 hM ⟨callB_of na hts hgood rfl rfl rfl (hts _ gini) (hts _ gl) gd hroom, hts _ (gS hkd)⟩ hPre rfl hlen hL.1 (am_take (am_tv ra ws) st na) h8 hdg hcs
    · exact va_runSN hS0 hM ⟨va_cnB na hts hgood rfl rfl rfl (hE.1 _ gl) (hts _ gini) gd hroom, hts _ (gS hkd), trivial⟩ hPre rfl hlen hL.1 (am_take (am_tv ra ws) st na) h8 hdg hcs
  · -- constructor
    rw [if_neg (by decide)] at hr
    split at hr
    case h_2 => cases hr
    case h_1 q3 b r2 hdrop =>
    rw [if_neg (by decide)] at hr
    cases hr
    obtain ⟨gI1, gI2, gI3⟩ := gI hkd
    have hst1 : ∀ v ∈ r', am_ok ws.length v := fun v hv => hst v (hin2 v (by rw [hdrop]; exact List.mem_cons_of_mem _ hv))
    have hob : am_ok ws.length (.ref b) := hst _ (hin2 _ (by rw [hdrop]; exact List.mem_cons_self))
    have hoks : ∀ v ∈ Value.ref b :: (st.take na).reverse, am_ok ws.length v := fun v hv => by
      rcases List.mem_cons.mp hv with rfl | hv
      · exact hob
      · exact hst v (hin1 v (List.mem_reverse.mp hv))
    have hM := am_met G gpl hml h1 hO.1 hO.2.1 hO.2.2.1 hHs hoks (tys := tys)
    rw [gI3] at hM hgood
    have hstk : st.map (am_tv ra ws) = ((st.take na).reverse.map (am_tv ra ws)).reverse ++ .ref (am_ad ra ws b) :: r'.map (am_tv ra ws) := by
      rw [am_take (am_tv ra ws) st na, hdrop]
      rfl
    have hPre : PreS s H (am_Pc P X D cl ra A ws tys H (.ref b :: (st.take na).reverse)) (.ref (am_ad ra ws b) :: (st.take na).reverse.map (am_tv ra ws)) :=
      ⟨hblind _, fun U hU hW => ⟨rfl, hU, va_K.moved hW.alike hO.2.2.2.1, hEm U hU hW⟩⟩
    have hlen : ((st.take na).reverse.map (am_tv ra ws)).length = na := by simp; omega
    have h8 : 2 * (F0 m pc ls (st.map (am_tv ra ws))).monitorRoom + ((r'.map (am_tv ra ws)).map fun v => v.category).sum ≤ 8 := lv_room (by rw [am_cat_sum r' hst1]; omega)
    refine am_Go.back h2 hmono hF hE hlw hO.2.2.2.2.1 hO.2.2.2.2.2 hL hst1 hc hs kk (tys := tys) (a := (Value.ref (am_ad ra ws b) :: (st.take na).reverse.map (am_tv ra ws)).toArray) ?_
    rcases glink with gl | ⟨host, gl⟩
    · exact va_runI hS0 hM ⟨callB_of na hts hgood rfl rfl rfl (hts _ gini) (hts _ gl) gd hroom, gI2, hts _ gI1⟩ hPre rfl hlen hL.1 hstk h8 hdg hcs
    · exact va_runIN hS0 hM ⟨va_cnB na hts hgood rfl rfl rfl (hE.1 _ gl) (hts _ gini) gd hroom, gI2, hts _ gI1⟩ hPre rfl hlen hL.1 hstk h8 hdg hcs
theorem am_oth_ret {mi pc n : Nat} {i : am_I} {L : List (Option Value)} {st : List Value} {sh sh' : List am_C} {M M' : am_M} {r : Option Value} (h : am_oth P mi pc i L st sh M = some (.inl (r, sh', M'))) (hdg : decode (X.2.2.1 mi) pc = .ok (i, n)) (hn : am_len i = 0 ∨ n = am_len i) : st = r.toList ∧ sh' = sh ∧ M' = M ∧ ∀ meth : Method, meth.sig.returnType = P.2.2.2.2.1 mi → am_Rt X mi meth r pc := by
  have hcal : ∀ ix ik, am_cal P mi pc ix ik L st sh M ≠ some (.inl (r, sh', M')) := by
    intro ix ik h
    unfold am_cal am_nx at h
    repeat' (split at h)
    all_goals cases h
  cases i
  case ireturn =>
    have hn : n = 1 := am_len1 (k := 1) (by decide) hn
    subst hn
    simp only [am_oth] at h
    split at h
    case h_2 => cases h
    case h_1 q1 q2 x ty hty =>
    by_cases hf : am_fit ty x = true
    case neg => rw [if_neg hf] at h; cases h
    rw [if_pos hf] at h
    cases h
    exact ⟨rfl, rfl, rfl, fun meth hm => Or.inr (Or.inl ⟨x, ty, rfl, by rw [hm]; exact hty, hf, hdg⟩)⟩
  case areturn =>
    have hn : n = 1 := am_len1 (k := 1) (by decide) hn
    subst hn
    simp only [am_oth] at h
    split at h
    case h_2 => cases h
    case h_1 q1 q2 a nm hty =>
    cases h
    exact ⟨rfl, rfl, rfl, fun meth hm => Or.inr (Or.inr ⟨a, nm, rfl, by rw [hm]; exact hty, hdg⟩)⟩
  case return_ =>
    have hn : n = 1 := am_len1 (k := 1) (by decide) hn
    subst hn
    simp only [am_oth] at h
    split at h
    case h_2 => cases h
    case h_1 q1 q2 hty =>
    cases h
    exact ⟨rfl, rfl, rfl, fun meth hm => Or.inl ⟨rfl, by rw [hm]; exact hty, hdg⟩⟩
  case invokevirtual ix => exact absurd h (hcal ix 0)
  case invokestatic ix => exact absurd h (hcal ix 1)
  case invokespecial ix => exact absurd h (hcal ix 2)
  all_goals (simp only [am_oth, am_nx, reduceCtorEq] at h)
  all_goals (repeat' (split at h))
  all_goals cases h
theorem am_oth_call {mi pc n : Nat} {i : am_I} {L : List (Option Value)} {st : List Value} {sh : List am_C} {M : am_M} {q : Nat × List Value × List Value} (h : am_oth P mi pc i L st sh M = some (.inr (.inr q))) (hn : am_len i = 0 ∨ n = am_len i) : n = 3 ∧ ∃ ix ik, ((ik = 0 ∧ i = .invokevirtual ix) ∨ (ik = 1 ∧ i = .invokestatic ix) ∨ (ik = 2 ∧ i = .invokespecial ix)) ∧ am_cal P mi pc ix ik L st sh M = some (.inr (.inr q)) := by
  cases i
  case invokevirtual ix => exact ⟨am_len1 (k := 3) (by decide) hn, ix, 0, Or.inl ⟨rfl, rfl⟩, h⟩
  case invokestatic ix => exact ⟨am_len1 (k := 3) (by decide) hn, ix, 1, Or.inr (Or.inl ⟨rfl, rfl⟩), h⟩
  case invokespecial ix => exact ⟨am_len1 (k := 3) (by decide) hn, ix, 2, Or.inr (Or.inr ⟨rfl, rfl⟩), h⟩
  all_goals (simp only [am_oth, am_nx, reduceCtorEq] at h)
  all_goals (repeat' (split at h))
  all_goals cases h
/-- what isn't 'go on' comes of jumps, calls, returns -/
theorem am_ins_oth {mi pc n : Nat} {i : am_I} {L : List (Option Value)} {st : List Value} {sh : List am_C} {M : am_M} {a : am_A} (h : am_ins P mi pc i n L st sh M = some a) (ha : ∀ q, a ≠ .inr (.inl q)) : am_oth P mi pc i L st sh M = some a := by
  have hnx : ∀ pc L st sh M, am_nx pc L st sh M ≠ some a := fun pc L st sh M q => ha _ (Option.some.inj q).symm
  unfold am_ins at h
  repeat' (split at h)
  all_goals first
    | exact h
    | exact absurd h (hnx _ _ _ _ _)
    | cases h
theorem am_sound_step (G : am_G P X cl) {K : am_K} (hK : am_Sd P X D cl ra A l K) : am_Sd P X D cl ra A l (am_step P K) := by
  intro mi pc L st sh M r sh' M' h
  unfold am_step am_act at h
  cases hco : P.1 mi pc with
  | none => rw [hco] at h; cases h
  | some q =>
    obtain ⟨i, n⟩ := q
    rw [hco] at h
    obtain ⟨hdg, hn⟩ := G.1 mi pc i n hco
    cases hins : am_ins P mi pc i n L st sh M with
    | none => simp only [hins, reduceCtorEq] at h
    | some a =>
      simp only [hins] at h
      rcases a with r0 | ⟨pc', L', st', sh1, M1⟩ | ⟨mj, as, rest⟩
      · cases h
        have ho := am_ins_oth hins (fun q e => by cases e)
        obtain ⟨rfl, rfl, rfl, hr⟩ := am_oth_ret (X := X) ho hdg hn
        exact am_Go.ret hr
      · exact am_Go.nx (am_ins_nx G hins hdg hn) (hK _ _ _ _ _ _ _ _ _ h)
      · have ho := am_ins_oth hins (fun q e => by cases e)
        obtain ⟨rfl, ix, ik, hi, hcal⟩ := am_oth_call ho hn
        dsimp only at h
        cases hk : K mj 0 (am_ent (P.2.2.2.2.2.1 mj) as) [] sh M with
        | none => rw [hk] at h; cases h
        | some w =>
          obtain ⟨rv, sh1, M1⟩ := w
          rw [hk] at h
          exact am_Go.call G hi hcal hdg (hK _ _ _ _ _ _ _ _ _ hk) (hK _ _ _ _ _ _ _ _ _ h)
theorem am_sound_run (G : am_G P X cl) : ∀ f, am_Sd P X D cl ra A l (am_run P f)
  | 0 => fun _ _ _ _ _ _ _ _ _ h => by cases h
  | f + 1 => am_sound_step G (am_sound_run G f)
/-- THE SMALL MACHINE IS SOUND -/
theorem am_sound (G : am_G P X cl) {mi pc : Nat} {L : List (Option Value)} {st : List Value} {sh sh' : List am_C} {M M' : am_M} {r : Option Value} (h : am_ev P mi pc L st sh M (r, sh', M')) : am_Go P X D cl ra A l mi pc L st sh M r sh' M' := by
  obtain ⟨f, h⟩ := h
  exact am_sound_run G f mi pc L st sh M r sh' M' h
end AMU
end
section
/-! The tables are good -/
def tb_ly : List (List Nat) := [[284, 286, 288, 290, 292, 294, 296], [833, 835, 837, 839, 841, 843, 845, 847, 849, 851, 853, 855, 857, 859, 861, 863, 865, 867, 869, 871, 873, 875, 877, 879, 881, 883, 885], [150, 152, 154], [241, 243], [95, 97, 99, 101], [183, 185, 187, 189], [260, 262, 264, 266, 268, 270, 272, 274], [203, 205, 207, 209, 211], [161, 163, 165, 167], [136, 138, 140, 142, 144], [224, 226, 228, 230]]
def tb_X : am_X :=
  (tb_W, tb_N, fun mi => (match tb_m mi with | some q => q.2.1 | none => ⟨#[]⟩), fun mi => (match tb_m mi with | some q => q.1 | none => ⟨"", "", ""⟩),
   fun j => (match am_nth tb_S j with | some q => q | none => ("", "", "")), tb_AO,
   fun mi => (match tb_m mi with | some q => q.2.2.2.2.1 | none => 0), fun mi => (match tb_m mi with | some q => q.2.2.2.2.2.1 | none => 0))
theorem tb_m_ok {k : Nat} {q : tb_T} (h : tb_m k = some q) : tb_okm q := by
  unfold tb_m at h
  split at h
  case h_2 => cases h
  case h_1 q1 l hl =>
  rw [am_nth_eq] at hl h
  exact tb_okM l (List.mem_of_getElem? hl) q (List.mem_of_getElem? h)
theorem tb_fc_in : ∀ (l : List (Nat × am_I × Nat)) {pc : Nat} {q : am_I × Nat}, tb_fc l pc = some q → (pc, q) ∈ l
  | [], _, _, h => by cases h
  | e :: r, pc, q, h => by
    unfold tb_fc at h
    cases hb : Nat.beq e.1 pc with
    | true =>
      rw [hb] at h
      cases h
      have := Nat.eq_of_beq_eq_true hb
      subst this
      exact List.mem_cons_self
    | false =>
      rw [hb] at h
      exact List.mem_cons_of_mem _ (tb_fc_in r h)
theorem tb_fl_in : ∀ (l : List tb_K) {ix : Nat} {q : Nat × Nat × Nat × Nat × Nat}, tb_fl l ix = some q → ∃ w, (ix, q.1, q.2.1, q.2.2.1, q.2.2.2.1, q.2.2.2.2, w) ∈ l
  | [], _, _, h => by cases h
  | e :: r, ix, q, h => by
    unfold tb_fl at h
    cases hb : Nat.beq e.1 ix with
    | true =>
      rw [hb] at h
      cases h
      have := Nat.eq_of_beq_eq_true hb
      subst this
      exact ⟨e.2.2.2.2.2.2, List.mem_cons_self⟩
    | false =>
      rw [hb] at h
      obtain ⟨w, hw⟩ := tb_fl_in r h
      exact ⟨w, List.mem_cons_of_mem _ hw⟩
theorem tb_fk_in : ∀ (l : List (Nat × Int32 × Nat)) {ix : Nat} {z : Int32}, tb_fk l ix = some z → ∃ w, (ix, z, w) ∈ l
  | [], _, _, h => by cases h
  | e :: r, ix, z, h => by
    unfold tb_fk at h
    cases hb : Nat.beq e.1 ix with
    | true =>
      rw [hb] at h
      cases h
      have := Nat.eq_of_beq_eq_true hb
      subst this
      exact ⟨e.2.2, List.mem_cons_self⟩
    | false =>
      rw [hb] at h
      obtain ⟨w, hw⟩ := tb_fk_in r h
      exact ⟨w, List.mem_cons_of_mem _ hw⟩
/-- a link of a method: its check -/
theorem tb_lk {L : Nat} {xs : Nat → Int32} {mi ix : Nat} {e : Nat × Nat × Nat × Nat × Nat} (h : (tb_P L xs).2.1 mi ix = some e) : ∃ (q : tb_T) (w : Nat), tb_m mi = some q ∧ tb_okl q (ix, e.1, e.2.1, e.2.2.1, e.2.2.2.1, e.2.2.2.2, w) = true := by
  show ∃ (q : tb_T) (w : Nat), _
  have h : (match tb_m mi with | some q => tb_fl q.2.2.2.2.2.2.2.1 ix | none => none) = some e := h
  cases hm : tb_m mi with
  | none => rw [hm] at h; cases h
  | some q =>
    rw [hm] at h
    obtain ⟨w, hw⟩ := tb_fl_in _ h
    exact ⟨q, w, rfl, List.all_eq_true.mp (tb_m_ok hm).2.2.1 _ hw⟩
theorem tb_gC (L : Nat) (xs : Nat → Int32) : am_gC (tb_P L xs) tb_X := by
  intro mi pc i n h
  have h : (match tb_m mi with | some q => tb_fc q.2.2.2.2.2.2.1 pc | none => none) = some (i, n) := h
  cases hm : tb_m mi with
  | none => rw [hm] at h; cases h
  | some q =>
    rw [hm] at h
    have hin := tb_fc_in _ h
    have hok := List.all_eq_true.mp (tb_m_ok hm).2.1 _ hin
    simp only [tb_okc, Bool.and_eq_true, decide_eq_true_eq, Bool.or_eq_true] at hok
    have hby : tb_X.2.2.1 mi = q.2.1 := by
      show (match tb_m mi with | some q => q.2.1 | none => ⟨#[]⟩) = _
      rw [hm]
    rw [hby]
    exact ⟨hok.1, hok.2.elim (fun z => Or.inl (Nat.eq_of_beq_eq_true z)) (fun z => Or.inr (Nat.eq_of_beq_eq_true z))⟩
theorem tb_y {mi : Nat} {q : tb_T} (hm : tb_m mi = some q) : tb_X.2.2.2.1 mi = q.1 := by
  show (match tb_m mi with | some q => q.1 | none => ⟨"", "", ""⟩) = _
  rw [hm]
def tb_okC (ci : Nat) : Bool := match tb_cl[ci]?, am_nth tb_ft ci, am_nth tb_ly ci with
  | some (C, T, N), some fl, some ly => Nat.beq fl.length N && (List.range N).all (fun k => decide (parseFieldDescriptor (T k).2.2.1 = some (fl.getD k .int)) && tb_w (ly.getD k 0) (u_lay C T k) && (List.range N).all (fun b => Nat.beq k b || decide ((T k).2.1 ≠ (T b).2.1))) && fl.all (fun ty => decide (ty = .int) || decide (ty = .boolean) || am_rty ty)
  | _, _, _ => false
set_option maxRecDepth 100000 in
theorem tb_okC0 : tb_okC 0 = true := by decide +kernel
set_option maxRecDepth 100000 in
theorem tb_okC1 : tb_okC 1 = true := by decide +kernel
set_option maxRecDepth 100000 in
theorem tb_okC2 : tb_okC 2 = true := by decide +kernel
set_option maxRecDepth 100000 in
theorem tb_okC3 : tb_okC 3 = true := by decide +kernel
set_option maxRecDepth 100000 in
theorem tb_okC4 : tb_okC 4 = true := by decide +kernel
set_option maxRecDepth 100000 in
theorem tb_okC5 : tb_okC 5 = true := by decide +kernel
set_option maxRecDepth 100000 in
theorem tb_okC6 : tb_okC 6 = true := by decide +kernel
set_option maxRecDepth 100000 in
theorem tb_okC7 : tb_okC 7 = true := by decide +kernel
set_option maxRecDepth 100000 in
theorem tb_okC8 : tb_okC 8 = true := by decide +kernel
set_option maxRecDepth 100000 in
theorem tb_okC9 : tb_okC 9 = true := by decide +kernel
set_option maxRecDepth 100000 in
theorem tb_okC10 : tb_okC 10 = true := by decide +kernel
theorem tb_okCs : ∀ ci : Nat, ci < 11 → tb_okC ci = true := by
  intro ci h
  rcases (show ci = 0 ∨ ci = 1 ∨ ci = 2 ∨ ci = 3 ∨ ci = 4 ∨ ci = 5 ∨ ci = 6 ∨ ci = 7 ∨ ci = 8 ∨ ci = 9 ∨ ci = 10 by omega) with rfl | rfl | rfl | rfl | rfl | rfl | rfl | rfl | rfl | rfl | rfl
  · exact tb_okC0
  · exact tb_okC1
  · exact tb_okC2
  · exact tb_okC3
  · exact tb_okC4
  · exact tb_okC5
  · exact tb_okC6
  · exact tb_okC7
  · exact tb_okC8
  · exact tb_okC9
  · exact tb_okC10
theorem tb_gL (L : Nat) (xs : Nat → Int32) : am_gL (tb_P L xs) tb_X tb_cl := by
  intro ci C T N h
  have hlt : ci < 11 := (List.getElem?_eq_some_iff.mp h).1
  have hok := tb_okCs ci hlt
  unfold tb_okC at hok
  rw [h] at hok
  cases hf : am_nth tb_ft ci with
  | none => rw [hf] at hok; cases hok
  | some fl =>
    have hft : (tb_P L xs).2.2.2.1 ci = fl := by
      show (match am_nth tb_ft ci with | some l => l | none => []) = _
      rw [hf]
    rw [hf] at hok
    cases hy : am_nth tb_ly ci with
    | none => rw [hy] at hok; cases hok
    | some ly =>
      rw [hy] at hok
      simp only [Bool.and_eq_true, List.all_eq_true, List.mem_range, decide_eq_true_eq, Bool.or_eq_true] at hok
      obtain ⟨⟨h1, h2⟩, h3⟩ := hok
      rw [hft]
      refine ⟨Nat.eq_of_beq_eq_true h1, fun k hk => (h2 k hk).1.1, fun a ha b hb hab => ?_, fun w hw => ?_, fun ty hty => ?_⟩
      · rcases (h2 a ha).2 b hb with q | q
        · exact absurd (Nat.eq_of_beq_eq_true q) hab
        · exact q
      · obtain ⟨k, hk, rfl⟩ := List.mem_map.mp hw
        exact tb_w_in (h2 k (List.mem_range.mp hk)).1.2
      · rcases h3 ty hty with (q | q) | q
        · exact Or.inl q
        · exact Or.inr (Or.inl q)
        · exact Or.inr (Or.inr q)
theorem tb_gF (L : Nat) (xs : Nat → Int32) : am_gF (tb_P L xs) tb_X tb_cl := by
  intro mi ix ci k z u h
  obtain ⟨q, w, hm, hok⟩ := tb_lk h
  simp only [tb_okl] at hok
  split at hok
  case h_2 => cases hok
  case h_1 q1 C T N hcl =>
  simp only [Bool.and_eq_true, decide_eq_true_eq, Bool.or_eq_true, Bool.not_eq_true'] at hok
  obtain ⟨⟨h1, h2⟩, h3⟩ := hok
  refine ⟨C, T, N, hcl, h1, Or.inl (by rw [tb_y hm]; exact tb_w_in h2), fun hu => ?_⟩
  rw [tb_y hm]
  subst hu
  cases hf : (T k).2.2.2 with
  | false => exact Or.inl rfl
  | true =>
    rcases h3 with (h3 | h3) | ⟨h3, h4⟩
    · cases h3
    · rw [hf] at h3; cases h3
    · exact Or.inr ⟨rfl, tb_w_in h2, h3, h4⟩
theorem tb_gS (L : Nat) (xs : Nat → Int32) : am_gS (tb_P L xs) tb_X := by
  intro mi ix j z u v h
  obtain ⟨q, w, hm, hok⟩ := tb_lk h
  simp only [tb_okl] at hok
  simp only [Bool.and_eq_true, decide_eq_true_eq] at hok
  obtain ⟨h1, h2⟩ := hok
  cases hs : am_nth tb_S j with
  | none => rw [hs] at h2; cases h2
  | some r =>
    rw [hs] at h2
    simp only [Bool.and_eq_true, decide_eq_true_eq] at h2
    have hr : tb_X.2.2.2.2.1 j = r := by
      show (match am_nth tb_S j with | some q => q | none => ("", "", "")) = _
      rw [hs]
    rw [hr, tb_y hm]
    refine ⟨?_, h2.2, Or.inl (tb_w_in h2.1)⟩
    show tb_ro L xs (1048576 + j) ≠ none
    rcases (show j = 0 ∨ j = 1 ∨ j = 2 ∨ j = 3 ∨ j = 4 ∨ j = 5 by omega) with rfl | rfl | rfl | rfl | rfl | rfl
    all_goals exact Option.some_ne_none _
set_option maxRecDepth 100000 in
theorem tb_wI : tb_w 104 (.arrayClass .int) = true := by decide +kernel
set_option maxRecDepth 100000 in
theorem tb_wZ : tb_w 105 (.arrayClass .boolean) = true := by decide +kernel
theorem tb_gN (L : Nat) (xs : Nat → Int32) : am_gN (tb_P L xs) tb_X tb_cl := by
  refine ⟨fun mi ix ci z u v h => ?_, fun mi ix ci z u v h => ?_, tb_w_in tb_wI, tb_w_in tb_wZ, fun mi ix z h => ?_⟩
  · obtain ⟨q, w, hm, hok⟩ := tb_lk h
    simp only [tb_okl] at hok
    split at hok
    case h_2 => cases hok
    case h_1 q1 q2 q3 r a b hcl ha hb =>
    simp only [Bool.and_eq_true] at hok
    obtain ⟨⟨h1, h2⟩, h3⟩ := hok
    rw [tb_y hm]
    exact ⟨r.1, r.2.1, r.2.2, hcl, tb_w_in h1, tb_w_in h2, tb_w_in h3⟩
  · obtain ⟨q, w, hm, hok⟩ := tb_lk h
    simp only [tb_okl] at hok
    split at hok
    case h_2 => cases hok
    case h_1 q1 r hcl =>
    simp only [Bool.and_eq_true, decide_eq_true_eq] at hok
    obtain ⟨⟨h1, h2⟩, h3⟩ := hok
    rw [tb_y hm]
    rw [Nat.add_sub_cancel] at h2
    exact ⟨r.1, r.2.1, r.2.2, hcl, tb_w_in h2, h3⟩
  · have h : (match tb_m mi with | some q => tb_fk q.2.2.2.2.2.2.2.2.1 ix | none => none) = some z := h
    cases hm : tb_m mi with
    | none => rw [hm] at h; cases h
    | some q =>
      rw [hm] at h
      obtain ⟨w, hw⟩ := tb_fk_in _ h
      have := List.all_eq_true.mp (tb_m_ok hm).2.2.2 _ hw
      rw [tb_y hm]
      exact tb_w_in this
theorem tb_by {mi : Nat} {q : tb_T} (hm : tb_m mi = some q) : tb_X.2.2.1 mi = q.2.1 := by
  show (match tb_m mi with | some q => q.2.1 | none => ⟨#[]⟩) = _
  rw [hm]
theorem tb_fr {mi : Nat} {q : tb_T} (hm : tb_m mi = some q) : tb_X.2.2.2.2.2.2.1 mi = q.2.2.2.2.1 := by
  show (match tb_m mi with | some q => q.2.2.2.2.1 | none => 0) = _
  rw [hm]
theorem tb_lo {mi : Nat} {q : tb_T} (hm : tb_m mi = some q) : tb_X.2.2.2.2.2.2.2 mi = q.2.2.2.2.2.1 := by
  show (match tb_m mi with | some q => q.2.2.2.2.2.1 | none => 0) = _
  rw [hm]
theorem tb_ml {L : Nat} {xs : Nat → Int32} {mi : Nat} {q : tb_T} (hm : tb_m mi = some q) : (tb_P L xs).2.2.2.2.2.1 mi = q.2.2.1 := by
  show (match tb_m mi with | some q => q.2.2.1 | none => 0) = _
  rw [hm]
theorem tb_rt {L : Nat} {xs : Nat → Int32} {mi : Nat} {q : tb_T} (hm : tb_m mi = some q) : (tb_P L xs).2.2.2.2.1 mi = q.2.2.2.1 := by
  show (match tb_m mi with | some q => q.2.2.2.1 | none => none) = _
  rw [hm]
theorem tb_gM (L : Nat) (xs : Nat → Int32) : am_gM (tb_P L xs) tb_X tb_cl := by
  refine ⟨fun w hw => good_of_word (List.mem_filter.mp hw).2, fun w hw => ?_, fun mi ix mj na kd ci h => ?_, fun mi ix z u v w h => ?_, fun mi ix z u v w h => ?_, fun mi ix k z u v w h h7 h9 => ?_⟩
  · have hw : w ∈ tb_N := hw
    simp only [tb_N, List.mem_cons, List.not_mem_nil, or_false] at hw
    rcases hw with rfl | rfl | rfl | rfl | rfl <;> exact Or.inr ⟨_, _, _, _, rfl⟩
  · obtain ⟨q, w, hm, hok⟩ := tb_lk h
    simp only [tb_okl] at hok
    split at hok
    case h_2 => cases hok
    case h_1 q1 z hz =>
    simp only [Bool.and_eq_true, decide_eq_true_eq, Bool.or_eq_true, Bool.not_eq_true'] at hok
    obtain ⟨⟨⟨⟨⟨⟨h1, h2⟩, h3⟩, h4⟩, h5⟩, h6⟩, h7⟩ := hok
    have hw := (tb_m_ok hz).1.resolve_left (fun e => by rw [e] at h1; cases h1)
    simp only [tb_okw, Bool.and_eq_true, decide_eq_true_eq, Bool.or_eq_true, Bool.not_eq_true'] at hw
    obtain ⟨⟨⟨⟨⟨⟨w1, w2⟩, w3⟩, w4⟩, w5⟩, w6⟩, w7⟩ := hw
    have h6 := Nat.eq_of_beq_eq_true h6
    rw [tb_y hm, tb_y hz, tb_by hz, tb_fr hm, tb_fr hz, tb_lo hm, tb_lo hz, tb_ml hz, tb_rt hz]
    refine ⟨tb_w_in w1, w2, Nat.le_of_ble_eq_true h2, Nat.le_of_ble_eq_true h3, tb_w_in w3, ⟨w4.1, w4.2, h4⟩, ?_, fun hk => ?_, fun hk => ?_, fun hk => ?_⟩
    · cases hb : Nat.ble 3 kd with
      | true =>
        rw [hb] at h5
        exact Or.inr ⟨_, of_decide_eq_true h5⟩
      | false =>
        rw [hb] at h5
        exact Or.inl (tb_w_in h5)
    · have hz0 : z.2.2.2.2.2.2.2.2.2.2.2.2.2 = 0 := by rw [← h6, hk]
      rw [hz0] at w5
      rcases h7 with h7 | ⟨h7, h8⟩
      · rw [hk] at h7; cases h7
      · refine ⟨tb_w_in w5, ?_, ?_⟩
        · rcases w6 with w6 | w6
          · rw [w6] at h7; cases h7
          · exact tb_w_in w6
        · split at h8
          case h_2 => cases h8
          case h_1 q2 r hr =>
          have h8 : r.1 = z.1.cls := of_decide_eq_true h8
          exact ⟨r.2.1, r.2.2, by rw [hr, ← h8]⟩
    · have hz0 : z.2.2.2.2.2.2.2.2.2.2.2.2.2 = 1 := by rw [← h6, hk]
      rw [hz0] at w5
      exact tb_w_in w5
    · have hz0 : z.2.2.2.2.2.2.2.2.2.2.2.2.2 = 2 := by rw [← h6, hk]
      rw [hz0] at w5 w7
      rcases w7 with w7 | w7
      · cases w7
      · exact ⟨tb_w_in w5, w7.1, w7.2⟩
  · obtain ⟨q, w', hm, hok⟩ := tb_lk h
    simp only [tb_okl, Bool.and_eq_true, decide_eq_true_eq] at hok
    obtain ⟨⟨⟨⟨h1, h2⟩, h3⟩, h4⟩, h5⟩ := hok
    rw [tb_y hm, tb_fr hm, tb_lo hm]
    exact ⟨tb_w_in h1, tb_w_in h2, tb_w_in h3, h4, h5⟩
  · obtain ⟨q, w', hm, hok⟩ := tb_lk h
    simp only [tb_okl, Bool.and_eq_true, decide_eq_true_eq] at hok
    obtain ⟨⟨⟨⟨⟨h1, h2⟩, h3⟩, h4⟩, h5⟩, h6⟩ := hok
    rw [tb_y hm, tb_fr hm, tb_lo hm]
    exact ⟨tb_w_in h1, tb_w_in h2, tb_w_in h3, tb_w_in h4, h5, h6⟩
  · obtain ⟨q, w', hm, hok⟩ := tb_lk h
    rw [tb_y hm, tb_fr hm, tb_lo hm]
    rcases (show k = 7 ∨ k = 8 ∨ k = 9 by omega) with rfl | rfl | rfl
    · simp only [tb_okl, Bool.and_eq_true, decide_eq_true_eq] at hok
      obtain ⟨⟨⟨⟨⟨h1, h2⟩, h3⟩, h4⟩, h5⟩, h6⟩ := hok
      exact ⟨tb_w_in h4, h5, h6, fun _ => ⟨tb_w_in h1, tb_w_in h2, tb_w_in h3⟩, fun e => absurd e (by decide), fun e => absurd e (by decide)⟩
    · simp only [tb_okl, Bool.and_eq_true, decide_eq_true_eq] at hok
      obtain ⟨⟨⟨⟨⟨h1, h2⟩, h3⟩, h4⟩, h5⟩, h6⟩ := hok
      exact ⟨tb_w_in h4, h5, h6, fun e => absurd e (by decide), fun _ => ⟨tb_w_in h1, tb_w_in h2, tb_w_in h3⟩, fun e => absurd e (by decide)⟩
    · simp only [tb_okl, Bool.and_eq_true, decide_eq_true_eq] at hok
      obtain ⟨⟨⟨⟨⟨h1, h2⟩, h3⟩, h4⟩, h5⟩, h6⟩ := hok
      exact ⟨tb_w_in h4, h5, h6, fun e => absurd e (by decide), fun e => absurd e (by decide), fun _ => ⟨tb_w_in h1, tb_w_in h2, tb_w_in h3⟩⟩
/-- THE TABLES ARE GOOD -/
theorem tb_good (L : Nat) (xs : Nat → Int32) : am_G (tb_P L xs) tb_X tb_cl := ⟨tb_gC L xs, tb_gL L xs, tb_gF L xs, tb_gS L xs, tb_gN L xs, tb_gM L xs⟩
end
section
/-! The law's entry: what the small machine needs there -/
def st_w (i : Nat) (w : Cond) : Bool := decide ((flatC narrow_1)[i]? = some w)
theorem st_w_at {i : Nat} {w : Cond} {args : Array Value} {s : State} (h : st_w i w = true) (hn : narrow_1.before args s = true) : w.before args s = true :=
  flat_of_before narrow_1 hn w (List.mem_of_getElem? (of_decide_eq_true h))
def st_v (i : Nat) (w : Cond) : Bool := decide (lw_tbl[i]? = some w)
theorem st_v_in {i : Nat} {w : Cond} (h : st_v i w = true) : w ∈ lw_tbl := List.mem_of_getElem? (of_decide_eq_true h)
def st_e0 : List Nat := [5, 6, 7, 8, 9, 10]
set_option maxRecDepth 100000 in
theorem st_a0 : st_w 3 (.arrayOf (Term.static "CountedActors$Capability" "ALIAS" "[I") .int) = true := by decide +kernel
set_option maxRecDepth 100000 in
theorem st_l0 : st_w 4 (.eq (.length (Term.static "CountedActors$Capability" "ALIAS" "[I")) (.int (Int32.ofNat 6))) = true := by decide +kernel
set_option maxRecDepth 100000 in
theorem st_e0_ : (List.range 6).all (fun j => st_w (st_e0.getD j 0) (.eq (.elem (Term.static "CountedActors$Capability" "ALIAS" "[I") (.int (Int32.ofNat j))) (.int (tb_a0.getD j 0)))) = true := by decide +kernel
set_option maxRecDepth 100000 in
theorem st_s0 : st_v 399 (.laysStatic "CountedActors$Capability" "ALIAS" "[I") = true := by decide +kernel
theorem st_T0 {args : Array Value} {s : State} {A : Nat → Prop} (hn : narrow_1.before args s = true) (hts : ∀ w ∈ lw_tbl, w.before args s = true) (hini : (Cond.initialized "CountedActors$Capability").before args s = true) (hA : ∀ a : Nat, a < s.heap.size → ¬ A a) : ∃ t : Nat, va_T .int t 6 (fun i => .int (tb_a0.getD i 0)) A s s.heap ∧ va_Z "CountedActors$Capability" "ALIAS" "[I" (.ref t) A s s.heap := by
  obtain ⟨t, h1, h2⟩ := va_Tof (tm := (Term.static "CountedActors$Capability" "ALIAS" "[I")) (N := 6) (f := fun i => .int (tb_a0.getD i 0)) (by decide) (st_w_at st_a0 hn) (va_eqt (st_w_at st_l0 hn)) (fun j hj => va_eqt (st_w_at (List.all_eq_true.mp st_e0_ j (List.mem_range.mpr hj)) hn)) hA
  exact ⟨t, h2, va_Zof (hts _ (st_v_in st_s0)) hini h1 hA⟩
def st_e1 : List Nat := [14, 15, 16]
set_option maxRecDepth 100000 in
theorem st_a1 : st_w 12 (.arrayOf (Term.static "CountedActors$Capability" "SAFE" "[I") .int) = true := by decide +kernel
set_option maxRecDepth 100000 in
theorem st_l1 : st_w 13 (.eq (.length (Term.static "CountedActors$Capability" "SAFE" "[I")) (.int (Int32.ofNat 3))) = true := by decide +kernel
set_option maxRecDepth 100000 in
theorem st_e1_ : (List.range 3).all (fun j => st_w (st_e1.getD j 0) (.eq (.elem (Term.static "CountedActors$Capability" "SAFE" "[I") (.int (Int32.ofNat j))) (.int (tb_a1.getD j 0)))) = true := by decide +kernel
set_option maxRecDepth 100000 in
theorem st_s1 : st_v 408 (.laysStatic "CountedActors$Capability" "SAFE" "[I") = true := by decide +kernel
theorem st_T1 {args : Array Value} {s : State} {A : Nat → Prop} (hn : narrow_1.before args s = true) (hts : ∀ w ∈ lw_tbl, w.before args s = true) (hini : (Cond.initialized "CountedActors$Capability").before args s = true) (hA : ∀ a : Nat, a < s.heap.size → ¬ A a) : ∃ t : Nat, va_T .int t 3 (fun i => .int (tb_a1.getD i 0)) A s s.heap ∧ va_Z "CountedActors$Capability" "SAFE" "[I" (.ref t) A s s.heap := by
  obtain ⟨t, h1, h2⟩ := va_Tof (tm := (Term.static "CountedActors$Capability" "SAFE" "[I")) (N := 3) (f := fun i => .int (tb_a1.getD i 0)) (by decide) (st_w_at st_a1 hn) (va_eqt (st_w_at st_l1 hn)) (fun j hj => va_eqt (st_w_at (List.all_eq_true.mp st_e1_ j (List.mem_range.mpr hj)) hn)) hA
  exact ⟨t, h2, va_Zof (hts _ (st_v_in st_s1)) hini h1 hA⟩
def st_e2 : List Nat := [20, 21, 22, 23, 24, 25]
set_option maxRecDepth 100000 in
theorem st_a2 : st_w 18 (.arrayOf (Term.static "CountedActors$Capability" "FITS" "[I") .int) = true := by decide +kernel
set_option maxRecDepth 100000 in
theorem st_l2 : st_w 19 (.eq (.length (Term.static "CountedActors$Capability" "FITS" "[I")) (.int (Int32.ofNat 6))) = true := by decide +kernel
set_option maxRecDepth 100000 in
theorem st_e2_ : (List.range 6).all (fun j => st_w (st_e2.getD j 0) (.eq (.elem (Term.static "CountedActors$Capability" "FITS" "[I") (.int (Int32.ofNat j))) (.int (tb_a2.getD j 0)))) = true := by decide +kernel
set_option maxRecDepth 100000 in
theorem st_s2 : st_v 413 (.laysStatic "CountedActors$Capability" "FITS" "[I") = true := by decide +kernel
theorem st_T2 {args : Array Value} {s : State} {A : Nat → Prop} (hn : narrow_1.before args s = true) (hts : ∀ w ∈ lw_tbl, w.before args s = true) (hini : (Cond.initialized "CountedActors$Capability").before args s = true) (hA : ∀ a : Nat, a < s.heap.size → ¬ A a) : ∃ t : Nat, va_T .int t 6 (fun i => .int (tb_a2.getD i 0)) A s s.heap ∧ va_Z "CountedActors$Capability" "FITS" "[I" (.ref t) A s s.heap := by
  obtain ⟨t, h1, h2⟩ := va_Tof (tm := (Term.static "CountedActors$Capability" "FITS" "[I")) (N := 6) (f := fun i => .int (tb_a2.getD i 0)) (by decide) (st_w_at st_a2 hn) (va_eqt (st_w_at st_l2 hn)) (fun j hj => va_eqt (st_w_at (List.all_eq_true.mp st_e2_ j (List.mem_range.mpr hj)) hn)) hA
  exact ⟨t, h2, va_Zof (hts _ (st_v_in st_s2)) hini h1 hA⟩
def st_e3 : List Nat := [29, 30, 31, 32, 33, 34, 35, 36, 37, 38, 39, 40, 41, 42, 43, 44, 45, 46, 47, 48, 49, 50, 51, 52, 53, 54, 55, 56, 57, 58]
set_option maxRecDepth 100000 in
theorem st_a3 : st_w 27 (.arrayOf (Term.static "CountedActors$Capability" "VIEW" "[I") .int) = true := by decide +kernel
set_option maxRecDepth 100000 in
theorem st_l3 : st_w 28 (.eq (.length (Term.static "CountedActors$Capability" "VIEW" "[I")) (.int (Int32.ofNat 30))) = true := by decide +kernel
set_option maxRecDepth 100000 in
theorem st_e3_ : (List.range 30).all (fun j => st_w (st_e3.getD j 0) (.eq (.elem (Term.static "CountedActors$Capability" "VIEW" "[I") (.int (Int32.ofNat j))) (.int (tb_a3.getD j 0)))) = true := by decide +kernel
set_option maxRecDepth 100000 in
theorem st_s3 : st_v 443 (.laysStatic "CountedActors$Capability" "VIEW" "[I") = true := by decide +kernel
theorem st_T3 {args : Array Value} {s : State} {A : Nat → Prop} (hn : narrow_1.before args s = true) (hts : ∀ w ∈ lw_tbl, w.before args s = true) (hini : (Cond.initialized "CountedActors$Capability").before args s = true) (hA : ∀ a : Nat, a < s.heap.size → ¬ A a) : ∃ t : Nat, va_T .int t 30 (fun i => .int (tb_a3.getD i 0)) A s s.heap ∧ va_Z "CountedActors$Capability" "VIEW" "[I" (.ref t) A s s.heap := by
  obtain ⟨t, h1, h2⟩ := va_Tof (tm := (Term.static "CountedActors$Capability" "VIEW" "[I")) (N := 30) (f := fun i => .int (tb_a3.getD i 0)) (by decide) (st_w_at st_a3 hn) (va_eqt (st_w_at st_l3 hn)) (fun j hj => va_eqt (st_w_at (List.all_eq_true.mp st_e3_ j (List.mem_range.mpr hj)) hn)) hA
  exact ⟨t, h2, va_Zof (hts _ (st_v_in st_s3)) hini h1 hA⟩
def st_e4 : List Nat := [62, 63, 64, 65, 66, 67, 68, 69, 70, 71, 72, 73, 74, 75, 76, 77, 78, 79]
set_option maxRecDepth 100000 in
theorem st_a4 : st_w 60 (.arrayOf (Term.static "CountedActors$Capability" "DRAWN" "[I") .int) = true := by decide +kernel
set_option maxRecDepth 100000 in
theorem st_l4 : st_w 61 (.eq (.length (Term.static "CountedActors$Capability" "DRAWN" "[I")) (.int (Int32.ofNat 18))) = true := by decide +kernel
set_option maxRecDepth 100000 in
theorem st_e4_ : (List.range 18).all (fun j => st_w (st_e4.getD j 0) (.eq (.elem (Term.static "CountedActors$Capability" "DRAWN" "[I") (.int (Int32.ofNat j))) (.int (tb_a4.getD j 0)))) = true := by decide +kernel
set_option maxRecDepth 100000 in
theorem st_s4 : st_v 448 (.laysStatic "CountedActors$Capability" "DRAWN" "[I") = true := by decide +kernel
theorem st_T4 {args : Array Value} {s : State} {A : Nat → Prop} (hn : narrow_1.before args s = true) (hts : ∀ w ∈ lw_tbl, w.before args s = true) (hini : (Cond.initialized "CountedActors$Capability").before args s = true) (hA : ∀ a : Nat, a < s.heap.size → ¬ A a) : ∃ t : Nat, va_T .int t 18 (fun i => .int (tb_a4.getD i 0)) A s s.heap ∧ va_Z "CountedActors$Capability" "DRAWN" "[I" (.ref t) A s s.heap := by
  obtain ⟨t, h1, h2⟩ := va_Tof (tm := (Term.static "CountedActors$Capability" "DRAWN" "[I")) (N := 18) (f := fun i => .int (tb_a4.getD i 0)) (by decide) (st_w_at st_a4 hn) (va_eqt (st_w_at st_l4 hn)) (fun j hj => va_eqt (st_w_at (List.all_eq_true.mp st_e4_ j (List.mem_range.mpr hj)) hn)) hA
  exact ⟨t, h2, va_Zof (hts _ (st_v_in st_s4)) hini h1 hA⟩
def st_e5 : List Nat := [83, 84, 85, 86, 87, 88]
set_option maxRecDepth 100000 in
theorem st_a5 : st_w 81 (.arrayOf (Term.static "CountedActors$Capability" "OUT_OF_BLOCK" "[I") .int) = true := by decide +kernel
set_option maxRecDepth 100000 in
theorem st_l5 : st_w 82 (.eq (.length (Term.static "CountedActors$Capability" "OUT_OF_BLOCK" "[I")) (.int (Int32.ofNat 6))) = true := by decide +kernel
set_option maxRecDepth 100000 in
theorem st_e5_ : (List.range 6).all (fun j => st_w (st_e5.getD j 0) (.eq (.elem (Term.static "CountedActors$Capability" "OUT_OF_BLOCK" "[I") (.int (Int32.ofNat j))) (.int (tb_a5.getD j 0)))) = true := by decide +kernel
set_option maxRecDepth 100000 in
theorem st_s5 : st_v 462 (.laysStatic "CountedActors$Capability" "OUT_OF_BLOCK" "[I") = true := by decide +kernel
theorem st_T5 {args : Array Value} {s : State} {A : Nat → Prop} (hn : narrow_1.before args s = true) (hts : ∀ w ∈ lw_tbl, w.before args s = true) (hini : (Cond.initialized "CountedActors$Capability").before args s = true) (hA : ∀ a : Nat, a < s.heap.size → ¬ A a) : ∃ t : Nat, va_T .int t 6 (fun i => .int (tb_a5.getD i 0)) A s s.heap ∧ va_Z "CountedActors$Capability" "OUT_OF_BLOCK" "[I" (.ref t) A s s.heap := by
  obtain ⟨t, h1, h2⟩ := va_Tof (tm := (Term.static "CountedActors$Capability" "OUT_OF_BLOCK" "[I")) (N := 6) (f := fun i => .int (tb_a5.getD i 0)) (by decide) (st_w_at st_a5 hn) (va_eqt (st_w_at st_l5 hn)) (fun j hj => va_eqt (st_w_at (List.all_eq_true.mp st_e5_ j (List.mem_range.mpr hj)) hn)) hA
  exact ⟨t, h2, va_Zof (hts _ (st_v_in st_s5)) hini h1 hA⟩
set_option maxRecDepth 100000 in
theorem st_o0 : st_v 84 (.arrayOver (.object "CountedActors$Behaviour")) = true := by decide +kernel
set_option maxRecDepth 100000 in
theorem st_o1 : st_v 112 (.arrayOver (.object "CountedActors$Statement")) = true := by decide +kernel
set_option maxRecDepth 100000 in
theorem st_n0 : st_v 87 (Cond.methodLinkNest "CountedActors$Program" 19 ⟨"CountedActors$Draft", "<init>", "()V"⟩ "CountedActors") = true := by decide +kernel
set_option maxRecDepth 100000 in
theorem st_n1 : st_v 114 (Cond.methodLinkNest "CountedActors$Behaviour" 17 ⟨"CountedActors$Statement", "<init>", "()V"⟩ "CountedActors") = true := by decide +kernel
set_option maxRecDepth 100000 in
theorem st_n2 : st_v 194 (Cond.methodLinkNest "CountedActors" 38 ⟨"CountedActors$Mail", "<init>", "()V"⟩ "CountedActors") = true := by decide +kernel
set_option maxRecDepth 100000 in
theorem st_n3 : st_v 235 (Cond.methodLinkNest "CountedActors" 54 ⟨"CountedActors$Display", "<init>", "()V"⟩ "CountedActors") = true := by decide +kernel
set_option maxRecDepth 100000 in
theorem st_n4 : st_v 370 (Cond.methodLinkNest "CountedActors$Statement" 39 ⟨"CountedActors", "isField", "(I)Z"⟩ "CountedActors") = true := by decide +kernel
set_option maxRecDepth 100000 in
theorem st_cap : st_v 61 (.initialized "CountedActors$Capability") = true := by decide +kernel
set_option maxRecDepth 100000 in
theorem st_i0 : st_v 64 (.instantiable "CountedActors" 7) = true := by decide +kernel
set_option maxRecDepth 100000 in
theorem st_i1 : st_v 801 (.instantiable "CountedActorsModel" 27) = true := by decide +kernel
set_option maxRecDepth 100000 in
theorem st_i2 : st_v 106 (.instantiable "CountedActors$Behaviour" 3) = true := by decide +kernel
set_option maxRecDepth 100000 in
theorem st_i3 : st_v 234 (.instantiable "CountedActors$Display" 2) = true := by decide +kernel
set_option maxRecDepth 100000 in
theorem st_i4 : st_v 86 (.instantiable "CountedActors$Draft" 4) = true := by decide +kernel
set_option maxRecDepth 100000 in
theorem st_i5 : st_v 171 (.instantiable "CountedActors$Heap" 4) = true := by decide +kernel
set_option maxRecDepth 100000 in
theorem st_i6 : st_v 247 (.instantiable "CountedActors$Machine" 8) = true := by decide +kernel
set_option maxRecDepth 100000 in
theorem st_i7 : st_v 193 (.instantiable "CountedActors$Mail" 5) = true := by decide +kernel
set_option maxRecDepth 100000 in
theorem st_i8 : st_v 78 (.instantiable "CountedActors$Program" 4) = true := by decide +kernel
set_option maxRecDepth 100000 in
theorem st_i9 : st_v 113 (.instantiable "CountedActors$Statement" 5) = true := by decide +kernel
set_option maxRecDepth 100000 in
theorem st_i10 : st_v 215 (.instantiable "CountedActors$Walk" 4) = true := by decide +kernel
theorem st_known {args : Array Value} {s : State} (hts : ∀ w ∈ lw_tbl, w.before args s = true) : ∀ c : Nat, ∃ (cC : ClassId) (iS : Nat → Nat), ∀ q : vw_C, tb_cl[c]? = some q → u_Kn s q.1 q.2.1 q.2.2 cC iS := by
  intro c
  have hin : ∀ (C : String) (T : u_T) (N : Nat), tb_cl[c]? = some (C, T, N) → ∀ w ∈ u_ws C T N, w ∈ lw_tbl := fun C T N h w hw => (List.mem_filter.mp ((tb_gL 0 (fun _ => 0) c C T N h).2.2.2.1 w hw)).1
  have key : ∀ (C : String) (T : u_T) (N : Nat), tb_cl[c]? = some (C, T, N) → Cond.instantiable C N ∈ lw_tbl → ∃ (cC : ClassId) (iS : Nat → Nat), ∀ q : vw_C, tb_cl[c]? = some q → u_Kn s q.1 q.2.1 q.2.2 cC iS := by
    intro C T N h hi
    obtain ⟨cC, iS, hK⟩ := u_known hts (hin C T N h) (hts _ hi)
    exact ⟨cC, iS, fun q hq => by rw [h] at hq; cases hq; exact hK⟩
  by_cases hc : c < 11
  · rcases (show c = 0 ∨ c = 1 ∨ c = 2 ∨ c = 3 ∨ c = 4 ∨ c = 5 ∨ c = 6 ∨ c = 7 ∨ c = 8 ∨ c = 9 ∨ c = 10 by omega) with rfl | rfl | rfl | rfl | rfl | rfl | rfl | rfl | rfl | rfl | rfl
    · exact key _ _ _ rfl (st_v_in st_i0)
    · exact key _ _ _ rfl (st_v_in st_i1)
    · exact key _ _ _ rfl (st_v_in st_i2)
    · exact key _ _ _ rfl (st_v_in st_i3)
    · exact key _ _ _ rfl (st_v_in st_i4)
    · exact key _ _ _ rfl (st_v_in st_i5)
    · exact key _ _ _ rfl (st_v_in st_i6)
    · exact key _ _ _ rfl (st_v_in st_i7)
    · exact key _ _ _ rfl (st_v_in st_i8)
    · exact key _ _ _ rfl (st_v_in st_i9)
    · exact key _ _ _ rfl (st_v_in st_i10)
  · refine ⟨0, fun _ => 0, fun q hq => absurd (List.getElem?_eq_some_iff.mp hq).1 hc⟩
def st_ra (t0 t1 t2 t3 t4 t5 b : Nat) (k : Nat) : Nat := if k = 1048576 then t0 else if k = 1048577 then t1 else if k = 1048578 then t2 else if k = 1048579 then t3 else if k = 1048580 then t4 else if k = 1048581 then t5 else b
theorem st_ro {L : Nat} {xs : Nat → Int32} {k n : Nat} {f : Nat → Int32} (h : tb_ro L xs k = some (n, f)) : (k = 1048576 ∧ n = 6 ∧ f = fun i => tb_a0.getD i 0) ∨ (k = 1048577 ∧ n = 3 ∧ f = fun i => tb_a1.getD i 0) ∨ (k = 1048578 ∧ n = 6 ∧ f = fun i => tb_a2.getD i 0) ∨ (k = 1048579 ∧ n = 30 ∧ f = fun i => tb_a3.getD i 0) ∨ (k = 1048580 ∧ n = 18 ∧ f = fun i => tb_a4.getD i 0) ∨ (k = 1048581 ∧ n = 6 ∧ f = fun i => tb_a5.getD i 0) ∨ (k = 1048582 ∧ n = L ∧ f = xs) := by
  unfold tb_ro at h
  cases h0 : Nat.beq k 1048576 with
  | true => rw [h0] at h; cases h; exact Or.inl ⟨Nat.eq_of_beq_eq_true h0, rfl, rfl⟩
  | false =>
  rw [h0, cond_false] at h
  cases h1 : Nat.beq k 1048577 with
  | true => rw [h1] at h; cases h; exact Or.inr (Or.inl ⟨Nat.eq_of_beq_eq_true h1, rfl, rfl⟩)
  | false =>
  rw [h1, cond_false] at h
  cases h2 : Nat.beq k 1048578 with
  | true => rw [h2] at h; cases h; exact Or.inr (Or.inr (Or.inl ⟨Nat.eq_of_beq_eq_true h2, rfl, rfl⟩))
  | false =>
  rw [h2, cond_false] at h
  cases h3 : Nat.beq k 1048579 with
  | true => rw [h3] at h; cases h; exact Or.inr (Or.inr (Or.inr (Or.inl ⟨Nat.eq_of_beq_eq_true h3, rfl, rfl⟩)))
  | false =>
  rw [h3, cond_false] at h
  cases h4 : Nat.beq k 1048580 with
  | true => rw [h4] at h; cases h; exact Or.inr (Or.inr (Or.inr (Or.inr (Or.inl ⟨Nat.eq_of_beq_eq_true h4, rfl, rfl⟩))))
  | false =>
  rw [h4, cond_false] at h
  cases h5 : Nat.beq k 1048581 with
  | true => rw [h5] at h; cases h; exact Or.inr (Or.inr (Or.inr (Or.inr (Or.inr (Or.inl ⟨Nat.eq_of_beq_eq_true h5, rfl, rfl⟩)))))
  | false =>
  rw [h5, cond_false] at h
  cases h6 : Nat.beq k 1048582 with
  | true => rw [h6] at h; cases h; exact Or.inr (Or.inr (Or.inr (Or.inr (Or.inr (Or.inr ⟨Nat.eq_of_beq_eq_true h6, rfl, rfl⟩)))))
  | false =>
  rw [h6] at h
  cases h
/-- at the law's entry -/
theorem st_E {s : State} {b L : Nat} {xs : Nat → Int32} (hts : ∀ w ∈ lw_tbl, w.before #[Value.ref b] s = true) (hn : narrow_1.before #[Value.ref b] s = true) (hX : va_X b L xs s s.heap) : ∃ ra : Nat → Nat, am_E (tb_P L xs) tb_X ra (fun q => s.heap.size ≤ q) s s.heap ∧ ra 1048582 = b := by
  have hA : ∀ a : Nat, a < s.heap.size → ¬ (fun q => s.heap.size ≤ q) a := fun a h h' => by
    have h' : s.heap.size ≤ a := h'
    omega
  have hini := hts _ (st_v_in st_cap)
  obtain ⟨t0, T0, Z0⟩ := st_T0 (A := fun q => s.heap.size ≤ q) hn hts hini hA
  obtain ⟨t1, T1, Z1⟩ := st_T1 (A := fun q => s.heap.size ≤ q) hn hts hini hA
  obtain ⟨t2, T2, Z2⟩ := st_T2 (A := fun q => s.heap.size ≤ q) hn hts hini hA
  obtain ⟨t3, T3, Z3⟩ := st_T3 (A := fun q => s.heap.size ≤ q) hn hts hini hA
  obtain ⟨t4, T4, Z4⟩ := st_T4 (A := fun q => s.heap.size ≤ q) hn hts hini hA
  obtain ⟨t5, T5, Z5⟩ := st_T5 (A := fun q => s.heap.size ≤ q) hn hts hini hA
  refine ⟨st_ra t0 t1 t2 t3 t4 t5 b, ⟨fun w hw => ?_, fun j hj C n d e1 e2 => ?_, fun k n f hk => ?_, fun C hC => ?_⟩, rfl⟩
  · have hw : w ∈ tb_N := hw
    simp only [tb_N, List.mem_cons, List.not_mem_nil, or_false] at hw
    rcases hw with rfl | rfl | rfl | rfl | rfl
    · exact va_Nw.of rfl (hts _ (st_v_in st_n0))
    · exact va_Nw.of rfl (hts _ (st_v_in st_n1))
    · exact va_Nw.of rfl (hts _ (st_v_in st_n2))
    · exact va_Nw.of rfl (hts _ (st_v_in st_n3))
    · exact va_Nw.of rfl (hts _ (st_v_in st_n4))
  · have hj : tb_ro L xs (1048576 + j) ≠ none := hj
    obtain ⟨q, hq⟩ := Option.ne_none_iff_exists'.mp hj
    rcases st_ro (n := q.1) (f := q.2) hq with ⟨h, -⟩ | ⟨h, -⟩ | ⟨h, -⟩ | ⟨h, -⟩ | ⟨h, -⟩ | ⟨h, -⟩ | ⟨h, -⟩
    · obtain rfl : j = 0 := by omega
      cases e1; exact Z0
    · obtain rfl : j = 1 := by omega
      cases e1; exact Z1
    · obtain rfl : j = 2 := by omega
      cases e1; exact Z2
    · obtain rfl : j = 3 := by omega
      cases e1; exact Z3
    · obtain rfl : j = 4 := by omega
      cases e1; exact Z4
    · obtain rfl : j = 5 := by omega
      cases e1; exact Z5
    · obtain rfl : j = 6 := by omega
      cases e1
      exact absurd rfl e2
  · rcases st_ro hk with ⟨rfl, rfl, rfl⟩ | ⟨rfl, rfl, rfl⟩ | ⟨rfl, rfl, rfl⟩ | ⟨rfl, rfl, rfl⟩ | ⟨rfl, rfl, rfl⟩ | ⟨rfl, rfl, rfl⟩ | ⟨rfl, rfl, rfl⟩
    · exact T0
    · exact T1
    · exact T2
    · exact T3
    · exact T4
    · exact T5
    · obtain ⟨scr, h1, h2, h3, h4, h5⟩ := hX
      exact ⟨scr, h1, h2, h3, by rw [h4]; exact Nat.le_refl _, by rw [h4], h5, hA b (Array.getElem?_eq_some_iff.mp h1).1⟩
  · have hC : C ∈ tb_AO := hC
    simp only [tb_AO, List.mem_cons, List.not_mem_nil, or_false] at hC
    rcases hC with rfl | rfl
    · exact va_AO.of (hts _ (st_v_in st_o0))
    · exact va_AO.of (hts _ (st_v_in st_o1))
end
section
/-! THE CLAIM OUT OF ONE WALK OF THE LAW'S BODY. Your part is whole_start (and what it stands on); all else here is the same for every law, but numbers. -/
def R_law : String := "CountedActorsLaw"
def lw_P (b : Addr) (xs : List Int32) (args : Array Value) (s : State) : Prop := args = #[.ref b] ∧ s.IntsAt b xs ∧ xs.length ≤ 3073 ∧ (Jvm.Cond.and given_1 narrow_1).before args s = true
def lw_Q (_ : Array Value) (s : State) (o : Outcome) (t : State) : Prop := o = .returned (some (.int 1)) ∧ Framed s o t [] 600000 7302250
def lw_Z (below : List Frame) (a : Array Value) (s : State) : State → Prop := fun t => ∃ o, t.status = .running ∧ Ended t below o ∧ lw_Q a s o t
/-- the law's own end, with 1 on the stack, nothing written that was there before, its room as the claim has it -/
theorem lw_ret {p : Program} {l : Launch} {e : Env} {s : State} {m : MethodId} {below : List Frame} {meth : Method} {c : Code} {b : Nat} (hx : p.tables.exec = Jvm.exec) (hb : c.code = code) (hr : meth.sig.returnType = ret) (hlocks : meth.locks = false) {pc : Nat} {H : Heap} {ls : Array Slot} (hdg : decode code pc = .ok (.ireturn, 1)) : W p l e room_1 s m #[Value.ref b] below meth c H [] 600000 7302250 (lw_Z below #[Value.ref b] s) (F0 m pc ls [.int 1]) := by
  intro T hT X
  obtain ⟨fs, hret, hrun, hended, hW, hframe⟩ := X.leave (v := some (.int 1)) (hlocks := hlocks) (fun h => by rw [hr] at h; cases h)
  have hmeth' : T.vm.method? m = some meth := X.method'
  refine ⟨T.setFrames fs, ?_, .returned (some (.int 1)), hrun, hended, rfl, ⟨_, rfl⟩, hW, hframe⟩
  jvm_step X.here [X.here.top, hx, hb, hdg, hmeth', hr, ret, narrow_b1]
  (try refine ⟨rfl, ?_⟩); (try refine ⟨rfl, ?_⟩)
  first | (intro acts; rw [hret _ acts rfl rfl rfl]) | rw [hret _ _ rfl rfl rfl]
  exact Steps.refl _
/-- what holds at the law's entry: the machine, the code, the tables' words (any of lw_tbl by 'hts w (by decide +kernel)'), the script of L ints xs at the cell b, what the Statement gives of the start (any of its parts by flat_of_before) -/
def lw_At (p : Program) (s : State) (m : MethodId) (meth : Method) (c : Code) (b L : Nat) (xs : Nat → Int32) : Prop :=
  p.tables.exec = Jvm.exec ∧ c.code = code ∧ meth.sig.returnType = ret ∧ c.maxLocals = 4 ∧ s.vm.findClass R_law = some m.cls ∧ (∀ w ∈ lw_tbl, w.before #[Value.ref b] s = true) ∧ va_X b L xs s s.heap ∧ b < s.heap.size ∧ meth.locks = false ∧ (Jvm.Cond.and given_1 narrow_1).before #[Value.ref b] s = true
/-- THE WHOLE CLAIM OUT OF THE SMALL MACHINE: if it answers 1 on the law, with this script, within the room, so does the real one -/
theorem wh_go {p : Program} {e : Env} {s : State} {m : MethodId} {below : List Frame} {meth : Method} {c : Code} (l : Launch) {b L : Nat} {xs : Nat → Int32} (C0 : lw_At p s m meth c b L xs) {sh' : List am_C} {M' : am_M} (hev : am_ev (tb_P L xs) 0 0 [some (.ref 1048582), none, none, none] [] [] (fun _ _ => 0) (some (.int 1), sh', M')) (hc : sh'.length ≤ 600000) (hs : am_sz sh' ≤ 7302250) :
    W p l e room_1 s m #[Value.ref b] below meth c s.heap [] 0 0 (lw_Z below #[Value.ref b] s) (entryFrame m ([Value.ref b] : List Value).toArray 4) := by
  obtain ⟨hx, hb, hr, hml, hown, hts, hX, hbl, hlocks, hgv⟩ := C0
  have hn : narrow_1.before #[Value.ref b] s = true := by
    rw [Cond.before_and, Bool.and_eq_true] at hgv
    exact hgv.2
  obtain ⟨ra, hE, hra⟩ := st_E hts hn hX
  have hk := st_known hts
  have hK : va_K (fun c => Classical.choose (hk c), fun c => Classical.choose (Classical.choose_spec (hk c))) tb_cl [] s := ⟨fun c q hq => Classical.choose_spec (Classical.choose_spec (hk c)) q hq, fun k q h => by simp at h⟩
  generalize (fun c => Classical.choose (hk c), fun c => Classical.choose (Classical.choose_spec (hk c))) = D at hK
  have hG := am_sound (D := D) (ra := ra) (A := fun q => s.heap.size ≤ q) (l := l) (tb_good L xs) hev
  have hF : am_F (tb_P L xs) tb_X 0 p room_1 s m #[Value.ref b] meth c := ⟨hx, hb, hml, hr, hlocks, fun w hw => hts w (List.mem_filter.mp hw).1, hown, fun h => absurd h (by decide), by decide, by decide⟩
  have hl := lv_entry ([.ref b]) (n := 4) (Nat.le_of_ble_eq_true rfl)
  rw [lg_entry_eq]
  generalize (lg_sl ([.ref b]) ++ List.replicate (4 - (lg_sl ([.ref b])).length) Slot.unset).toArray = ls at hl ⊢
  have had : am_ad ra [] 1048582 = b := by
    rw [am_ad_big (Nat.zero_le _)]
    exact hra
  have hL : am_L ra [] 4 [some (.ref 1048582), none, none, none] ls := am_L.entry (n := 4) (as := [.ref 1048582]) (by decide) (fun v hv => by
    rw [List.mem_singleton.mp hv]
    exact Or.inr (by decide)) (by
    show lv_has ls 4 (lv_args 0 [.ref (am_ad ra [] 1048582)])
    rw [had]
    exact hl)
  have hO : am_Wo D tb_cl ra (fun q => s.heap.size ≤ q) s s.heap [] [] [] [] (fun _ _ => 0) := ⟨⟨rfl, Nat.zero_le _, fun k c h => by simp at h⟩, fun k q h => by simp at h, ⟨fun i j p q h => by simp at h, fun k q h => by simp at h⟩, hK, va_S.rf, fun q h => h⟩
  refine hG.2 p e room_1 s m #[Value.ref b] below meth c s.heap [] 0 0 (lw_Z below #[Value.ref b] s) ls [] [] hF hE hO hL (fun v hv => by cases hv) (by rw [Nat.zero_add]; exact Nat.le_trans (Nat.sub_le _ _) hc) (by rw [Nat.zero_add]; exact Nat.le_trans (Nat.sub_le _ _) hs) (fun ws' tys' H' locs' pc' ls' hO' hx' hok hrt => ?_)
  rcases hrt with ⟨h1, -⟩ | ⟨x, ty, h1, h2, h3, h4⟩ | ⟨a, nm, h1, -⟩
  · cases h1
  · cases h1
    refine va_forget (fun q hq => hO'.2.2.2.2.1.2.2 q hq) ?_
    refine W.widen (k := 600000) (n := 7302250) (by rw [Nat.zero_add]; exact Nat.le_trans (Nat.sub_le _ _) hc) (by rw [Nat.zero_add]; exact Nat.le_trans (Nat.sub_le _ _) hs) ?_
    exact lw_ret hx hb hr hlocks h4
  · cases h1
end
section
/-- what is left: the small machine answers 1 on every script -/
theorem wh_main {L : Nat} (xs : Nat → Int32) (hL : L ≤ 3073) : ∃ (sh' : List am_C) (M' : am_M), am_ev (tb_P L xs) 0 0 [some (.ref 1048582), none, none, none] [] [] (fun _ _ => 0) (some (.int 1), sh', M') ∧ sh'.length ≤ 600000 ∧ am_sz sh' ≤ 7302250 := by
  sorry
end
section
/-- YOUR PART: from the entry, for every script of at most 3073 ints, the law comes to its end with true -/
theorem whole_start {p : Program} {e : Env} {s : State} {m : MethodId} {below : List Frame} {meth : Method} {c : Code} (l : Launch) {b L : Nat} {xs : Nat → Int32} (hL : L ≤ 3073) (C0 : lw_At p s m meth c b L xs) : W p l e room_1 s m #[Value.ref b] below meth c s.heap [] 0 0 (lw_Z below #[Value.ref b] s) (entryFrame m ([Value.ref b] : List Value).toArray 4) := by
  obtain ⟨sh', M', h1, h2, h3⟩ := wh_main xs hL
  exact wh_go l C0 h1 h2 h3
set_option maxHeartbeats 4000000 in
theorem lw_walk (l : Launch) (b : Addr) (xs : List Int32) : MetFree l x (headSpec (Jvm.Cond.code x code maxLocals ret :: tables_1) room_1) (lw_P b xs) (fun _ _ _ _ _ => True) lw_Q := by
  refine MetFree.of_bodyS (code := code) (maxLocals := maxLocals) (ret := ret) (by decide) ?_ ?_
  · intro args s m h hn
    obtain ⟨meth, c, h1, h2, h3, h4, h5, h6, -, -⟩ := Cond.code_spec hn (atoms_spec (ws := Jvm.Cond.code x code maxLocals ret :: tables_1) h _ List.mem_cons_self)
    exact ⟨meth, c, h1, h2, h3, h4, h5, h6⟩
  · intro p e s m args below meth c s₁ B hml0 hP _
    obtain ⟨rfl, hx, hbd, hgv⟩ := hP
    obtain ⟨scr, harrAt, hlist, hof, hsmall⟩ := hx
    obtain ⟨hcb, hkn, -, -⟩ := State.arrayAt?_spec harrAt
    have hown : s.vm.findClass R_law = some m.cls := findClass_of_methodNamed B.named
    have hts0 : ∀ c ∈ (Jvm.Cond.code x code maxLocals ret :: tables_1), c.before #[Value.ref b] s = true := atoms_spec (ws := Jvm.Cond.code x code maxLocals ret :: tables_1) B.pre
    have hts : ∀ w ∈ lw_tbl, w.before #[Value.ref b] s = true := k2_hts_sels lw_privs (fun w hw => hts0 w (List.mem_cons_of_mem _ hw)) lw_privs_ok
    have hml : c.maxLocals = 4 := B.maxLocals_eq (hts0 _ List.mem_cons_self)
    have X₀ : Stand p l e room_1 s m #[Value.ref b] below meth c s₁ [] 0 0 := Stand.of_body B
    have hh0 : s₁.heap = s.heap := by rw [B.state]; rfl
    have hsz : scr.slots.size = xs.length := by rw [← Array.length_toList, hlist, List.length_map]
    have hval : ∀ j : Nat, j < xs.length → scr.slots[j]? = some (.int (xs.getD j 0)) := fun j hj => by
      rw [← Array.getElem?_toList, hlist]
      simp [hj]
    have hbl : b < s.heap.size := (Array.getElem?_eq_some_iff.mp hcb).1
    have hX : va_X b xs.length (fun j => xs.getD j 0) s s.heap := ⟨scr, hcb, hof, hkn, hsz, hval⟩
    have K : W p l e room_1 s m #[Value.ref b] below meth c s₁.heap [] 0 0 (lw_Z below #[Value.ref b] s) (entryFrame m ([Value.ref b] : List Value).toArray 4) := by
      rw [hh0]
      exact whole_start l hbd ⟨B.exec, B.bytes, B.returns, hml, hown, hts, hX, hbl, B.notSynchronized, hgv⟩
    obtain ⟨t, a1, o, b1, b2, b3⟩ := K s₁ rfl X₀
    exact ⟨t, o, a1, b1, b2, b3⟩
theorem lw_pre_spec {args : Array Value} {s : State} (h : (Jvm.Cond.and given_1 narrow_1).before args s = true) (hr : rest_1_c.before args s = true) : ∃ (b : Addr) (xs : List Int32), lw_P b xs args s := by
  have hs := flat_of_before _ h
  have hq := flat_of_before _ hr
  have hc : (Cond.count 1).before args s = true := hs _ (by decide +kernel)
  have harr : (Cond.arrayOf (.arg 0) .int).before args s = true := hs _ (by decide +kernel)
  have hle : (Cond.le (.length (.arg 0)) (.int 3073)).before args s = true := hs _ (by decide +kernel)
  have hlen : (Cond.isInt (.length (.arg 0))).before args s = true := hq _ (by decide +kernel)
  have hall : (Cond.all (.arg 0) (.isInt (.elem (.arg 0) (.index 0)))).before args s = true := hq _ (by decide +kernel)
  obtain ⟨b, xs, hb, hx⟩ := State.ints_of_pre rfl harr hlen hall
  have hsm : xs.length < 2 ^ 31 := hx.choose_spec.2.2.2
  have hev : (Term.length (.arg 0)).eval args s none [] s = some (.int xs.length.toInt32) := hx.length_eval hb
  have hv := Cond.le_ints hev (show (Term.int 3073).eval args s none [] s = some (.int 3073) from rfl)
  have hd : xs.length.toInt32 ≤ 3073 := by
    simpa [Cond.before, Cond.holds, hv] using hle
  have hN : xs.length ≤ 3073 := (Int32.ofNat_le_ofNat hsm (by decide)).mp (show Int32.ofNat xs.length ≤ Int32.ofNat 3073 from hd)
  exact ⟨b, xs, Cond.one_arg hc (show args[0]? = some (.ref b) from hb), hx, hN, h⟩
theorem lw_comes (l : Launch) : Comes l x (Jvm.Cond.code x code maxLocals ret :: tables_1) room_1 (fun tb e args s => Calls_1 tb e args s ∧ rest_1 tb e args s ∧ Pre_1 tb e args s)
    (fun _ _ args s o t => lw_Q args s o t) := by
  intro p e ha hc hk s m args below hf hfit hheap happ hpre
  obtain ⟨b, xs, hP⟩ := lw_pre_spec hpre.2.2 hpre.2.1
  obtain ⟨k, o, h1, h2, h3, hQ⟩ := lw_walk l b xs p e ha hc hk s m args below hf ((Spec.applies_iff_loose hf).mp happ).1 hP trivial
  exact ⟨k, o, h1, h2, h3, hQ⟩
theorem lw_frame {s t : State} {o : Outcome} {args : Array Value} (h : Framed s o t [] 600000 7302250) :
    Framed s o t (fieldLocs frame_1_writes args s ++ arrayLocs frame_1_arrays args s ++ staticLocs frame_1_statics s) 600000 7302250 := h
theorem lw_limb (L : Cond) (hL : ∀ (args : Array Value) (s t : State), L.after args s (.returned (some (.int 1))) t = true) :
    ArmFor flags0 classFile x code maxLocals ret World_1 tables_1 room_1 Calls_1 rest_1 Pre_1
      (fun tb e a s o t => postC L tb e a s o t ∧ Framed s o t (fieldLocs frame_1_writes a s ++ arrayLocs frame_1_arrays a s ++ staticLocs frame_1_statics s) 600000 7302250) := by
  intro l _ _ _ p e ha hc hk s m args below hf hfit hheap happ hpre
  obtain ⟨k, o, h1, h2, h3, rfl, hF⟩ := lw_comes l p e ha hc hk s m args below hf hfit hheap happ hpre
  exact ⟨k, _, h1, h2, h3, hL args s _, lw_frame hF⟩
theorem i_vc : Claimed_1_1 ∧ Claimed_1_2 := ⟨lw_limb limb_1_1 (fun args s t => by simp [limb_1_1, Cond.after, Cond.holds, Cond.value]), lw_limb limb_1_2 (fun args s t => Cond.after_iff.mpr (by
  first | (rw [show limb_1_2 = Cond.eq .result (.int 1) from rfl, Cond.eq_ints (x := 1) (y := 1) rfl rfl]; simp; done) | (simp [limb_1_2, Cond.value, Term.eval]; done)))⟩
end
