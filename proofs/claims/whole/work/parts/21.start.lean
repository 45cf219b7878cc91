/-! The law's entry: what the small machine needs there -/
def st_w (i : Nat) (w : Cond) : Bool := decide ((flatC narrow_1)[i]? = some w)
theorem st_w_at {i : Nat} {w : Cond} {args : Array Value} {s : State} (h : st_w i w = true) (hn : narrow_1.before args s = true) : w.before args s = true :=
  flat_of_before narrow_1 hn w (List.mem_of_getElem? (of_decide_eq_true h))
def st_v (i : Nat) (w : Cond) : Bool := decide (lw_tbl[i]? = some w)
theorem st_v_in {i : Nat} {w : Cond} (h : st_v i w = true) : w ∈ lw_tbl := List.mem_of_getElem? (of_decide_eq_true h)
def st_e0 : List Nat := [5, 6, 7, 8, 9, 10]
set_option maxRecDepth 100000 in
theorem st_a0 : st_w 3 (.arrayOf (Term.static "CountedActors$Capability" "ALIAS" "[I") .int) = true := by decide +kernel
set_option maxRecDepth 100000 in
theorem st_l0 : st_w 4 (.eq (.length (Term.static "CountedActors$Capability" "ALIAS" "[I")) (.int (Int32.ofNat 6))) = true := by decide +kernel
set_option maxRecDepth 100000 in
theorem st_e0_ : (List.range 6).all (fun j => st_w (st_e0.getD j 0) (.eq (.elem (Term.static "CountedActors$Capability" "ALIAS" "[I") (.int (Int32.ofNat j))) (.int (tb_a0.getD j 0)))) = true := by decide +kernel
set_option maxRecDepth 100000 in
theorem st_s0 : st_v 399 (.laysStatic "CountedActors$Capability" "ALIAS" "[I") = true := by decide +kernel
theorem st_T0 {args : Array Value} {s : State} {A : Nat → Prop} (hn : narrow_1.before args s = true) (hts : ∀ w ∈ lw_tbl, w.before args s = true) (hini : (Cond.initialized "CountedActors$Capability").before args s = true) (hA : ∀ a : Nat, a < s.heap.size → ¬ A a) : ∃ t : Nat, va_T .int t 6 (fun i => .int (tb_a0.getD i 0)) A s s.heap ∧ va_Z "CountedActors$Capability" "ALIAS" "[I" (.ref t) A s s.heap := by
  obtain ⟨t, h1, h2⟩ := va_Tof (tm := (Term.static "CountedActors$Capability" "ALIAS" "[I")) (N := 6) (f := fun i => .int (tb_a0.getD i 0)) (by decide) (st_w_at st_a0 hn) (va_eqt (st_w_at st_l0 hn)) (fun j hj => va_eqt (st_w_at (List.all_eq_true.mp st_e0_ j (List.mem_range.mpr hj)) hn)) hA
  exact ⟨t, h2, va_Zof (hts _ (st_v_in st_s0)) hini h1 hA⟩
def st_e1 : List Nat := [14, 15, 16]
set_option maxRecDepth 100000 in
theorem st_a1 : st_w 12 (.arrayOf (Term.static "CountedActors$Capability" "SAFE" "[I") .int) = true := by decide +kernel
set_option maxRecDepth 100000 in
theorem st_l1 : st_w 13 (.eq (.length (Term.static "CountedActors$Capability" "SAFE" "[I")) (.int (Int32.ofNat 3))) = true := by decide +kernel
set_option maxRecDepth 100000 in
theorem st_e1_ : (List.range 3).all (fun j => st_w (st_e1.getD j 0) (.eq (.elem (Term.static "CountedActors$Capability" "SAFE" "[I") (.int (Int32.ofNat j))) (.int (tb_a1.getD j 0)))) = true := by decide +kernel
set_option maxRecDepth 100000 in
theorem st_s1 : st_v 408 (.laysStatic "CountedActors$Capability" "SAFE" "[I") = true := by decide +kernel
theorem st_T1 {args : Array Value} {s : State} {A : Nat → Prop} (hn : narrow_1.before args s = true) (hts : ∀ w ∈ lw_tbl, w.before args s = true) (hini : (Cond.initialized "CountedActors$Capability").before args s = true) (hA : ∀ a : Nat, a < s.heap.size → ¬ A a) : ∃ t : Nat, va_T .int t 3 (fun i => .int (tb_a1.getD i 0)) A s s.heap ∧ va_Z "CountedActors$Capability" "SAFE" "[I" (.ref t) A s s.heap := by
  obtain ⟨t, h1, h2⟩ := va_Tof (tm := (Term.static "CountedActors$Capability" "SAFE" "[I")) (N := 3) (f := fun i => .int (tb_a1.getD i 0)) (by decide) (st_w_at st_a1 hn) (va_eqt (st_w_at st_l1 hn)) (fun j hj => va_eqt (st_w_at (List.all_eq_true.mp st_e1_ j (List.mem_range.mpr hj)) hn)) hA
  exact ⟨t, h2, va_Zof (hts _ (st_v_in st_s1)) hini h1 hA⟩
def st_e2 : List Nat := [20, 21, 22, 23, 24, 25]
set_option maxRecDepth 100000 in
theorem st_a2 : st_w 18 (.arrayOf (Term.static "CountedActors$Capability" "FITS" "[I") .int) = true := by decide +kernel
set_option maxRecDepth 100000 in
theorem st_l2 : st_w 19 (.eq (.length (Term.static "CountedActors$Capability" "FITS" "[I")) (.int (Int32.ofNat 6))) = true := by decide +kernel
set_option maxRecDepth 100000 in
theorem st_e2_ : (List.range 6).all (fun j => st_w (st_e2.getD j 0) (.eq (.elem (Term.static "CountedActors$Capability" "FITS" "[I") (.int (Int32.ofNat j))) (.int (tb_a2.getD j 0)))) = true := by decide +kernel
set_option maxRecDepth 100000 in
theorem st_s2 : st_v 413 (.laysStatic "CountedActors$Capability" "FITS" "[I") = true := by decide +kernel
theorem st_T2 {args : Array Value} {s : State} {A : Nat → Prop} (hn : narrow_1.before args s = true) (hts : ∀ w ∈ lw_tbl, w.before args s = true) (hini : (Cond.initialized "CountedActors$Capability").before args s = true) (hA : ∀ a : Nat, a < s.heap.size → ¬ A a) : ∃ t : Nat, va_T .int t 6 (fun i => .int (tb_a2.getD i 0)) A s s.heap ∧ va_Z "CountedActors$Capability" "FITS" "[I" (.ref t) A s s.heap := by
  obtain ⟨t, h1, h2⟩ := va_Tof (tm := (Term.static "CountedActors$Capability" "FITS" "[I")) (N := 6) (f := fun i => .int (tb_a2.getD i 0)) (by decide) (st_w_at st_a2 hn) (va_eqt (st_w_at st_l2 hn)) (fun j hj => va_eqt (st_w_at (List.all_eq_true.mp st_e2_ j (List.mem_range.mpr hj)) hn)) hA
  exact ⟨t, h2, va_Zof (hts _ (st_v_in st_s2)) hini h1 hA⟩
def st_e3 : List Nat := [29, 30, 31, 32, 33, 34, 35, 36, 37, 38, 39, 40, 41, 42, 43, 44, 45, 46, 47, 48, 49, 50, 51, 52, 53, 54, 55, 56, 57, 58]
set_option maxRecDepth 100000 in
theorem st_a3 : st_w 27 (.arrayOf (Term.static "CountedActors$Capability" "VIEW" "[I") .int) = true := by decide +kernel
set_option maxRecDepth 100000 in
theorem st_l3 : st_w 28 (.eq (.length (Term.static "CountedActors$Capability" "VIEW" "[I")) (.int (Int32.ofNat 30))) = true := by decide +kernel
set_option maxRecDepth 100000 in
theorem st_e3_ : (List.range 30).all (fun j => st_w (st_e3.getD j 0) (.eq (.elem (Term.static "CountedActors$Capability" "VIEW" "[I") (.int (Int32.ofNat j))) (.int (tb_a3.getD j 0)))) = true := by decide +kernel
set_option maxRecDepth 100000 in
theorem st_s3 : st_v 443 (.laysStatic "CountedActors$Capability" "VIEW" "[I") = true := by decide +kernel
theorem st_T3 {args : Array Value} {s : State} {A : Nat → Prop} (hn : narrow_1.before args s = true) (hts : ∀ w ∈ lw_tbl, w.before args s = true) (hini : (Cond.initialized "CountedActors$Capability").before args s = true) (hA : ∀ a : Nat, a < s.heap.size → ¬ A a) : ∃ t : Nat, va_T .int t 30 (fun i => .int (tb_a3.getD i 0)) A s s.heap ∧ va_Z "CountedActors$Capability" "VIEW" "[I" (.ref t) A s s.heap := by
  obtain ⟨t, h1, h2⟩ := va_Tof (tm := (Term.static "CountedActors$Capability" "VIEW" "[I")) (N := 30) (f := fun i => .int (tb_a3.getD i 0)) (by decide) (st_w_at st_a3 hn) (va_eqt (st_w_at st_l3 hn)) (fun j hj => va_eqt (st_w_at (List.all_eq_true.mp st_e3_ j (List.mem_range.mpr hj)) hn)) hA
  exact ⟨t, h2, va_Zof (hts _ (st_v_in st_s3)) hini h1 hA⟩
def st_e4 : List Nat := [62, 63, 64, 65, 66, 67, 68, 69, 70, 71, 72, 73, 74, 75, 76, 77, 78, 79]
set_option maxRecDepth 100000 in
theorem st_a4 : st_w 60 (.arrayOf (Term.static "CountedActors$Capability" "DRAWN" "[I") .int) = true := by decide +kernel
set_option maxRecDepth 100000 in
theorem st_l4 : st_w 61 (.eq (.length (Term.static "CountedActors$Capability" "DRAWN" "[I")) (.int (Int32.ofNat 18))) = true := by decide +kernel
set_option maxRecDepth 100000 in
theorem st_e4_ : (List.range 18).all (fun j => st_w (st_e4.getD j 0) (.eq (.elem (Term.static "CountedActors$Capability" "DRAWN" "[I") (.int (Int32.ofNat j))) (.int (tb_a4.getD j 0)))) = true := by decide +kernel
set_option maxRecDepth 100000 in
theorem st_s4 : st_v 448 (.laysStatic "CountedActors$Capability" "DRAWN" "[I") = true := by decide +kernel
theorem st_T4 {args : Array Value} {s : State} {A : Nat → Prop} (hn : narrow_1.before args s = true) (hts : ∀ w ∈ lw_tbl, w.before args s = true) (hini : (Cond.initialized "CountedActors$Capability").before args s = true) (hA : ∀ a : Nat, a < s.heap.size → ¬ A a) : ∃ t : Nat, va_T .int t 18 (fun i => .int (tb_a4.getD i 0)) A s s.heap ∧ va_Z "CountedActors$Capability" "DRAWN" "[I" (.ref t) A s s.heap := by
  obtain ⟨t, h1, h2⟩ := va_Tof (tm := (Term.static "CountedActors$Capability" "DRAWN" "[I")) (N := 18) (f := fun i => .int (tb_a4.getD i 0)) (by decide) (st_w_at st_a4 hn) (va_eqt (st_w_at st_l4 hn)) (fun j hj => va_eqt (st_w_at (List.all_eq_true.mp st_e4_ j (List.mem_range.mpr hj)) hn)) hA
  exact ⟨t, h2, va_Zof (hts _ (st_v_in st_s4)) hini h1 hA⟩
def st_e5 : List Nat := [83, 84, 85, 86, 87, 88]
set_option maxRecDepth 100000 in
theorem st_a5 : st_w 81 (.arrayOf (Term.static "CountedActors$Capability" "OUT_OF_BLOCK" "[I") .int) = true := by decide +kernel
set_option maxRecDepth 100000 in
theorem st_l5 : st_w 82 (.eq (.length (Term.static "CountedActors$Capability" "OUT_OF_BLOCK" "[I")) (.int (Int32.ofNat 6))) = true := by decide +kernel
set_option maxRecDepth 100000 in
theorem st_e5_ : (List.range 6).all (fun j => st_w (st_e5.getD j 0) (.eq (.elem (Term.static "CountedActors$Capability" "OUT_OF_BLOCK" "[I") (.int (Int32.ofNat j))) (.int (tb_a5.getD j 0)))) = true := by decide +kernel
set_option maxRecDepth 100000 in
theorem st_s5 : st_v 462 (.laysStatic "CountedActors$Capability" "OUT_OF_BLOCK" "[I") = true := by decide +kernel
theorem st_T5 {args : Array Value} {s : State} {A : Nat → Prop} (hn : narrow_1.before args s = true) (hts : ∀ w ∈ lw_tbl, w.before args s = true) (hini : (Cond.initialized "CountedActors$Capability").before args s = true) (hA : ∀ a : Nat, a < s.heap.size → ¬ A a) : ∃ t : Nat, va_T .int t 6 (fun i => .int (tb_a5.getD i 0)) A s s.heap ∧ va_Z "CountedActors$Capability" "OUT_OF_BLOCK" "[I" (.ref t) A s s.heap := by
  obtain ⟨t, h1, h2⟩ := va_Tof (tm := (Term.static "CountedActors$Capability" "OUT_OF_BLOCK" "[I")) (N := 6) (f := fun i => .int (tb_a5.getD i 0)) (by decide) (st_w_at st_a5 hn) (va_eqt (st_w_at st_l5 hn)) (fun j hj => va_eqt (st_w_at (List.all_eq_true.mp st_e5_ j (List.mem_range.mpr hj)) hn)) hA
  exact ⟨t, h2, va_Zof (hts _ (st_v_in st_s5)) hini h1 hA⟩
set_option maxRecDepth 100000 in
theorem st_o0 : st_v 84 (.arrayOver (.object "CountedActors$Behaviour")) = true := by decide +kernel
set_option maxRecDepth 100000 in
theorem st_o1 : st_v 112 (.arrayOver (.object "CountedActors$Statement")) = true := by decide +kernel
set_option maxRecDepth 100000 in
theorem st_n0 : st_v 87 (Cond.methodLinkNest "CountedActors$Program" 19 ⟨"CountedActors$Draft", "<init>", "()V"⟩ "CountedActors") = true := by decide +kernel
set_option maxRecDepth 100000 in
theorem st_n1 : st_v 114 (Cond.methodLinkNest "CountedActors$Behaviour" 17 ⟨"CountedActors$Statement", "<init>", "()V"⟩ "CountedActors") = true := by decide +kernel
set_option maxRecDepth 100000 in
theorem st_n2 : st_v 194 (Cond.methodLinkNest "CountedActors" 38 ⟨"CountedActors$Mail", "<init>", "()V"⟩ "CountedActors") = true := by decide +kernel
set_option maxRecDepth 100000 in
theorem st_n3 : st_v 235 (Cond.methodLinkNest "CountedActors" 54 ⟨"CountedActors$Display", "<init>", "()V"⟩ "CountedActors") = true := by decide +kernel
set_option maxRecDepth 100000 in
theorem st_n4 : st_v 370 (Cond.methodLinkNest "CountedActors$Statement" 39 ⟨"CountedActors", "isField", "(I)Z"⟩ "CountedActors") = true := by decide +kernel
set_option maxRecDepth 100000 in
theorem st_cap : st_v 61 (.initialized "CountedActors$Capability") = true := by decide +kernel
set_option maxRecDepth 100000 in
theorem st_i0 : st_v 64 (.instantiable "CountedActors" 7) = true := by decide +kernel
set_option maxRecDepth 100000 in
theorem st_i1 : st_v 801 (.instantiable "CountedActorsModel" 27) = true := by decide +kernel
set_option maxRecDepth 100000 in
theorem st_i2 : st_v 106 (.instantiable "CountedActors$Behaviour" 3) = true := by decide +kernel
set_option maxRecDepth 100000 in
theorem st_i3 : st_v 234 (.instantiable "CountedActors$Display" 2) = true := by decide +kernel
set_option maxRecDepth 100000 in
theorem st_i4 : st_v 86 (.instantiable "CountedActors$Draft" 4) = true := by decide +kernel
set_option maxRecDepth 100000 in
theorem st_i5 : st_v 171 (.instantiable "CountedActors$Heap" 4) = true := by decide +kernel
set_option maxRecDepth 100000 in
theorem st_i6 : st_v 247 (.instantiable "CountedActors$Machine" 8) = true := by decide +kernel
set_option maxRecDepth 100000 in
theorem st_i7 : st_v 193 (.instantiable "CountedActors$Mail" 5) = true := by decide +kernel
set_option maxRecDepth 100000 in
theorem st_i8 : st_v 78 (.instantiable "CountedActors$Program" 4) = true := by decide +kernel
set_option maxRecDepth 100000 in
theorem st_i9 : st_v 113 (.instantiable "CountedActors$Statement" 5) = true := by decide +kernel
set_option maxRecDepth 100000 in
theorem st_i10 : st_v 215 (.instantiable "CountedActors$Walk" 4) = true := by decide +kernel
theorem st_known {args : Array Value} {s : State} (hts : ∀ w ∈ lw_tbl, w.before args s = true) : ∀ c : Nat, ∃ (cC : ClassId) (iS : Nat → Nat), ∀ q : vw_C, tb_cl[c]? = some q → u_Kn s q.1 q.2.1 q.2.2 cC iS := by
  intro c
  have hin : ∀ (C : String) (T : u_T) (N : Nat), tb_cl[c]? = some (C, T, N) → ∀ w ∈ u_ws C T N, w ∈ lw_tbl := fun C T N h w hw => (List.mem_filter.mp ((tb_gL 0 (fun _ => 0) c C T N h).2.2.2.1 w hw)).1
  have key : ∀ (C : String) (T : u_T) (N : Nat), tb_cl[c]? = some (C, T, N) → Cond.instantiable C N ∈ lw_tbl → ∃ (cC : ClassId) (iS : Nat → Nat), ∀ q : vw_C, tb_cl[c]? = some q → u_Kn s q.1 q.2.1 q.2.2 cC iS := by
    intro C T N h hi
    obtain ⟨cC, iS, hK⟩ := u_known hts (hin C T N h) (hts _ hi)
    exact ⟨cC, iS, fun q hq => by rw [h] at hq; cases hq; exact hK⟩
  by_cases hc : c < 11
  · rcases (show c = 0 ∨ c = 1 ∨ c = 2 ∨ c = 3 ∨ c = 4 ∨ c = 5 ∨ c = 6 ∨ c = 7 ∨ c = 8 ∨ c = 9 ∨ c = 10 by omega) with rfl | rfl | rfl | rfl | rfl | rfl | rfl | rfl | rfl | rfl | rfl
    · exact key _ _ _ rfl (st_v_in st_i0)
    · exact key _ _ _ rfl (st_v_in st_i1)
    · exact key _ _ _ rfl (st_v_in st_i2)
    · exact key _ _ _ rfl (st_v_in st_i3)
    · exact key _ _ _ rfl (st_v_in st_i4)
    · exact key _ _ _ rfl (st_v_in st_i5)
    · exact key _ _ _ rfl (st_v_in st_i6)
    · exact key _ _ _ rfl (st_v_in st_i7)
    · exact key _ _ _ rfl (st_v_in st_i8)
    · exact key _ _ _ rfl (st_v_in st_i9)
    · exact key _ _ _ rfl (st_v_in st_i10)
  · refine ⟨0, fun _ => 0, fun q hq => absurd (List.getElem?_eq_some_iff.mp hq).1 hc⟩
def st_ra (t0 t1 t2 t3 t4 t5 b : Nat) (k : Nat) : Nat := if k = 1048576 then t0 else if k = 1048577 then t1 else if k = 1048578 then t2 else if k = 1048579 then t3 else if k = 1048580 then t4 else if k = 1048581 then t5 else b
theorem st_ro {L : Nat} {xs : Nat → Int32} {k n : Nat} {f : Nat → Int32} (h : tb_ro L xs k = some (n, f)) : (k = 1048576 ∧ n = 6 ∧ f = fun i => tb_a0.getD i 0) ∨ (k = 1048577 ∧ n = 3 ∧ f = fun i => tb_a1.getD i 0) ∨ (k = 1048578 ∧ n = 6 ∧ f = fun i => tb_a2.getD i 0) ∨ (k = 1048579 ∧ n = 30 ∧ f = fun i => tb_a3.getD i 0) ∨ (k = 1048580 ∧ n = 18 ∧ f = fun i => tb_a4.getD i 0) ∨ (k = 1048581 ∧ n = 6 ∧ f = fun i => tb_a5.getD i 0) ∨ (k = 1048582 ∧ n = L ∧ f = xs) := by
  unfold tb_ro at h
  cases h0 : Nat.beq k 1048576 with
  | true => rw [h0] at h; cases h; exact Or.inl ⟨Nat.eq_of_beq_eq_true h0, rfl, rfl⟩
  | false =>
  rw [h0, cond_false] at h
  cases h1 : Nat.beq k 1048577 with
  | true => rw [h1] at h; cases h; exact Or.inr (Or.inl ⟨Nat.eq_of_beq_eq_true h1, rfl, rfl⟩)
  | false =>
  rw [h1, cond_false] at h
  cases h2 : Nat.beq k 1048578 with
  | true => rw [h2] at h; cases h; exact Or.inr (Or.inr (Or.inl ⟨Nat.eq_of_beq_eq_true h2, rfl, rfl⟩))
  | false =>
  rw [h2, cond_false] at h
  cases h3 : Nat.beq k 1048579 with
  | true => rw [h3] at h; cases h; exact Or.inr (Or.inr (Or.inr (Or.inl ⟨Nat.eq_of_beq_eq_true h3, rfl, rfl⟩)))
  | false =>
  rw [h3, cond_false] at h
  cases h4 : Nat.beq k 1048580 with
  | true => rw [h4] at h; cases h; exact Or.inr (Or.inr (Or.inr (Or.inr (Or.inl ⟨Nat.eq_of_beq_eq_true h4, rfl, rfl⟩))))
  | false =>
  rw [h4, cond_false] at h
  cases h5 : Nat.beq k 1048581 with
  | true => rw [h5] at h; cases h; exact Or.inr (Or.inr (Or.inr (Or.inr (Or.inr (Or.inl ⟨Nat.eq_of_beq_eq_true h5, rfl, rfl⟩)))))
  | false =>
  rw [h5, cond_false] at h
  cases h6 : Nat.beq k 1048582 with
  | true => rw [h6] at h; cases h; exact Or.inr (Or.inr (Or.inr (Or.inr (Or.inr (Or.inr ⟨Nat.eq_of_beq_eq_true h6, rfl, rfl⟩)))))
  | false =>
  rw [h6] at h
  cases h
/-- at the law's entry -/
theorem st_E {s : State} {b L : Nat} {xs : Nat → Int32} (hts : ∀ w ∈ lw_tbl, w.before #[Value.ref b] s = true) (hn : narrow_1.before #[Value.ref b] s = true) (hX : va_X b L xs s s.heap) : ∃ ra : Nat → Nat, am_E (tb_P L xs) tb_X ra (fun q => s.heap.size ≤ q) s s.heap ∧ ra 1048582 = b := by
  have hA : ∀ a : Nat, a < s.heap.size → ¬ (fun q => s.heap.size ≤ q) a := fun a h h' => by
    have h' : s.heap.size ≤ a := h'
    omega
  have hini := hts _ (st_v_in st_cap)
  obtain ⟨t0, T0, Z0⟩ := st_T0 (A := fun q => s.heap.size ≤ q) hn hts hini hA
  obtain ⟨t1, T1, Z1⟩ := st_T1 (A := fun q => s.heap.size ≤ q) hn hts hini hA
  obtain ⟨t2, T2, Z2⟩ := st_T2 (A := fun q => s.heap.size ≤ q) hn hts hini hA
  obtain ⟨t3, T3, Z3⟩ := st_T3 (A := fun q => s.heap.size ≤ q) hn hts hini hA
  obtain ⟨t4, T4, Z4⟩ := st_T4 (A := fun q => s.heap.size ≤ q) hn hts hini hA
  obtain ⟨t5, T5, Z5⟩ := st_T5 (A := fun q => s.heap.size ≤ q) hn hts hini hA
  refine ⟨st_ra t0 t1 t2 t3 t4 t5 b, ⟨fun w hw => ?_, fun j hj C n d e1 e2 => ?_, fun k n f hk => ?_, fun C hC => ?_⟩, rfl⟩
  · have hw : w ∈ tb_N := hw
    simp only [tb_N, List.mem_cons, List.not_mem_nil, or_false] at hw
    rcases hw with rfl | rfl | rfl | rfl | rfl
    · exact va_Nw.of rfl (hts _ (st_v_in st_n0))
    · exact va_Nw.of rfl (hts _ (st_v_in st_n1))
    · exact va_Nw.of rfl (hts _ (st_v_in st_n2))
    · exact va_Nw.of rfl (hts _ (st_v_in st_n3))
    · exact va_Nw.of rfl (hts _ (st_v_in st_n4))
  · have hj : tb_ro L xs (1048576 + j) ≠ none := hj
    obtain ⟨q, hq⟩ := Option.ne_none_iff_exists'.mp hj
    rcases st_ro (n := q.1) (f := q.2) hq with ⟨h, -⟩ | ⟨h, -⟩ | ⟨h, -⟩ | ⟨h, -⟩ | ⟨h, -⟩ | ⟨h, -⟩ | ⟨h, -⟩
    · obtain rfl : j = 0 := by omega
      cases e1; exact Z0
    · obtain rfl : j = 1 := by omega
      cases e1; exact Z1
    · obtain rfl : j = 2 := by omega
      cases e1; exact Z2
    · obtain rfl : j = 3 := by omega
      cases e1; exact Z3
    · obtain rfl : j = 4 := by omega
      cases e1; exact Z4
    · obtain rfl : j = 5 := by omega
      cases e1; exact Z5
    · obtain rfl : j = 6 := by omega
      cases e1
      exact absurd rfl e2
  · rcases st_ro hk with ⟨rfl, rfl, rfl⟩ | ⟨rfl, rfl, rfl⟩ | ⟨rfl, rfl, rfl⟩ | ⟨rfl, rfl, rfl⟩ | ⟨rfl, rfl, rfl⟩ | ⟨rfl, rfl, rfl⟩ | ⟨rfl, rfl, rfl⟩
    · exact T0
    · exact T1
    · exact T2
    · exact T3
    · exact T4
    · exact T5
    · obtain ⟨scr, h1, h2, h3, h4, h5⟩ := hX
      exact ⟨scr, h1, h2, h3, by rw [h4]; exact Nat.le_refl _, by rw [h4], h5, hA b (Array.getElem?_eq_some_iff.mp h1).1⟩
  · have hC : C ∈ tb_AO := hC
    simp only [tb_AO, List.mem_cons, List.not_mem_nil, or_false] at hC
    rcases hC with rfl | rfl
    · exact va_AO.of (hts _ (st_v_in st_o0))
    · exact va_AO.of (hts _ (st_v_in st_o1))

