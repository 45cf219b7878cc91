/-! The tables are good -/
def tb_ly : List (List Nat) := [[284, 286, 288, 290, 292, 294, 296], [833, 835, 837, 839, 841, 843, 845, 847, 849, 851, 853, 855, 857, 859, 861, 863, 865, 867, 869, 871, 873, 875, 877, 879, 881, 883, 885], [150, 152, 154], [241, 243], [95, 97, 99, 101], [183, 185, 187, 189], [260, 262, 264, 266, 268, 270, 272, 274], [203, 205, 207, 209, 211], [161, 163, 165, 167], [136, 138, 140, 142, 144], [224, 226, 228, 230]]
def tb_X : am_X :=
  (tb_W, tb_N, fun mi => (match tb_m mi with | some q => q.2.1 | none => ⟨#[]⟩), fun mi => (match tb_m mi with | some q => q.1 | none => ⟨"", "", ""⟩),
   fun j => (match am_nth tb_S j with | some q => q | none => ("", "", "")), tb_AO,
   fun mi => (match tb_m mi with | some q => q.2.2.2.2.1 | none => 0), fun mi => (match tb_m mi with | some q => q.2.2.2.2.2.1 | none => 0))
theorem tb_m_ok {k : Nat} {q : tb_T} (h : tb_m k = some q) : tb_okm q := by
  unfold tb_m at h
  split at h
  case h_2 => cases h
  case h_1 q1 l hl =>
  rw [am_nth_eq] at hl h
  exact tb_okM l (List.mem_of_getElem? hl) q (List.mem_of_getElem? h)
theorem tb_fc_in : ∀ (l : List (Nat × am_I × Nat)) {pc : Nat} {q : am_I × Nat}, tb_fc l pc = some q → (pc, q) ∈ l
  | [], _, _, h => by cases h
  | e :: r, pc, q, h => by
    unfold tb_fc at h
    cases hb : Nat.beq e.1 pc with
    | true =>
      rw [hb] at h
      cases h
      have := Nat.eq_of_beq_eq_true hb
      subst this
      exact List.mem_cons_self
    | false =>
      rw [hb] at h
      exact List.mem_cons_of_mem _ (tb_fc_in r h)
theorem tb_fl_in : ∀ (l : List tb_K) {ix : Nat} {q : Nat × Nat × Nat × Nat × Nat}, tb_fl l ix = some q → ∃ w, (ix, q.1, q.2.1, q.2.2.1, q.2.2.2.1, q.2.2.2.2, w) ∈ l
  | [], _, _, h => by cases h
  | e :: r, ix, q, h => by
    unfold tb_fl at h
    cases hb : Nat.beq e.1 ix with
    | true =>
      rw [hb] at h
      cases h
      have := Nat.eq_of_beq_eq_true hb
      subst this
      exact ⟨e.2.2.2.2.2.2, List.mem_cons_self⟩
    | false =>
      rw [hb] at h
      obtain ⟨w, hw⟩ := tb_fl_in r h
      exact ⟨w, List.mem_cons_of_mem _ hw⟩
theorem tb_fk_in : ∀ (l : List (Nat × Int32 × Nat)) {ix : Nat} {z : Int32}, tb_fk l ix = some z → ∃ w, (ix, z, w) ∈ l
  | [], _, _, h => by cases h
  | e :: r, ix, z, h => by
    unfold tb_fk at h
    cases hb : Nat.beq e.1 ix with
    | true =>
      rw [hb] at h
      cases h
      have := Nat.eq_of_beq_eq_true hb
      subst this
      exact ⟨e.2.2, List.mem_cons_self⟩
    | false =>
      rw [hb] at h
      obtain ⟨w, hw⟩ := tb_fk_in r h
      exact ⟨w, List.mem_cons_of_mem _ hw⟩
/-- a link of a method: its check -/
theorem tb_lk {L : Nat} {xs : Nat → Int32} {mi ix : Nat} {e : Nat × Nat × Nat × Nat × Nat} (h : (tb_P L xs).2.1 mi ix = some e) : ∃ (q : tb_T) (w : Nat), tb_m mi = some q ∧ tb_okl q (ix, e.1, e.2.1, e.2.2.1, e.2.2.2.1, e.2.2.2.2, w) = true := by
  show ∃ (q : tb_T) (w : Nat), _
  have h : (match tb_m mi with | some q => tb_fl q.2.2.2.2.2.2.2.1 ix | none => none) = some e := h
  cases hm : tb_m mi with
  | none => rw [hm] at h; cases h
  | some q =>
    rw [hm] at h
    obtain ⟨w, hw⟩ := tb_fl_in _ h
    exact ⟨q, w, rfl, List.all_eq_true.mp (tb_m_ok hm).2.2.1 _ hw⟩
theorem tb_gC (L : Nat) (xs : Nat → Int32) : am_gC (tb_P L xs) tb_X := by
  intro mi pc i n h
  have h : (match tb_m mi with | some q => tb_fc q.2.2.2.2.2.2.1 pc | none => none) = some (i, n) := h
  cases hm : tb_m mi with
  | none => rw [hm] at h; cases h
  | some q =>
    rw [hm] at h
    have hin := tb_fc_in _ h
    have hok := List.all_eq_true.mp (tb_m_ok hm).2.1 _ hin
    simp only [tb_okc, Bool.and_eq_true, decide_eq_true_eq, Bool.or_eq_true] at hok
    have hby : tb_X.2.2.1 mi = q.2.1 := by
      show (match tb_m mi with | some q => q.2.1 | none => ⟨#[]⟩) = _
      rw [hm]
    rw [hby]
    exact ⟨hok.1, hok.2.elim (fun z => Or.inl (Nat.eq_of_beq_eq_true z)) (fun z => Or.inr (Nat.eq_of_beq_eq_true z))⟩
theorem tb_y {mi : Nat} {q : tb_T} (hm : tb_m mi = some q) : tb_X.2.2.2.1 mi = q.1 := by
  show (match tb_m mi with | some q => q.1 | none => ⟨"", "", ""⟩) = _
  rw [hm]
def tb_okC (ci : Nat) : Bool := match tb_cl[ci]?, am_nth tb_ft ci, am_nth tb_ly ci with
  | some (C, T, N), some fl, some ly => Nat.beq fl.length N && (List.range N).all (fun k => decide (parseFieldDescriptor (T k).2.2.1 = some (fl.getD k .int)) && tb_w (ly.getD k 0) (u_lay C T k) && (List.range N).all (fun b => Nat.beq k b || decide ((T k).2.1 ≠ (T b).2.1))) && fl.all (fun ty => decide (ty = .int) || decide (ty = .boolean) || am_rty ty)
  | _, _, _ => false
set_option maxRecDepth 100000 in
theorem tb_okC0 : tb_okC 0 = true := by decide +kernel
set_option maxRecDepth 100000 in
theorem tb_okC1 : tb_okC 1 = true := by decide +kernel
set_option maxRecDepth 100000 in
theorem tb_okC2 : tb_okC 2 = true := by decide +kernel
set_option maxRecDepth 100000 in
theorem tb_okC3 : tb_okC 3 = true := by decide +kernel
set_option maxRecDepth 100000 in
theorem tb_okC4 : tb_okC 4 = true := by decide +kernel
set_option maxRecDepth 100000 in
theorem tb_okC5 : tb_okC 5 = true := by decide +kernel
set_option maxRecDepth 100000 in
theorem tb_okC6 : tb_okC 6 = true := by decide +kernel
set_option maxRecDepth 100000 in
theorem tb_okC7 : tb_okC 7 = true := by decide +kernel
set_option maxRecDepth 100000 in
theorem tb_okC8 : tb_okC 8 = true := by decide +kernel
set_option maxRecDepth 100000 in
theorem tb_okC9 : tb_okC 9 = true := by decide +kernel
set_option maxRecDepth 100000 in
theorem tb_okC10 : tb_okC 10 = true := by decide +kernel
theorem tb_okCs : ∀ ci : Nat, ci < 11 → tb_okC ci = true := by
  intro ci h
  rcases (show ci = 0 ∨ ci = 1 ∨ ci = 2 ∨ ci = 3 ∨ ci = 4 ∨ ci = 5 ∨ ci = 6 ∨ ci = 7 ∨ ci = 8 ∨ ci = 9 ∨ ci = 10 by omega) with rfl | rfl | rfl | rfl | rfl | rfl | rfl | rfl | rfl | rfl | rfl
  · exact tb_okC0
  · exact tb_okC1
  · exact tb_okC2
  · exact tb_okC3
  · exact tb_okC4
  · exact tb_okC5
  · exact tb_okC6
  · exact tb_okC7
  · exact tb_okC8
  · exact tb_okC9
  · exact tb_okC10
theorem tb_gL (L : Nat) (xs : Nat → Int32) : am_gL (tb_P L xs) tb_X tb_cl := by
  intro ci C T N h
  have hlt : ci < 11 := (List.getElem?_eq_some_iff.mp h).1
  have hok := tb_okCs ci hlt
  unfold tb_okC at hok
  rw [h] at hok
  cases hf : am_nth tb_ft ci with
  | none => rw [hf] at hok; cases hok
  | some fl =>
    have hft : (tb_P L xs).2.2.2.1 ci = fl := by
      show (match am_nth tb_ft ci with | some l => l | none => []) = _
      rw [hf]
    rw [hf] at hok
    cases hy : am_nth tb_ly ci with
    | none => rw [hy] at hok; cases hok
    | some ly =>
      rw [hy] at hok
      simp only [Bool.and_eq_true, List.all_eq_true, List.mem_range, decide_eq_true_eq, Bool.or_eq_true] at hok
      obtain ⟨⟨h1, h2⟩, h3⟩ := hok
      rw [hft]
      refine ⟨Nat.eq_of_beq_eq_true h1, fun k hk => (h2 k hk).1.1, fun a ha b hb hab => ?_, fun w hw => ?_, fun ty hty => ?_⟩
      · rcases (h2 a ha).2 b hb with q | q
        · exact absurd (Nat.eq_of_beq_eq_true q) hab
        · exact q
      · obtain ⟨k, hk, rfl⟩ := List.mem_map.mp hw
        exact tb_w_in (h2 k (List.mem_range.mp hk)).1.2
      · rcases h3 ty hty with (q | q) | q
        · exact Or.inl q
        · exact Or.inr (Or.inl q)
        · exact Or.inr (Or.inr q)
theorem tb_gF (L : Nat) (xs : Nat → Int32) : am_gF (tb_P L xs) tb_X tb_cl := by
  intro mi ix ci k z u h
  obtain ⟨q, w, hm, hok⟩ := tb_lk h
  simp only [tb_okl] at hok
  split at hok
  case h_2 => cases hok
  case h_1 q1 C T N hcl =>
  simp only [Bool.and_eq_true, decide_eq_true_eq, Bool.or_eq_true, Bool.not_eq_true'] at hok
  obtain ⟨⟨h1, h2⟩, h3⟩ := hok
  refine ⟨C, T, N, hcl, h1, Or.inl (by rw [tb_y hm]; exact tb_w_in h2), fun hu => ?_⟩
  rw [tb_y hm]
  subst hu
  cases hf : (T k).2.2.2 with
  | false => exact Or.inl rfl
  | true =>
    rcases h3 with (h3 | h3) | ⟨h3, h4⟩
    · cases h3
    · rw [hf] at h3; cases h3
    · exact Or.inr ⟨rfl, tb_w_in h2, h3, h4⟩
theorem tb_gS (L : Nat) (xs : Nat → Int32) : am_gS (tb_P L xs) tb_X := by
  intro mi ix j z u v h
  obtain ⟨q, w, hm, hok⟩ := tb_lk h
  simp only [tb_okl] at hok
  simp only [Bool.and_eq_true, decide_eq_true_eq] at hok
  obtain ⟨h1, h2⟩ := hok
  cases hs : am_nth tb_S j with
  | none => rw [hs] at h2; cases h2
  | some r =>
    rw [hs] at h2
    simp only [Bool.and_eq_true, decide_eq_true_eq] at h2
    have hr : tb_X.2.2.2.2.1 j = r := by
      show (match am_nth tb_S j with | some q => q | none => ("", "", "")) = _
      rw [hs]
    rw [hr, tb_y hm]
    refine ⟨?_, h2.2, Or.inl (tb_w_in h2.1)⟩
    show tb_ro L xs (1048576 + j) ≠ none
    rcases (show j = 0 ∨ j = 1 ∨ j = 2 ∨ j = 3 ∨ j = 4 ∨ j = 5 by omega) with rfl | rfl | rfl | rfl | rfl | rfl
    all_goals exact Option.some_ne_none _
set_option maxRecDepth 100000 in
theorem tb_wI : tb_w 104 (.arrayClass .int) = true := by decide +kernel
set_option maxRecDepth 100000 in
theorem tb_wZ : tb_w 105 (.arrayClass .boolean) = true := by decide +kernel
theorem tb_gN (L : Nat) (xs : Nat → Int32) : am_gN (tb_P L xs) tb_X tb_cl := by
  refine ⟨fun mi ix ci z u v h => ?_, fun mi ix ci z u v h => ?_, tb_w_in tb_wI, tb_w_in tb_wZ, fun mi ix z h => ?_⟩
  · obtain ⟨q, w, hm, hok⟩ := tb_lk h
    simp only [tb_okl] at hok
    split at hok
    case h_2 => cases hok
    case h_1 q1 q2 q3 r a b hcl ha hb =>
    simp only [Bool.and_eq_true] at hok
    obtain ⟨⟨h1, h2⟩, h3⟩ := hok
    rw [tb_y hm]
    exact ⟨r.1, r.2.1, r.2.2, hcl, tb_w_in h1, tb_w_in h2, tb_w_in h3⟩
  · obtain ⟨q, w, hm, hok⟩ := tb_lk h
    simp only [tb_okl] at hok
    split at hok
    case h_2 => cases hok
    case h_1 q1 r hcl =>
    simp only [Bool.and_eq_true, decide_eq_true_eq] at hok
    obtain ⟨⟨h1, h2⟩, h3⟩ := hok
    rw [tb_y hm]
    rw [Nat.add_sub_cancel] at h2
    exact ⟨r.1, r.2.1, r.2.2, hcl, tb_w_in h2, h3⟩
  · have h : (match tb_m mi with | some q => tb_fk q.2.2.2.2.2.2.2.2.1 ix | none => none) = some z := h
    cases hm : tb_m mi with
    | none => rw [hm] at h; cases h
    | some q =>
      rw [hm] at h
      obtain ⟨w, hw⟩ := tb_fk_in _ h
      have := List.all_eq_true.mp (tb_m_ok hm).2.2.2 _ hw
      rw [tb_y hm]
      exact tb_w_in this
theorem tb_by {mi : Nat} {q : tb_T} (hm : tb_m mi = some q) : tb_X.2.2.1 mi = q.2.1 := by
  show (match tb_m mi with | some q => q.2.1 | none => ⟨#[]⟩) = _
  rw [hm]
theorem tb_fr {mi : Nat} {q : tb_T} (hm : tb_m mi = some q) : tb_X.2.2.2.2.2.2.1 mi = q.2.2.2.2.1 := by
  show (match tb_m mi with | some q => q.2.2.2.2.1 | none => 0) = _
  rw [hm]
theorem tb_lo {mi : Nat} {q : tb_T} (hm : tb_m mi = some q) : tb_X.2.2.2.2.2.2.2 mi = q.2.2.2.2.2.1 := by
  show (match tb_m mi with | some q => q.2.2.2.2.2.1 | none => 0) = _
  rw [hm]
theorem tb_ml {L : Nat} {xs : Nat → Int32} {mi : Nat} {q : tb_T} (hm : tb_m mi = some q) : (tb_P L xs).2.2.2.2.2.1 mi = q.2.2.1 := by
  show (match tb_m mi with | some q => q.2.2.1 | none => 0) = _
  rw [hm]
theorem tb_rt {L : Nat} {xs : Nat → Int32} {mi : Nat} {q : tb_T} (hm : tb_m mi = some q) : (tb_P L xs).2.2.2.2.1 mi = q.2.2.2.1 := by
  show (match tb_m mi with | some q => q.2.2.2.1 | none => none) = _
  rw [hm]
theorem tb_gM (L : Nat) (xs : Nat → Int32) : am_gM (tb_P L xs) tb_X tb_cl := by
  refine ⟨fun w hw => good_of_word (List.mem_filter.mp hw).2, fun w hw => ?_, fun mi ix mj na kd ci h => ?_, fun mi ix z u v w h => ?_, fun mi ix z u v w h => ?_, fun mi ix k z u v w h h7 h9 => ?_⟩
  · have hw : w ∈ tb_N := hw
    simp only [tb_N, List.mem_cons, List.not_mem_nil, or_false] at hw
    rcases hw with rfl | rfl | rfl | rfl | rfl <;> exact Or.inr ⟨_, _, _, _, rfl⟩
  · obtain ⟨q, w, hm, hok⟩ := tb_lk h
    simp only [tb_okl] at hok
    split at hok
    case h_2 => cases hok
    case h_1 q1 z hz =>
    simp only [Bool.and_eq_true, decide_eq_true_eq, Bool.or_eq_true, Bool.not_eq_true'] at hok
    obtain ⟨⟨⟨⟨⟨⟨h1, h2⟩, h3⟩, h4⟩, h5⟩, h6⟩, h7⟩ := hok
    have hw := (tb_m_ok hz).1.resolve_left (fun e => by rw [e] at h1; cases h1)
    simp only [tb_okw, Bool.and_eq_true, decide_eq_true_eq, Bool.or_eq_true, Bool.not_eq_true'] at hw
    obtain ⟨⟨⟨⟨⟨⟨w1, w2⟩, w3⟩, w4⟩, w5⟩, w6⟩, w7⟩ := hw
    have h6 := Nat.eq_of_beq_eq_true h6
    rw [tb_y hm, tb_y hz, tb_by hz, tb_fr hm, tb_fr hz, tb_lo hm, tb_lo hz, tb_ml hz, tb_rt hz]
    refine ⟨tb_w_in w1, w2, Nat.le_of_ble_eq_true h2, Nat.le_of_ble_eq_true h3, tb_w_in w3, ⟨w4.1, w4.2, h4⟩, ?_, fun hk => ?_, fun hk => ?_, fun hk => ?_⟩
    · cases hb : Nat.ble 3 kd with
      | true =>
        rw [hb] at h5
        exact Or.inr ⟨_, of_decide_eq_true h5⟩
      | false =>
        rw [hb] at h5
        exact Or.inl (tb_w_in h5)
    · have hz0 : z.2.2.2.2.2.2.2.2.2.2.2.2.2 = 0 := by rw [← h6, hk]
      rw [hz0] at w5
      rcases h7 with h7 | ⟨h7, h8⟩
      · rw [hk] at h7; cases h7
      · refine ⟨tb_w_in w5, ?_, ?_⟩
        · rcases w6 with w6 | w6
          · rw [w6] at h7; cases h7
          · exact tb_w_in w6
        · split at h8
          case h_2 => cases h8
          case h_1 q2 r hr =>
          have h8 : r.1 = z.1.cls := of_decide_eq_true h8
          exact ⟨r.2.1, r.2.2, by rw [hr, ← h8]⟩
    · have hz0 : z.2.2.2.2.2.2.2.2.2.2.2.2.2 = 1 := by rw [← h6, hk]
      rw [hz0] at w5
      exact tb_w_in w5
    · have hz0 : z.2.2.2.2.2.2.2.2.2.2.2.2.2 = 2 := by rw [← h6, hk]
      rw [hz0] at w5 w7
      rcases w7 with w7 | w7
      · cases w7
      · exact ⟨tb_w_in w5, w7.1, w7.2⟩
  · obtain ⟨q, w', hm, hok⟩ := tb_lk h
    simp only [tb_okl, Bool.and_eq_true, decide_eq_true_eq] at hok
    obtain ⟨⟨⟨⟨h1, h2⟩, h3⟩, h4⟩, h5⟩ := hok
    rw [tb_y hm, tb_fr hm, tb_lo hm]
    exact ⟨tb_w_in h1, tb_w_in h2, tb_w_in h3, h4, h5⟩
  · obtain ⟨q, w', hm, hok⟩ := tb_lk h
    simp only [tb_okl, Bool.and_eq_true, decide_eq_true_eq] at hok
    obtain ⟨⟨⟨⟨⟨h1, h2⟩, h3⟩, h4⟩, h5⟩, h6⟩ := hok
    rw [tb_y hm, tb_fr hm, tb_lo hm]
    exact ⟨tb_w_in h1, tb_w_in h2, tb_w_in h3, tb_w_in h4, h5, h6⟩
  · obtain ⟨q, w', hm, hok⟩ := tb_lk h
    rw [tb_y hm, tb_fr hm, tb_lo hm]
    rcases (show k = 7 ∨ k = 8 ∨ k = 9 by omega) with rfl | rfl | rfl
    · simp only [tb_okl, Bool.and_eq_true, decide_eq_true_eq] at hok
      obtain ⟨⟨⟨⟨⟨h1, h2⟩, h3⟩, h4⟩, h5⟩, h6⟩ := hok
      exact ⟨tb_w_in h4, h5, h6, fun _ => ⟨tb_w_in h1, tb_w_in h2, tb_w_in h3⟩, fun e => absurd e (by decide), fun e => absurd e (by decide)⟩
    · simp only [tb_okl, Bool.and_eq_true, decide_eq_true_eq] at hok
      obtain ⟨⟨⟨⟨⟨h1, h2⟩, h3⟩, h4⟩, h5⟩, h6⟩ := hok
      exact ⟨tb_w_in h4, h5, h6, fun e => absurd e (by decide), fun _ => ⟨tb_w_in h1, tb_w_in h2, tb_w_in h3⟩, fun e => absurd e (by decide)⟩
    · simp only [tb_okl, Bool.and_eq_true, decide_eq_true_eq] at hok
      obtain ⟨⟨⟨⟨⟨h1, h2⟩, h3⟩, h4⟩, h5⟩, h6⟩ := hok
      exact ⟨tb_w_in h4, h5, h6, fun e => absurd e (by decide), fun e => absurd e (by decide), fun _ => ⟨tb_w_in h1, tb_w_in h2, tb_w_in h3⟩⟩
/-- THE TABLES ARE GOOD -/
theorem tb_good (L : Nat) (xs : Nat → Int32) : am_G (tb_P L xs) tb_X tb_cl := ⟨tb_gC L xs, tb_gL L xs, tb_gF L xs, tb_gS L xs, tb_gN L xs, tb_gM L xs⟩

