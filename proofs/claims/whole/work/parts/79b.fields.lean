/-! Fields of what a local holds, or of the actor itself -/
section
variable {a b : Nat} {K : Nat → Nat → Prop} {ex : Nat → Prop} {pl pl' : Nat → Nat → Option Nat} {cb cb' : Nat → Nat → Nat} {cx cx' : Nat → Nat → gh_P} {g : Nat → gh_P} {V : Nat → Nat → Prop} {P : gh_P}
/-- the holder h that y names, y having capability c -/
def gh_hd (a : Nat) (P : gh_P) (pl : Nat → Nat → Option Nat) (cb : Nat → Nat → Nat) (cx : Nat → Nat → gh_P) (h c y : Nat) : Prop :=
  (y = 6 ∧ h = 16 + a ∧ a < 4 ∧ c = 2 ∧ P = [(0, a)]) ∨ (y < 6 ∧ pl 20 y = some h ∧ cb 20 y = c ∧ c < 5 ∧ (c = 1 ∨ c = 2 ∨ c = 4 → cx 20 y = P))
/-- what is known of the holder -/
theorem gh_hold {h c y : Nat} (H : gh_J a b K ex pl cb cx g V) (hP : gh_cel a b P) (hh : gh_hd a P pl cb cx h c y) (f : Nat) : h < 20 ∧ c < 5 ∧ (∃ Pc, gh_cel a b Pc ∧ (c = 1 ∨ c = 2 ∨ c = 4 → Pc = P) ∧ gh_E c Pc (gh_ce g cx h f) ∧ (y < 6 → Pc = cx 20 y)) ∧ (h < 16 ∧ V a h ∨ gh_wh a a h) ∧ (∀ w, pl h f = some w → K a w ∧ (f < 5 → V a w)) := by
  rcases hh with ⟨_, rfl, ha, rfl, e⟩ | ⟨hy, hp, rfl, hc, hx⟩
  · refine ⟨by omega, by decide, ⟨P, hP, fun _ => rfl, ?_, fun h => by omega⟩, Or.inr (Or.inl ⟨rfl, ha⟩), fun w hw => ?_⟩
    · have : gh_ce g cx (16 + a) f = P := by
        unfold gh_ce; rw [if_neg (by omega), if_pos (by omega), e]; congr 2; omega
      rw [this]
      exact Or.inr (Or.inr (Or.inr ⟨gh_ok_lv (gh_cel_ok hP).1, Or.inr (Or.inr (Or.inl ⟨rfl, rfl⟩))⟩))
    · have := H.2.2.1.2 a (16 + a) f w (Or.inl ⟨rfl, ha⟩) hw
      unfold gh_ca at this; rw [if_pos (by omega)] at this; exact this
  · have hc20 : gh_ca cb 20 y < 5 := by rw [gh_ca20]; exact hc
    have hlv := gh_ok_lv (gh_cel_ok (gh_J_c20 H y)).1
    have hh := gh_J_ex H hp hc20 (by rw [gh_ce20]; exact hlv.2)
    have hR := H.2.2.1.2 a 20 y h (Or.inr ⟨rfl, by decide, by decide⟩) hp
    have hVa : V a h := hR.2 hc20
    have hE := H.1.1 20 y h hp
    rw [gh_ca20, gh_ce20] at hE
    refine ⟨by omega, hc, ⟨cx 20 y, gh_J_c20 H y, hx, ?_, fun _ => rfl⟩, Or.inl ⟨hh.1, hVa⟩, fun w hw => (H.2.2.1.1 a h hh.1 hVa).2 f w hw⟩
    have : gh_ce g cx h f = g h := if_pos hh.1
    rw [this]; exact hE
/-- a holder by a writable capability is nobody else's -/
theorem gh_hold_w {h c y f : Nat} (H : gh_J a b K ex pl cb cx g V) (hP : gh_cel a b P) (hh : gh_hd a P pl cb cx h c y) (hc : c < 3) : gh_ok (gh_ce g cx h f) ∧ (gh_ce g cx h f).getLast? = some (0, a) ∧ ∀ b', (h < 16 ∧ V b' h ∨ gh_wh a b' h) → b' = a := by
  obtain ⟨h20, _, ⟨Pc, hPc, hx, hE, _⟩, _, _⟩ := gh_hold H hP hh f
  have hlv := gh_ok_lv (gh_cel_ok hPc).1
  have la : (gh_ce g cx h f).getLast? = some (0, a) := by
    rcases gh_E_lv hlv (by omega) hE with ⟨_, i, e⟩ | ⟨_, i, e⟩ | ⟨_, e⟩ | ⟨e, _⟩ | ⟨e, _⟩
    · rw [e, gh_last_cons (gh_cel_ok hPc).2.2]; exact (gh_cel_ok hPc).2.1
    · rw [e, gh_last_cons (gh_cel_ok hPc).2.2]; exact (gh_cel_ok hPc).2.1
    · rw [e]; exact (gh_cel_ok hPc).2.1
    · omega
    · omega
  refine ⟨⟨_, la, by simp⟩, la, fun b' hb' => ?_⟩
  rcases hb' with ⟨h16, hV⟩ | hw
  · have e : gh_ce g cx h f = g h := if_pos h16
    rw [e] at la
    rcases H.2.1.2 b' h hV with e' | e'
    · rw [e'] at la; simp [gh_F] at la
    · rw [la] at e'; injection e' with e'; injection e' with _ e'; exact e'.symm
  · rcases hw with ⟨e, _⟩ | ⟨_, h', _⟩
    · rcases hh with ⟨_, e2, _⟩ | ⟨hy, hp, rfl, _, _⟩
      · omega
      · have := (gh_J_ex H hp (by rw [gh_ca20]; omega) (by rw [gh_ce20]; exact (gh_ok_lv (gh_cel_ok (gh_J_c20 H y)).1).2)).1
        omega
    · omega
/-- GET -/
theorem gh_st_get {h c y f x : Nat} (H : gh_J a b K ex pl cb cx g V) (hP : gh_cel a b P) (hh : gh_hd a P pl cb cx h c y) (hf : f < 6) : gh_J a b K ex (gh_u pl 20 x (pl h f)) (gh_u cb 20 x (gh_al (gh_vw c f))) (gh_u cx 20 x P) g V := by
  obtain ⟨h20, hc, ⟨Pc, hPc, hx, hE, _⟩, _, hw⟩ := gh_hold H hP hh f
  refine gh_st_loc H hP x _ _ (fun t ht => ?_)
  have hEt := H.1.1 h f t ht
  have hca : gh_ca cb h f = f := if_pos h20
  rw [hca] at hEt
  refine ⟨gh_al_2, gh_view hc hf (gh_ok_lv (gh_cel_ok hP).1) hx (gh_ok_lv (gh_cel_ok hPc).1) hE hEt, (hw t ht).1, fun h5 => (hw t ht).2 ?_⟩
  by_cases f5 : f = 5
  · rw [f5] at h5; simp [gh_vw, gh_al] at h5
  · omega
/-- PUT -/
theorem gh_st_put {h c y f z : Nat} (H : gh_J a b K ex pl cb cx g V) (hP : gh_cel a b P) (hh : gh_hd a P pl cb cx h c y) (hc : c < 3) (hz : cb 20 z < 6) (hx : cb 20 z = 1 ∨ cb 20 z = 2 ∨ cb 20 z = 4 → cx 20 z = P) (hsa : gh_sa (gh_al (cb 20 z)) c) (hsu : gh_su (gh_al (cb 20 z)) f) : gh_J a b K ex (gh_u pl h f (pl 20 z)) cb cx g V := by
  obtain ⟨h20, _, ⟨Pc, hPc, hxc, hE, _⟩, _, hw⟩ := gh_hold H hP hh f
  obtain ⟨_, _, honly⟩ := gh_hold_w (f := f) H hP hh hc
  cases hp : pl 20 z with
  | none => exact gh_J_rm H h f
  | some t =>
    have hEz := H.1.1 20 z t hp
    rw [gh_ca20, gh_ce20] at hEz
    have hR := H.2.2.1.2 a 20 z t (Or.inr ⟨rfl, by decide, by decide⟩) hp
    rw [gh_ca20] at hR
    obtain ⟨f2, hEf⟩ := gh_store hc hz (gh_ok_lv (gh_cel_ok hP).1) (gh_ok_lv (gh_cel_ok hPc).1) (gh_ok_lv (gh_cel_ok (gh_J_c20 H z)).1) (fun h => hxc (by omega)) hx hE hEz hsa hsu
    have hca : gh_ca cb h f = f := if_pos h20
    refine gh_J_set (c := f) H (fun _ _ _ => rfl) hca hEf (fun h => by omega) (fun b' hb' => ?_)
    rw [honly b' hb']
    refine ⟨hR.1, fun f5 => hR.2 ?_⟩
    unfold gh_su at hsu
    by_cases h5 : cb 20 z = 5
    · rw [h5] at hsu; simp [gh_al] at hsu; omega
    · omega
theorem gh_sf_len {D p : gh_P} (h : D <:+ p) : D.length ≤ p.length := List.IsSuffix.length_le h
/-- SWAP -/
theorem gh_st_swap {h c y f x z : Nat} (H : gh_J a b K ex pl cb cx g V) (hP : gh_cel a b P) (hh : gh_hd a P pl cb cx h c y) (hyz : y ≠ z) (hc : c < 3) (hf : f < 6) (hz : cb 20 z < 6) (hx : cb 20 z = 1 ∨ cb 20 z = 2 ∨ cb 20 z = 4 → cx 20 z = P) (hsa : gh_sa (cb 20 z) c) (hsu : gh_su (cb 20 z) f) (h22 : ∀ k, pl 22 k = none) : ∃ g', gh_J a b K ex (gh_u (gh_u (gh_u pl 20 z none) h f (pl 20 z)) 20 x (pl h f)) (gh_u cb 20 x (gh_dw c f)) (gh_u cx 20 x P) g' V := by
  obtain ⟨h20, _, ⟨Pc, hPc, hxc, hE, hPcy⟩, _, hw⟩ := gh_hold H hP hh f
  obtain ⟨hok, hla, honly⟩ := gh_hold_w (f := f) H hP hh hc
  have hPlv := gh_ok_lv (gh_cel_ok hP).1
  have hPclv := gh_ok_lv (gh_cel_ok hPc).1
  have hca : gh_ca cb h f = f := if_pos h20
  have hne : gh_ce g cx h f ≠ [] := gh_ok_ne hok
  have hlv := gh_ok_lv hok
  have n22 : ∀ k : Nat, ¬ (h = 22 ∧ f = k) := by intro k; omega
  have n20 : ∀ k : Nat, ¬ (h = 20 ∧ f = k) := by intro k; omega
  have m22 : ∀ k : Nat, ¬ ((22 : Nat) = h ∧ k = f) := by intro k; omega
  have m2 : ∀ k k' : Nat, ¬ ((22 : Nat) = 20 ∧ k = k') := by intro k k'; omega
  have m20 : ∀ k k' : Nat, ¬ ((20 : Nat) = 22 ∧ k = k') := by intro k k'; omega
  -- z's reference into the hand, x emptied
  have J1 := gh_J_lc (gh_J_tf H z) hP x (gh_dw c f)
  have p1 : gh_u (gh_u (gh_u pl 20 z none) 22 0 (pl 20 z)) 20 x none h f = pl h f := by
    rw [gh_u_n _ _ (n20 x), gh_u_n _ _ (n22 0), gh_u_n _ _ (n20 z)]
  have ce1 : gh_ce g (gh_u (gh_u cx 22 0 (cx 20 z)) 20 x P) h f = gh_ce g cx h f := by
    unfold gh_ce; rw [gh_u_n _ _ (n20 x), gh_u_n _ _ (n22 0)]
  have ca1 : gh_ca (gh_u (gh_u cb 22 0 (cb 20 z)) 20 x (gh_dw c f)) h f = f := if_pos h20
  have pz : gh_u (gh_u (gh_u pl 20 z none) 22 0 (pl 20 z)) 20 x none 22 0 = pl 20 z := by
    rw [gh_u_n _ _ (m2 0 x), gh_u_s]
  have caz : gh_ca (gh_u (gh_u cb 22 0 (cb 20 z)) 20 x (gh_dw c f)) 22 0 = cb 20 z := by
    rw [gh_ca22, gh_u_n _ _ (m2 0 x), gh_u_s]
  have cez : ∀ g : Nat → gh_P, gh_ce g (gh_u (gh_u cx 22 0 (cx 20 z)) 20 x P) 22 0 = cx 20 z := by
    intro g; rw [gh_ce22, gh_u_n _ _ (m2 0 x), gh_u_s]
  have hcelz := gh_J_c20 H z
  have hzlv := gh_ok_lv (gh_cel_ok hcelz).1
  -- the field's reference to x
  have step : ∃ g', gh_J a b K ex (gh_u (gh_u (gh_u (gh_u (gh_u pl 20 z none) 22 0 (pl 20 z)) 20 x none) h f none) 20 x (pl h f)) (gh_u (gh_u cb 22 0 (cb 20 z)) 20 x (gh_dw c f)) (gh_u (gh_u cx 22 0 (cx 20 z)) 20 x P) g' V ∧ gh_ce g' cx h f = gh_ce g cx h f ∧ ∀ t, pl 20 z = some t → cb 20 z < 2 → g' t = g t := by
    cases hw' : pl h f with
    | none =>
      refine ⟨g, gh_J_mono J1 (fun x' y' u hu => ⟨?_, rfl, fun _ => rfl⟩) J1.2.2.2.2.2, rfl, fun _ _ _ => rfl⟩
      by_cases e : x' = 20 ∧ y' = x
      · obtain ⟨rfl, rfl⟩ := e; rw [gh_u_s] at hu; cases hu
      · rw [gh_u_n _ _ e] at hu
        by_cases e2 : x' = h ∧ y' = f
        · obtain ⟨rfl, rfl⟩ := e2; rw [gh_u_s] at hu; cases hu
        · rw [gh_u_n _ _ e2] at hu; exact hu
    | some w =>
      rw [hw'] at p1
      have hEw := H.1.1 h f w hw'
      rw [hca] at hEw
      obtain ⟨g', J2, hg'⟩ := gh_J_give (h1 := 20) (k1 := x) (f := gh_dw c f) (Q := P) (cb' := gh_u (gh_u cb 22 0 (cb 20 z)) 20 x (gh_dw c f)) J1 p1 (by rw [ce1]; exact hlv) (by rw [ce1]; exact hne) (by rw [gh_ce20, gh_u_s]) (gh_cel_ok hP).1 (fun h2 => (gh_nsf J1 p1 h2 (by rw [ce1]; exact hlv)).2 P hP) (by rw [ce1, hla, (gh_cel_ok hP).2.1]) (by rw [ca1, ce1]; exact gh_tr_w hc hf hPclv (fun h => hxc (by omega)) hE) (fun _ _ _ => rfl) (by rw [gh_ca20, gh_u_s]) (fun b' hb' => by
        rcases hb' with ⟨h, _⟩ | h
        · omega
        · rw [gh_wh20 h]
          refine ⟨(hw w hw').1, fun d5 => (hw w hw').2 ?_⟩
          by_cases f5 : f = 5
          · subst f5; unfold gh_dw at d5; rcases (show c = 0 ∨ c = 1 ∨ c = 2 by omega) with rfl | rfl | rfl <;> simp at d5
          · omega)
      rw [ca1] at hg'
      refine ⟨g', J2, ?_, fun t ht h2 => hg' t (fun f2 hs => ?_)⟩
      · by_cases h16 : h < 16
        · have e1 : gh_ce g' cx h f = g' h := if_pos h16
          have e2 : gh_ce g cx h f = g h := if_pos h16
          rw [e1, e2]
          refine hg' h (fun f2 hs => ?_)
          obtain ⟨l, _, hl⟩ := gh_e_lbl f2 hlv hEw
          rw [hl, e2] at hs
          have := gh_sf_len hs
          simp only [List.length_cons] at this
          omega
        · unfold gh_ce; rw [if_neg h16, if_neg h16]
      · obtain ⟨l, hl1, hl⟩ := gh_e_lbl f2 hlv hEw
        have hEz := H.1.1 20 z t ht
        rw [gh_ca20, gh_ce20] at hEz
        obtain ⟨m, _, hm⟩ := gh_e_lbl h2 hzlv hEz
        have hn := gh_nsf H hw' (by rw [hca]; exact f2) hlv
        rw [hm] at hs
        have hs' := hs
        rw [hl] at hs
        rcases gh_sf_cons.mp hs with hs | hs
        · have := H.1.2 h f w 20 z t hw' ht (by rw [hca]; exact f2) (by rw [gh_ca20]; exact h2) hlv (by rw [gh_ce20]; exact hzlv) (by rw [hl, hm, hs])
          omega
        · rw [← hl] at hs
          exact hn.2 _ hcelz hs
  obtain ⟨g1, J2, hcg, htz⟩ := step
  have fin : ∀ {v : Option Nat} {g' : Nat → gh_P} {cb' : Nat → Nat → Nat}, gh_J a b K ex (gh_u (gh_u (gh_u (gh_u (gh_u (gh_u (gh_u pl 20 z none) 22 0 (pl 20 z)) 20 x none) h f none) 20 x (pl h f)) 22 0 none) h f v) (gh_u (gh_u cb 22 0 (cb 20 z)) 20 x (gh_dw c f)) (gh_u (gh_u cx 22 0 (cx 20 z)) 20 x P) g' V → gh_J a b K ex (gh_u (gh_u (gh_u pl 20 z none) h f v) 20 x (pl h f)) (gh_u cb 20 x (gh_dw c f)) (gh_u cx 20 x P) g' V := by
    intro v g' cb' J
    refine gh_J_eq J (fun k => ?_) (fun h' k hk => ?_) (fun h' k hk => ?_) (fun h' k hk => ?_) (fun k => ?_)
    · rw [gh_u_n _ _ (m2 k x), gh_u_n _ _ (m22 k), gh_u_n _ _ (m2 k z), h22]
    · by_cases e1 : h' = 20 ∧ k = x
      · obtain ⟨rfl, rfl⟩ := e1
        have : ¬ ((20 : Nat) = h ∧ k = f) := by omega
        simp [gh_u, this]
      · by_cases e2 : h' = h ∧ k = f
        · obtain ⟨rfl, rfl⟩ := e2
          simp [gh_u, e1]
        · simp only [gh_u, if_neg e1, if_neg e2, if_neg (show ¬ (h' = 22 ∧ k = 0) from fun h => hk h.1)]
    · simp [gh_u, hk]
    · simp [gh_u, hk]
    · rw [gh_u_n _ _ (m2 k x)]; exact gh_J_c22 H k
  have hceJ : gh_ce g1 (gh_u (gh_u cx 22 0 (cx 20 z)) 20 x P) h f = gh_ce g cx h f := by
    rw [← hcg]; unfold gh_ce; rw [gh_u_n _ _ (n20 x), gh_u_n _ _ (n22 0)]
  cases hz' : pl 20 z with
  | none =>
    refine ⟨g1, ?_⟩
    have := fin (v := none) (cb' := cb) (gh_J_rm (gh_J_rm J2 22 0) h f)
    rw [hz'] at *
    exact this
  | some t =>
    have pz2 : gh_u (gh_u (gh_u (gh_u (gh_u pl 20 z none) 22 0 (pl 20 z)) 20 x none) h f none) 20 x (pl h f) 22 0 = some t := by
      rw [gh_u_n _ _ (m2 0 x), gh_u_n _ _ (m22 0), pz, hz']
    have hR := H.2.2.1.2 a 20 z t (Or.inr ⟨rfl, by decide, by decide⟩) hz'
    rw [gh_ca20] at hR
    obtain ⟨g2, J3, _⟩ := gh_J_give (h1 := h) (k1 := f) (f := f) (Q := gh_ce g cx h f) (cb' := gh_u (gh_u cb 22 0 (cb 20 z)) 20 x (gh_dw c f)) J2 pz2 (by rw [cez]; exact hzlv) (by rw [cez]; exact (gh_cel_ok hcelz).2.2) hceJ hok (fun h2 => by
        rw [caz] at h2
        rw [htz t hz' h2]
        intro hs
        have hEz := H.1.1 20 z t hz'
        rw [gh_ca20, gh_ce20] at hEz
        have hn := gh_nsf H hz' (by rw [gh_ca20]; exact h2) (by rw [gh_ce20]; exact hzlv)
        rcases gh_E_lv hPclv (by omega) hE with ⟨c0, i, e⟩ | ⟨c0, i, e⟩ | ⟨_, e⟩ | ⟨e, _⟩ | ⟨e, _⟩
        · rcases hh with ⟨_, _, _, e2, _⟩ | ⟨hy6, hp, hcy, _, _⟩
          · omega
          · obtain ⟨m, _, hm⟩ := gh_e_lbl h2 hzlv hEz
            have hs0 := hs
            rw [e, hm] at hs
            rcases gh_sf_cons.mp hs with hs | hs
            · have h16 := (gh_J_ex H hp (by rw [gh_ca20]; omega) (by rw [gh_ce20]; exact (gh_ok_lv (gh_cel_ok (gh_J_c20 H y)).1).2)).1
              have e3 : gh_ce g cx h f = g h := if_pos h16
              have := H.1.2 20 y h 20 z t hp hz' (by rw [gh_ca20, hcy]; omega) (by rw [gh_ca20]; exact h2) (by rw [gh_ce20]; exact gh_ok_lv (gh_cel_ok (gh_J_c20 H y)).1) (by rw [gh_ce20]; exact hzlv) (by rw [← e3, e, hm, hs])
              exact hyz this.2
            · rw [← hm] at hs; exact hn.2 _ hPc hs
        · rcases hh with ⟨_, _, _, e2, _⟩ | ⟨hy6, hp, hcy, _, _⟩
          · omega
          · obtain ⟨m, _, hm⟩ := gh_e_lbl h2 hzlv hEz
            rw [e, hm] at hs
            rcases gh_sf_cons.mp hs with hs | hs
            · have h16 := (gh_J_ex H hp (by rw [gh_ca20]; omega) (by rw [gh_ce20]; exact (gh_ok_lv (gh_cel_ok (gh_J_c20 H y)).1).2)).1
              have e3 : gh_ce g cx h f = g h := if_pos h16
              have := H.1.2 20 y h 20 z t hp hz' (by rw [gh_ca20, hcy]; omega) (by rw [gh_ca20]; exact h2) (by rw [gh_ce20]; exact gh_ok_lv (gh_cel_ok (gh_J_c20 H y)).1) (by rw [gh_ce20]; exact hzlv) (by rw [← e3, e, hm, hs])
              exact hyz this.2
            · rw [← hm] at hs; exact hn.2 _ hPc hs
        · rw [e] at hs; exact hn.2 _ hPc hs
        · omega
        · omega) (by rw [cez, hla, (gh_cel_ok hcelz).2.1]) (by rw [caz, cez]; exact gh_tr_z hc hf hPclv (fun h => hxc (by omega)) hx hE hsa hsu) (fun _ _ _ => rfl) ca1 (fun b' hb' => by
        rw [honly b' hb']
        refine ⟨hR.1, fun f5 => hR.2 ?_⟩
        unfold gh_su at hsu
        omega)
    have := fin (v := some t) (cb' := cb) J3
    rw [hz'] at *
    exact ⟨g2, this⟩
end
