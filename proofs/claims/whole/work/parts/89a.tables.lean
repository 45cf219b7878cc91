/-! The tables of both -/
def st_sa (s c : Nat) : Bool := decide (c = 2) || (decide (s = 0) || (decide (s = 3) || (decide (s = 5) || (decide (c = 1) && decide (s = 1)))))
def st_su (c f : Nat) : Bool := decide (c = 0) || ((decide (c = 1) && decide (f ≠ 0)) || ((decide (c = 2) && (decide (f = 2) || (decide (f = 4) || decide (f = 5)))) || ((decide (c = 3) && (decide (f = 3) || (decide (f = 4) || decide (f = 5)))) || ((decide (c = 4) && (decide (f = 4) || decide (f = 5))) || (decide (c = 5) && decide (f = 5))))))
def st_sn (c : Nat) : Bool := decide (c = 0) || (decide (c = 3) || decide (c = 5))
theorem st_sa_iff {s c : Nat} : st_sa s c = true ↔ gh_sa s c := by unfold st_sa gh_sa; simp
theorem st_su_iff {c f : Nat} : st_su c f = true ↔ gh_su c f := by unfold st_su gh_su; simp
theorem lt6 {c : Nat} (h : c < 6) : c = 0 ∨ c = 1 ∨ c = 2 ∨ c = 3 ∨ c = 4 ∨ c = 5 := by omega
theorem lt5 {c : Nat} (h : c < 5) : c = 0 ∨ c = 1 ∨ c = 2 ∨ c = 3 ∨ c = 4 := by omega
theorem lt3 {c : Nat} (h : c < 3) : c = 0 ∨ c = 1 ∨ c = 2 := by omega
theorem cs_37 {c : Nat} (h : c < 6) (M : am_M) : fd_37 (nI c) M = some (pu_b (decide (c < 3)), M) := by
  rcases lt6 h with rfl | rfl | rfl | rfl | rfl | rfl <;> rfl
theorem cs_36 {c : Nat} (h : c < 6) (M : am_M) : fd_36 (nI c) M = some (pu_b (decide (c < 5)), M) := by
  rcases lt6 h with rfl | rfl | rfl | rfl | rfl | rfl <;> rfl
theorem cs_16 {c : Nat} (h : c < 6) (M : am_M) : fd_16 (nI c) M = some (pu_b (st_sn c), M) := by
  rcases lt6 h with rfl | rfl | rfl | rfl | rfl | rfl <;> rfl
theorem cs_38 {c : Nat} (h : c < 6) (M : am_M) : fd_38 (nI c) M = some (nI (gh_al c), M) := by
  rcases lt6 h with rfl | rfl | rfl | rfl | rfl | rfl <;> rfl
theorem cs_52 {c : Nat} (h : c < 6) (M : am_M) : fd_52 (nI c) M = some (nI (gh_ou c), M) := by
  rcases lt6 h with rfl | rfl | rfl | rfl | rfl | rfl <;> rfl
theorem cs_40 {s c : Nat} (hs : s < 6) (h : c < 3) (M : am_M) : fd_40 (nI s) (nI c) M = some (pu_b (st_sa s c), M) := by
  rcases lt3 h with rfl | rfl | rfl <;> rcases lt6 hs with rfl | rfl | rfl | rfl | rfl | rfl <;> rfl
theorem cs_41 {c f : Nat} (hs : c < 6) (h : f < 6) (M : am_M) : fd_41 (nI c) (nI f) M = some (pu_b (st_su c f), M) := by
  rcases lt6 h with rfl | rfl | rfl | rfl | rfl | rfl <;> rcases lt6 hs with rfl | rfl | rfl | rfl | rfl | rfl <;> rfl
theorem cs_48 {c f : Nat} (hs : c < 5) (h : f < 6) (M : am_M) : fd_48 (nI c) (nI f) M = some (nI (gh_vw c f), M) := by
  rcases lt6 h with rfl | rfl | rfl | rfl | rfl | rfl <;> rcases lt5 hs with rfl | rfl | rfl | rfl | rfl <;> rfl
theorem cs_49 {c f : Nat} (hs : c < 3) (h : f < 6) (M : am_M) : fd_49 (nI c) (nI f) M = some (nI (gh_dw c f), M) := by
  rcases lt6 h with rfl | rfl | rfl | rfl | rfl | rfl <;> rcases lt3 hs with rfl | rfl | rfl <;> rfl
theorem rs_138 {c : Nat} (h : c < 6) (M : am_M) : fd_138 (nI c) M = some (nI (gh_al c), M) := by
  rcases lt6 h with rfl | rfl | rfl | rfl | rfl | rfl <;> rfl
theorem rs_144 {c : Nat} (h : c < 6) (M : am_M) : fd_144 (nI c) M = some (pu_b (decide (c < 3)), M) := by
  rcases lt6 h with rfl | rfl | rfl | rfl | rfl | rfl <;> rfl
theorem rs_132 {c : Nat} (h : c < 6) (M : am_M) : fd_132 (nI c) M = some (pu_b (st_sn c), M) := by
  rcases lt6 h with rfl | rfl | rfl | rfl | rfl | rfl <;> rfl
theorem rs_151 {s c : Nat} (hs : s < 6) (h : c < 3) (M : am_M) : fd_151 (nI s) (nI c) M = some (pu_b (st_sa s c), M) := by
  rcases lt3 h with rfl | rfl | rfl <;> rcases lt6 hs with rfl | rfl | rfl | rfl | rfl | rfl <;> rfl
theorem rs_152 {c f : Nat} (hs : c < 6) (h : f < 6) (M : am_M) : fd_152 (nI c) (nI f) M = some (pu_b (st_su c f), M) := by
  rcases lt6 h with rfl | rfl | rfl | rfl | rfl | rfl <;> rcases lt6 hs with rfl | rfl | rfl | rfl | rfl | rfl <;> rfl
theorem rs_140 {c f : Nat} (hs : c < 5) (h : f < 6) (M : am_M) : fd_140 (nI c) (nI f) M = some (nI (gh_vw c f), M) := by
  rcases lt6 h with rfl | rfl | rfl | rfl | rfl | rfl <;> rcases lt5 hs with rfl | rfl | rfl | rfl | rfl <;> rfl
theorem rs_142 {c f : Nat} (hs : c < 3) (h : f < 6) (M : am_M) : fd_142 (nI c) (nI f) M = some (nI (gh_dw c f), M) := by
  rcases lt6 h with rfl | rfl | rfl | rfl | rfl | rfl <;> rcases lt3 hs with rfl | rfl | rfl <;> rfl
/-! What the locals have: capabilities, hidden, became, in a block -/
abbrev ty_T : Type := (Nat → Option Nat) × (Nat → Bool) × (Nat → Bool) × Bool
def ty_c (t : ty_T) (y : Nat) : Option Nat := if y = 6 then some 2 else t.1 y
def ty_h (t : ty_T) (y : Nat) : Bool := if y = 6 then t.2.2.2 else t.2.1 y
def ty_w (t : ty_T) : Prop := (∀ x c, t.1 x = some c → c < 6) ∧ (t.2.2.2 = false → ∀ x, t.2.1 x = false ∧ t.2.2.1 x = false)
def rf_Y (N : am_M) (t : ty_T) : Prop := (∀ x, x < 6 → N 105 x = en_o (t.1 x) ∧ N 106 x = pu_b (t.2.1 x) ∧ N 107 x = pu_b (t.2.2.1 x)) ∧ N 96 14 = pu_b t.2.2.2
def cl_Y (M : am_M) (t : ty_T) : Prop := (∀ x, x < 6 → M 4 x = en_o (t.1 x) ∧ M 5 x = pu_b (t.2.1 x) ∧ M 6 x = pu_b (t.2.2.1 x)) ∧ M 3 3 = pu_b t.2.2.2 ∧ M 4 6 = nI 2 ∧ M 5 6 = pu_b t.2.2.2
def st_uy (j : Nat) : Bool := (decide (1 ≤ j) && decide (j ≤ 7)) || decide (j = 10)
def st_uz (j : Nat) : Bool := decide (j = 4) || (decide (j = 5) || decide (j = 8))
/-- what a statement is refused for: 4, 5, 6, or else R -/
def st_fr (t : ty_T) (j y z : Nat) (R : Nat) : Nat :=
  if j = 9 ∧ t.2.2.2 = true then 4 else if j = 10 ∧ t.2.2.2 = false then 4
  else if st_uy j = true ∧ ty_h t y = true then 5 else if st_uz j = true ∧ ty_h t z = true then 5
  else if st_uy j = true ∧ ty_c t y = none then 6 else if st_uz j = true ∧ ty_c t z = none then 6
  else if j = 5 ∧ y = z then 6 else R
/-- 7, 8, 9, or 0 -/
def st_tl (pr : Nat → Nat) (j cy cz y f : Nat) : Nat :=
  if j = 3 ∨ j = 7 then (if cy < 5 then 0 else 7)
  else if j = 6 then (if cy < 3 then 0 else 7)
  else if j = 4 then (if cy < 3 then (if st_sa (gh_al cz) cy = true then (if st_su (gh_al cz) f = true then 0 else 9) else 8) else 7)
  else if j = 5 then (if cy < 3 then (if st_sa cz cy = true then (if st_su cz f = true then 0 else 9) else 8) else 7)
  else if j = 8 then (if st_su cz (pr y) = true then 0 else 9)
  else 0
/-- why a statement that names only what there is is refused; 0: it isn't -/
def st_re (pr : Nat → Nat) (t : ty_T) (j y f z : Nat) : Nat := st_fr t j y z (st_tl pr j ((ty_c t y).getD 0) ((ty_c t z).getD 0) y f)
theorem lt11 {j : Nat} (h : j < 11) : j = 0 ∨ j = 1 ∨ j = 2 ∨ j = 3 ∨ j = 4 ∨ j = 5 ∨ j = 6 ∨ j = 7 ∨ j = 8 ∨ j = 9 ∨ j = 10 := by omega
