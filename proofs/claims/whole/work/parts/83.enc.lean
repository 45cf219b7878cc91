/-! Numbers and options as ints -/
def en_i (v : Int) : Int32 := Int32.ofInt v
def en_o : Option Nat → Int32
  | none => -1
  | some t => nI t
theorem en_i_nat (n : Nat) : en_i (n : Int) = nI n := rfl
theorem en_i_add (x y : Int) : en_i (x + y) = en_i x + en_i y := Int32.ofInt_add x y
theorem en_i_neg (x : Int) : en_i (- x) = - en_i x := Int32.ofInt_neg x
theorem en_i_sub (x y : Int) : en_i (x - y) = en_i x - en_i y := by
  rw [Int.sub_eq_add_neg, en_i_add, en_i_neg, Int32.sub_eq_add_neg]
theorem en_i_toInt {x : Int} (h1 : -2147483648 ≤ x) (h2 : x < 2147483648) : (en_i x).toInt = x := by
  unfold en_i
  have e : (Int32.size : Int) = 4294967296 := rfl
  rw [Int32.toInt_ofInt, Int.bmod_eq_of_le]
  · omega
  · omega
/-- small enough to be compared -/
def en_w (x : Int) : Prop := -1000000000 < x ∧ x < 1000000000
theorem en_i_eq {x y : Int} (hx : en_w x) (hy : en_w y) : en_i x = en_i y ↔ x = y := by
  rw [← Int32.toInt_inj, en_i_toInt (by have := hx.1; omega) (by have := hx.2; omega), en_i_toInt (by have := hy.1; omega) (by have := hy.2; omega)]
theorem en_i_lt {x y : Int} (hx : en_w x) (hy : en_w y) : en_i x < en_i y ↔ x < y := by
  rw [Int32.lt_iff_toInt_lt, en_i_toInt (by have := hx.1; omega) (by have := hx.2; omega), en_i_toInt (by have := hy.1; omega) (by have := hy.2; omega)]
theorem en_i_le {x y : Int} (hx : en_w x) (hy : en_w y) : en_i x ≤ en_i y ↔ x ≤ y := by
  rw [Int32.le_iff_toInt_le, en_i_toInt (by have := hx.1; omega) (by have := hx.2; omega), en_i_toInt (by have := hy.1; omega) (by have := hy.2; omega)]
theorem en_nI_m1 {t : Nat} (h : t < 1000) : nI t ≠ -1 := by
  intro e
  have : en_i (t : Int) = en_i (-1) := e
  rw [en_i_eq ⟨by omega, by omega⟩ ⟨by omega, by omega⟩] at this
  omega
theorem en_nI {s t : Nat} (hs : s < 1000) (ht : t < 1000) : nI s = nI t ↔ s = t := nI_eq (by omega) (by omega)
theorem en_o_m1 {v : Option Nat} (h : ∀ t, v = some t → t < 1000) : en_o v = -1 ↔ v = none := by
  cases v with
  | none => exact ⟨fun _ => rfl, fun _ => rfl⟩
  | some t => exact ⟨fun e => absurd e (en_nI_m1 (h t rfl)), fun e => by cases e⟩
theorem en_o_nI {v : Option Nat} {a : Nat} (ha : a < 1000) (h : ∀ t, v = some t → t < 1000) : en_o v = nI a ↔ v = some a := by
  cases v with
  | none => exact ⟨fun e => absurd e.symm (en_nI_m1 ha), fun e => by cases e⟩
  | some t =>
    constructor
    · intro e; rw [(en_nI (h t rfl) ha).mp e]
    · intro e; injection e with e; rw [e]; rfl
/-! Rows -/
theorem dw_s (M : am_M) (a k : Nat) (v : Int32) : ds_w M a k v a k = v := by unfold ds_w; rw [am_set_s]; exact if_pos rfl
theorem dw_n (M : am_M) {a k j : Nat} (v : Int32) (h : j ≠ k) : ds_w M a k v a j = M a j := by unfold ds_w; rw [am_set_s]; exact if_neg h
theorem dw_r (M : am_M) {a b : Nat} (k : Nat) (v : Int32) (h : b ≠ a) : ds_w M a k v b = M b := by unfold ds_w; exact am_set_n _ _ h
theorem dw_x (M : am_M) (a k : Nat) (v : Int32) (b j : Nat) : ds_w M a k v b j = if b = a ∧ j = k then v else M b j := by
  by_cases e : b = a
  · subst e
    by_cases e2 : j = k
    · subst e2; rw [dw_s, if_pos ⟨rfl, rfl⟩]
    · rw [dw_n _ _ e2, if_neg (fun h => e2 h.2)]
  · rw [dw_r _ _ _ e, if_neg (fun h => e h.1)]
/-- only rows of L have changed -/
def fr_ (L : List Nat) (N N' : am_M) : Prop := ∀ h, h ∉ L → N' h = N h
/-- of row 96, only slots of L have changed -/
def fs_ (L : List Nat) (N N' : am_M) : Prop := ∀ s, s ∉ L → N' 96 s = N 96 s
theorem fr_refl (L : List Nat) (N : am_M) : fr_ L N N := fun _ _ => rfl
theorem fs_refl (L : List Nat) (N : am_M) : fs_ L N N := fun _ _ => rfl
theorem fr_tr {L : List Nat} {A B C : am_M} (h1 : fr_ L A B) (h2 : fr_ L B C) : fr_ L A C := fun h n => (h2 h n).trans (h1 h n)
theorem fs_tr {L : List Nat} {A B C : am_M} (h1 : fs_ L A B) (h2 : fs_ L B C) : fs_ L A C := fun h n => (h2 h n).trans (h1 h n)
theorem fr_up {L L' : List Nat} {A B : am_M} (h : fr_ L A B) (hL : ∀ x, x ∈ L → x ∈ L') : fr_ L' A B := fun x n => h x (fun m => n (hL x m))
theorem fs_up {L L' : List Nat} {A B : am_M} (h : fs_ L A B) (hL : ∀ x, x ∈ L → x ∈ L') : fs_ L' A B := fun x n => h x (fun m => n (hL x m))
theorem fr_w {L : List Nat} {A B : am_M} {a k : Nat} {v : Int32} (h : fr_ L A B) (ha : a ∈ L) : fr_ L A (ds_w B a k v) := fun x n => by
  rw [dw_r _ _ _ (fun e => n (by rw [e]; exact ha))]; exact h x n
theorem fs_w {L : List Nat} {A B : am_M} {a k : Nat} {v : Int32} (h : fs_ L A B) (ha : a = 96 → k ∈ L) : fs_ L A (ds_w B a k v) := fun s n => by
  rw [dw_x, if_neg]
  · exact h s n
  · rintro ⟨e1, e2⟩; exact n (by rw [e2]; exact ha e1.symm)
theorem fs_of {L : List Nat} {A B : am_M} {K : List Nat} (h : fr_ K A B) (h96 : 96 ∉ K) : fs_ L A B := fun s _ => by rw [h 96 h96]
/-- an index that is in -/
theorem pu_gd {α : Type} {j n : Nat} {x : Option α} (h : j < n) (hn : n < 1000) : (if nI j < 0 ∨ n ≤ (nI j).toNatClampNeg then none else x) = x := if_neg (pu_in h hn)
theorem pu_6 (a b : Nat) : (6 : Int32) * nI a + nI b = nI (6 * a + b) := pu_ma 6 a b
theorem pu_16 (a b : Nat) : (16 : Int32) * nI a + nI b = nI (16 * a + b) := pu_ma 16 a b
theorem pu_6' (a b : Nat) : nI a * (6 : Int32) + nI b = nI (a * 6 + b) := pu_ma a 6 b
theorem pu_16' (a b : Nat) : nI a * (16 : Int32) + nI b = nI (a * 16 + b) := pu_ma a 16 b
theorem pu_le {a b : Nat} (ha : a < 1000) (hb : b < 1000) : nI a ≤ nI b ↔ a ≤ b := nI_leI (by omega) (by omega)
theorem pu_lt {a b : Nat} (ha : a < 1000) (hb : b < 1000) : nI a < nI b ↔ a < b := nI_ltI (by omega) (by omega)
/-- loops: a number of steps -/
theorem pu_end {α : Type} {n a : Nat} {x y : α} (h : n ≤ a) (ha : a < 1000) : (if nI n ≤ nI a then x else y) = x := if_pos ((pu_le (by omega) ha).mpr h)
theorem pu_go {α : Type} {n a : Nat} {x y : α} (h : a < n) (hn : n < 1000) : (if nI n ≤ nI a then x else y) = y := if_neg (fun e => by have := (pu_le hn (by omega)).mp e; omega)
theorem pu_g2 {α : Type} {j n : Nat} {x : Option α} (h : j < n) (hj : j < 1000) : (if nI j < 0 ∨ n ≤ j then none else x) = x := if_neg (by rintro (h' | h'); exact pu_pos hj h'; omega)
theorem pu_x4 {α : Type} {a : Nat} {x y : α} (h : a < 4) : (if (4 : Int32) ≤ nI a then x else y) = y := pu_go (n := 4) h (by decide)
theorem pu_y4 {α : Type} {a : Nat} {x y : α} (h : 4 ≤ a) (ha : a < 1000) : (if (4 : Int32) ≤ nI a then x else y) = x := pu_end (n := 4) h ha
theorem pu_x6 {α : Type} {a : Nat} {x y : α} (h : a < 6) : (if (6 : Int32) ≤ nI a then x else y) = y := pu_go (n := 6) h (by decide)
theorem pu_y6 {α : Type} {a : Nat} {x y : α} (h : 6 ≤ a) (ha : a < 1000) : (if (6 : Int32) ≤ nI a then x else y) = x := pu_end (n := 6) h ha
theorem pu_x16 {α : Type} {a : Nat} {x y : α} (h : a < 16) : (if (16 : Int32) ≤ nI a then x else y) = y := pu_go (n := 16) h (by decide)
theorem pu_y16 {α : Type} {a : Nat} {x y : α} (h : 16 ≤ a) (ha : a < 1000) : (if (16 : Int32) ≤ nI a then x else y) = x := pu_end (n := 16) h ha
theorem pu_x17 {α : Type} {a : Nat} {x y : α} (h : a < 17) : (if (17 : Int32) ≤ nI a then x else y) = y := pu_go (n := 17) h (by decide)
theorem pu_y17 {α : Type} {a : Nat} {x y : α} (h : 17 ≤ a) (ha : a < 1000) : (if (17 : Int32) ≤ nI a then x else y) = x := pu_end (n := 17) h ha
theorem pu_x96 {α : Type} {a : Nat} {x y : α} (h : a < 96) : (if (96 : Int32) ≤ nI a then x else y) = y := pu_go (n := 96) h (by decide)
theorem pu_y96 {α : Type} {a : Nat} {x y : α} (h : 96 ≤ a) (ha : a < 1000) : (if (96 : Int32) ≤ nI a then x else y) = x := pu_end (n := 96) h ha
