/-! Rows of the small machine's runs -/
def ds_w (M : am_M) (a k : Nat) (v : Int32) : am_M := am_set M a (upd (M a) k v)
def ds_c (M : am_M) (a b sp dp n : Nat) : am_M := am_set M b (va_cpy (M a) (M b) sp dp n)
section EV
variable {P : am_T} {mi pc a b N t n ix ci k z u ta : Nat} {g : Nat → Option Nat} {fs : List (Option Value)} {L : List (Option Value)} {rest : List Value} {sh : List am_C} {M : am_M} {r : am_R} {x y v : Int32}
theorem ev_lt (h1 : x < y → am_ev P mi a L rest sh M r) (h2 : ¬ x < y → am_ev P mi b L rest sh M r) : am_ev P mi (am_br .lt x y a b) L rest sh M r := by
  by_cases h : x < y
  · rw [show am_br .lt x y a b = a from if_pos h]; exact h1 h
  · rw [show am_br .lt x y a b = b from if_neg h]; exact h2 h
theorem ev_ge (h1 : y ≤ x → am_ev P mi a L rest sh M r) (h2 : ¬ y ≤ x → am_ev P mi b L rest sh M r) : am_ev P mi (am_br .ge x y a b) L rest sh M r := by
  by_cases h : y ≤ x
  · rw [show am_br .ge x y a b = a from if_pos h]; exact h1 h
  · rw [show am_br .ge x y a b = b from if_neg h]; exact h2 h
theorem ev_gt (h1 : y < x → am_ev P mi a L rest sh M r) (h2 : ¬ y < x → am_ev P mi b L rest sh M r) : am_ev P mi (am_br .gt x y a b) L rest sh M r := by
  by_cases h : y < x
  · rw [show am_br .gt x y a b = a from if_pos h]; exact h1 h
  · rw [show am_br .gt x y a b = b from if_neg h]; exact h2 h
theorem ev_le (h1 : x ≤ y → am_ev P mi a L rest sh M r) (h2 : ¬ x ≤ y → am_ev P mi b L rest sh M r) : am_ev P mi (am_br .le x y a b) L rest sh M r := by
  by_cases h : x ≤ y
  · rw [show am_br .le x y a b = a from if_pos h]; exact h1 h
  · rw [show am_br .le x y a b = b from if_neg h]; exact h2 h
theorem ev_eq (h1 : x = y → am_ev P mi a L rest sh M r) (h2 : ¬ x = y → am_ev P mi b L rest sh M r) : am_ev P mi (am_br .eq x y a b) L rest sh M r := by
  by_cases h : x = y
  · rw [show am_br .eq x y a b = a from if_pos h]; exact h1 h
  · rw [show am_br .eq x y a b = b from if_neg h]; exact h2 h
theorem ev_ne (h1 : ¬ x = y → am_ev P mi a L rest sh M r) (h2 : x = y → am_ev P mi b L rest sh M r) : am_ev P mi (am_br .ne x y a b) L rest sh M r := by
  by_cases h : x = y
  · rw [show am_br .ne x y a b = b from if_pos h]; exact h2 h
  · rw [show am_br .ne x y a b = a from if_neg h]; exact h1 h
theorem ev_hp {i : am_I} {st st' : List Value} {sh' : List am_C} {M' : am_M} (hco : P.1 mi pc = some (i, n)) (h1 : am_bin i = none) (h2 : am_psh (P.2.2.1 mi) i = none) (h3 : am_ldi i = none) (h4 : am_lda i = none) (h5 : am_sti i = none) (h6 : am_sta i = none) (h7 : am_dup i st = none) (h : am_hp P mi i st sh M = some (st', sh', M')) (k : am_ev P mi (pc + n) L st' sh' M' r) : am_ev P mi pc L st sh M r := by
  refine am_ev_nx (pc' := pc + n) (L' := L) (st' := st') (sh' := sh') (M' := M') ?_ k
  unfold am_act
  rw [hco]
  show am_ins P mi pc i n L st sh M = _
  unfold am_ins
  simp only [h1, h2, h3, h4, h5, h6, h7, h]
  rfl
theorem ev_iald (hco : P.1 mi pc = some (.iaload, 1)) (hsh : am_nth sh a = some (.inr (0, N, g))) (hin : ¬ (x < 0 ∨ N ≤ x.toNatClampNeg)) (k : am_ev P mi (pc + 1) L (.int (M a x.toNatClampNeg) :: rest) sh M r) : am_ev P mi pc L (.int x :: .ref a :: rest) sh M r := by
  refine ev_hp hco rfl rfl rfl rfl rfl rfl rfl (st' := .int (M a x.toNatClampNeg) :: rest) (sh' := sh) (M' := M) ?_ k
  simp only [am_hp, hsh, if_true]
  rw [if_neg hin]
theorem ev_bald (hco : P.1 mi pc = some (.baload, 1)) (hsh : am_nth sh a = some (.inr (1, N, g))) (hin : ¬ (x < 0 ∨ N ≤ x.toNatClampNeg)) (k : am_ev P mi (pc + 1) L (.int (M a x.toNatClampNeg) :: rest) sh M r) : am_ev P mi pc L (.int x :: .ref a :: rest) sh M r := by
  refine ev_hp hco rfl rfl rfl rfl rfl rfl rfl (st' := .int (M a x.toNatClampNeg) :: rest) (sh' := sh) (M' := M) ?_ k
  simp only [am_hp, hsh, if_true]
  rw [if_neg hin]
theorem ev_sld {f : Nat → Int32} (hco : P.1 mi pc = some (.iaload, 1)) (hsh : am_nth sh a = none) (hro : P.2.2.2.2.2.2 a = some (N, f)) (hin : ¬ (x < 0 ∨ N ≤ x.toNatClampNeg)) (k : am_ev P mi (pc + 1) L (.int (f x.toNatClampNeg) :: rest) sh M r) : am_ev P mi pc L (.int x :: .ref a :: rest) sh M r := by
  refine ev_hp hco rfl rfl rfl rfl rfl rfl rfl (st' := .int (f x.toNatClampNeg) :: rest) (sh' := sh) (M' := M) ?_ k
  simp only [am_hp, hsh, hro]
  rw [if_neg hin]
theorem ev_iast (hco : P.1 mi pc = some (.iastore, 1)) (hsh : am_nth sh a = some (.inr (0, N, g))) (hin : ¬ (x < 0 ∨ N ≤ x.toNatClampNeg)) (k : am_ev P mi (pc + 1) L rest sh (ds_w M a x.toNatClampNeg v) r) : am_ev P mi pc L (.int v :: .int x :: .ref a :: rest) sh M r := by
  refine ev_hp hco rfl rfl rfl rfl rfl rfl rfl (st' := rest) (sh' := sh) (M' := ds_w M a x.toNatClampNeg v) ?_ k
  simp only [am_hp, hsh, if_true]
  rw [if_neg hin]
  rfl
theorem ev_bast (hco : P.1 mi pc = some (.bastore, 1)) (hsh : am_nth sh a = some (.inr (1, N, g))) (hin : ¬ (x < 0 ∨ N ≤ x.toNatClampNeg)) (k : am_ev P mi (pc + 1) L rest sh (ds_w M a x.toNatClampNeg (v &&& 1)) r) : am_ev P mi pc L (.int v :: .int x :: .ref a :: rest) sh M r := by
  refine ev_hp hco rfl rfl rfl rfl rfl rfl rfl (st' := rest) (sh' := sh) (M' := ds_w M a x.toNatClampNeg (v &&& 1)) ?_ k
  simp only [am_hp, hsh, if_true]
  rw [if_neg hin]
  rfl
theorem ev_getI (hco : P.1 mi pc = some (.getfield ix, 3)) (hlk : P.2.1 mi ix = some (0, ci, k, z, u)) (hsh : am_nth sh a = some (.inl (ci, fs))) (hfs : am_nth fs k = some none) (kk : am_ev P mi (pc + 3) L (.int (M a k) :: rest) sh M r) : am_ev P mi pc L (.ref a :: rest) sh M r := by
  refine ev_hp hco rfl rfl rfl rfl rfl rfl rfl (st' := .int (M a k) :: rest) (sh' := sh) (M' := M) ?_ kk
  simp only [am_hp, hlk, hsh, hfs, if_true]
theorem ev_getR {w : Value} (hco : P.1 mi pc = some (.getfield ix, 3)) (hlk : P.2.1 mi ix = some (0, ci, k, z, u)) (hsh : am_nth sh a = some (.inl (ci, fs))) (hfs : am_nth fs k = some (some w)) (kk : am_ev P mi (pc + 3) L (w :: rest) sh M r) : am_ev P mi pc L (.ref a :: rest) sh M r := by
  refine ev_hp hco rfl rfl rfl rfl rfl rfl rfl (st' := w :: rest) (sh' := sh) (M' := M) ?_ kk
  simp only [am_hp, hlk, hsh, hfs, if_true]
theorem ev_putI {ty : FieldType} (hco : P.1 mi pc = some (.putfield ix, 3)) (hlk : P.2.1 mi ix = some (0, ci, k, z, 0)) (hsh : am_nth sh a = some (.inl (ci, fs))) (hfs : am_nth fs k = some none) (hty : am_nth (P.2.2.2.1 ci) k = some ty) (hft : am_fit ty x = true) (kk : am_ev P mi (pc + 3) L rest sh (ds_w M a k x) r) : am_ev P mi pc L (.int x :: .ref a :: rest) sh M r := by
  refine ev_hp hco rfl rfl rfl rfl rfl rfl rfl (st' := rest) (sh' := sh) (M' := ds_w M a k x) ?_ kk
  simp only [am_hp, hlk, hsh, hfs, hty, hft, if_true]
  rfl
theorem ev_aald (hco : P.1 mi pc = some (.aaload, 1)) (hsh : am_nth sh a = some (.inr (ta, N, g))) (ht : 2 ≤ ta) (hin : ¬ (x < 0 ∨ N ≤ x.toNatClampNeg)) (hg : g x.toNatClampNeg = some b) (k : am_ev P mi (pc + 1) L (.ref b :: rest) sh M r) : am_ev P mi pc L (.int x :: .ref a :: rest) sh M r := by
  refine ev_hp hco rfl rfl rfl rfl rfl rfl rfl (st' := .ref b :: rest) (sh' := sh) (M' := M) ?_ k
  simp only [am_hp, hsh]
  rw [if_pos ht, if_neg hin, hg]
theorem ev_bin {i : am_I} {f : Int32 → Int32 → Option Int32} {w : Int32} (hco : P.1 mi pc = some (i, n)) (hb : am_bin i = some f) (hf : f x y = some w) (k : am_ev P mi (pc + 1) L (.int w :: rest) sh M r) : am_ev P mi pc L (.int y :: .int x :: rest) sh M r := by
  refine am_ev_nx (pc' := pc + 1) (L' := L) (st' := .int w :: rest) (sh' := sh) (M' := M) ?_ k
  unfold am_act
  rw [hco]
  show am_ins P mi pc i n L _ sh M = _
  unfold am_ins
  simp only [hb, hf]
  rfl
theorem ev_idiv (hco : P.1 mi pc = some (.idiv, 1)) (hy : ¬ y = 0) (k : am_ev P mi (pc + 1) L (.int (x / y) :: rest) sh M r) : am_ev P mi pc L (.int y :: .int x :: rest) sh M r := ev_bin hco rfl (if_neg hy) k
theorem ev_irem (hco : P.1 mi pc = some (.irem, 1)) (hy : ¬ y = 0) (k : am_ev P mi (pc + 1) L (.int (x - x / y * y) :: rest) sh M r) : am_ev P mi pc L (.int y :: .int x :: rest) sh M r := ev_bin hco rfl (if_neg hy) k
theorem ev_oth {i : am_I} {st : List Value} {o : am_A} (hco : P.1 mi pc = some (i, n)) (h1 : am_bin i = none) (h2 : am_psh (P.2.2.1 mi) i = none) (h3 : am_ldi i = none) (h4 : am_lda i = none) (h5 : am_sti i = none) (h6 : am_sta i = none) (h7 : am_dup i st = none) (h8 : am_hp P mi i st sh M = none) (h : am_oth P mi pc i L st sh M = some o) : am_act P mi pc L st sh M = some o := by
  unfold am_act
  rw [hco]
  show am_ins P mi pc i n L st sh M = _
  unfold am_ins
  simp only [h1, h2, h3, h4, h5, h6, h7, h8, h]
theorem ev_fmod {v1 v2 v3 v4 : Nat} (hco : P.1 mi pc = some (.invokestatic ix, 3)) (hlk : P.2.1 mi ix = some (9, v1, v2, v3, v4)) (hx : ¬ x < 0) (hr : ¬ 8 < rest.length) (k : am_ev P mi (pc + 3) L (.int (x - x / 16 * 16) :: rest) sh M r) : am_ev P mi pc L (.int 16 :: .int x :: rest) sh M r := by
  refine am_ev_nx (pc' := pc + 3) (L' := L) (st' := .int (x - x / 16 * 16) :: rest) (sh' := sh) (M' := M) ?_ k
  refine ev_oth hco rfl rfl rfl rfl rfl rfl rfl rfl ?_
  show am_cal P mi pc ix 1 L _ sh M = _
  unfold am_cal
  rw [hlk]
  show (if ¬ (1 : Nat) = 1 then none else if 8 < rest.length ∨ ¬ (16 : Int32) = 16 ∨ x < 0 then none else _) = _
  rw [if_neg (fun q => q rfl), if_neg (fun q => q.elim hr (fun q => q.elim (fun q => q rfl) hx))]
  rfl
theorem ev_copy {v1 v2 v3 v4 na nb : Nat} {ga gb : Nat → Option Nat} {sp dp nn : Int32} (hco : P.1 mi pc = some (.invokestatic ix, 3)) (hlk : P.2.1 mi ix = some (4, v1, v2, v3, v4)) (ha : am_nth sh a = some (.inr (0, na, ga))) (hb : am_nth sh b = some (.inr (0, nb, gb))) (hr : ¬ 8 < rest.length)
    (hg : ¬ (sp < 0 ∨ dp < 0 ∨ nn < 0 ∨ nb < sp.toNatClampNeg + nn.toNatClampNeg ∨ na < dp.toNatClampNeg + nn.toNatClampNeg)) (k : am_ev P mi (pc + 3) L rest sh (ds_c M b a sp.toNatClampNeg dp.toNatClampNeg nn.toNatClampNeg) r) : am_ev P mi pc L (.int nn :: .int dp :: .ref a :: .int sp :: .ref b :: rest) sh M r := by
  refine am_ev_nx (pc' := pc + 3) (L' := L) (st' := rest) (sh' := sh) (M' := ds_c M b a sp.toNatClampNeg dp.toNatClampNeg nn.toNatClampNeg) ?_ k
  refine ev_oth hco rfl rfl rfl rfl rfl rfl rfl rfl ?_
  show am_cal P mi pc ix 1 L _ sh M = _
  unfold am_cal
  rw [hlk]
  simp only [ha, hb]
  rw [if_neg (fun q => q trivial), if_neg (fun q => ?_)]
  · rfl
  · rcases q with q | q | q | q
    · exact hr q
    · exact q trivial
    · exact q trivial
    · exact hg q
theorem ev_calV {mj na kd : Nat} {st as : List Value} (hco : P.1 mi pc = some (.invokevirtual ix, 3)) (hlk : P.2.1 mi ix = some (2, mj, na, kd, ci)) (hkd : kd % 3 = 0) (hst : st.drop na = .ref b :: rest) (hlen : Nat.ble na st.length = true) (hsh : am_nth sh b = some (.inl (ci, fs))) (hr : Nat.ble rest.length 8 = true) (has : Value.ref b :: (st.take na).reverse = as) (hml : Nat.ble as.length (P.2.2.2.2.2.1 mj) = true) : am_act P mi pc L st sh M = some (.inr (.inr (mj, as, rest))) := by
  subst has
  have h1 := Nat.le_of_ble_eq_true hlen
  have h2 := Nat.le_of_ble_eq_true hr
  have h3 := Nat.le_of_ble_eq_true hml
  have hdup : am_dup (.invokevirtual ix) st = none := by
    unfold am_dup
    cases st <;> rfl
  refine ev_oth hco rfl rfl rfl rfl rfl rfl hdup rfl ?_
  show am_cal P mi pc ix 0 L st sh M = _
  unfold am_cal
  rw [hlk]
  simp only [hst, hsh]
  rw [if_neg (by omega), if_neg (by decide), if_pos trivial, if_pos trivial]
  show (if 8 < rest.length ∨ P.2.2.2.2.2.1 mj < (Value.ref b :: (st.take na).reverse).length then none else _) = _
  rw [if_neg (by omega)]
theorem ev_ret {ty : FieldType} (hco : P.1 mi pc = some (.ireturn, 1)) (hrt : P.2.2.2.2.1 mi = some ty) (hf : am_fit ty x = true) : am_ev P mi pc L [.int x] sh M (some (.int x), sh, M) := by
  refine am_ev_ret ?_
  refine ev_oth hco rfl rfl rfl rfl rfl rfl rfl rfl ?_
  simp only [am_oth, hrt, hf, if_true]
theorem ev_swi {d lo hi : Int} {offs : Array Int} {c : Int32} (hx : x = c) (hco : P.1 mi pc = some (.tableswitch d lo hi offs, n)) (ht : am_sw pc c (.tableswitch d lo hi offs) = some t) (k : am_ev P mi t L rest sh M r) : am_ev P mi pc L (.int x :: rest) sh M r := by
  subst hx
  refine am_ev_nx (pc' := t) (L' := L) (st' := rest) (sh' := sh) (M' := M) ?_ k
  refine ev_oth hco rfl rfl rfl rfl rfl rfl rfl rfl ?_
  simp only [am_oth, ht]
  rfl
theorem ev_swo {d lo hi : Int} {offs : Array Int} (hx : x.toInt < lo ∨ hi < x.toInt) (hco : P.1 mi pc = some (.tableswitch d lo hi offs, n)) (ht : am_tg pc d = some t) (k : am_ev P mi t L rest sh M r) : am_ev P mi pc L (.int x :: rest) sh M r :=
  ev_swi rfl hco (by
    simp only [am_sw]
    rw [if_pos hx]
    exact ht) k
end EV
theorem sw_out {x : Int32} (lo hi : Int) (h0 : -2147483648 ≤ lo) (h1 : hi ≤ 2147483647) (h : ∀ k : Int, lo ≤ k → k ≤ hi → x ≠ Int32.ofInt k) : x.toInt < lo ∨ hi < x.toInt := by
  by_cases q1 : x.toInt < lo
  · exact Or.inl q1
  by_cases q2 : hi < x.toInt
  · exact Or.inr q2
  exact absurd (Int32.ofInt_toInt x).symm (h x.toInt (by omega) (by omega))
theorem sw_0_10 {x : Int32} (e0 : ¬ x = 0) (e1 : ¬ x = 1) (e2 : ¬ x = 2) (e3 : ¬ x = 3) (e4 : ¬ x = 4) (e5 : ¬ x = 5) (e6 : ¬ x = 6) (e7 : ¬ x = 7) (e8 : ¬ x = 8) (e9 : ¬ x = 9) (e10 : ¬ x = 10) : x.toInt < 0 ∨ 10 < x.toInt := by
  refine sw_out 0 10 (by decide) (by decide) (fun k h0 h1 => ?_)
  rcases (show k = 0 ∨ k = 1 ∨ k = 2 ∨ k = 3 ∨ k = 4 ∨ k = 5 ∨ k = 6 ∨ k = 7 ∨ k = 8 ∨ k = 9 ∨ k = 10 by omega) with rfl | rfl | rfl | rfl | rfl | rfl | rfl | rfl | rfl | rfl | rfl <;> assumption
theorem sw_3_7 {x : Int32} (e3 : ¬ x = 3) (e4 : ¬ x = 4) (e5 : ¬ x = 5) (e6 : ¬ x = 6) (e7 : ¬ x = 7) : x.toInt < 3 ∨ 7 < x.toInt := by
  refine sw_out 3 7 (by decide) (by decide) (fun k h0 h1 => ?_)
  rcases (show k = 3 ∨ k = 4 ∨ k = 5 ∨ k = 6 ∨ k = 7 by omega) with rfl | rfl | rfl | rfl | rfl <;> assumption
