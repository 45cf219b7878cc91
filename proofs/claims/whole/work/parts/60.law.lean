/-! The law's loop as a function -/
theorem sw_0_17 {x : Int32} (e0 : ¬ x = 0) (e1 : ¬ x = 1) (e2 : ¬ x = 2) (e3 : ¬ x = 3) (e4 : ¬ x = 4) (e5 : ¬ x = 5) (e6 : ¬ x = 6) (e7 : ¬ x = 7) (e8 : ¬ x = 8) (e9 : ¬ x = 9) (e10 : ¬ x = 10) (e11 : ¬ x = 11) (e12 : ¬ x = 12) (e13 : ¬ x = 13) (e14 : ¬ x = 14) (e15 : ¬ x = 15) (e16 : ¬ x = 16) (e17 : ¬ x = 17) : x.toInt < 0 ∨ 17 < x.toInt := by
  refine sw_out 0 17 (by decide) (by decide) (fun k h0 h1 => ?_)
  rcases (show k = 0 ∨ k = 1 ∨ k = 2 ∨ k = 3 ∨ k = 4 ∨ k = 5 ∨ k = 6 ∨ k = 7 ∨ k = 8 ∨ k = 9 ∨ k = 10 ∨ k = 11 ∨ k = 12 ∨ k = 13 ∨ k = 14 ∨ k = 15 ∨ k = 16 ∨ k = 17 by omega) with rfl | rfl | rfl | rfl | rfl | rfl | rfl | rfl | rfl | rfl | rfl | rfl | rfl | rfl | rfl | rfl | rfl | rfl <;> assumption
def fd_0_592 (L : Nat) (xs : Nat → Int32) (k28 : Int32 → am_M → Option (Int32 × am_M)) (x3 : Int32) (M : am_M) : Option (Int32 × am_M) := k28 (x3 + (6 : Int32)) M
set_option maxRecDepth 50000 in
set_option maxHeartbeats 4000000 in
theorem te_0_592 {L : Nat} {xs : Nat → Int32} {k28 : Int32 → am_M → Option (Int32 × am_M)} (hk28 : ∀ (x3 : Int32) (M : am_M) (q : Int32 × am_M), k28 x3 M = some q → am_ev (tb_P L xs) 0 28 [some (.ref 1048582), some (.ref 0), some (.ref 96), some (.int x3)] [] sh_A M (some (.int q.1), sh_A, q.2)) (x3 : Int32) (M : am_M) (q : Int32 × am_M) (h : fd_0_592 L xs k28 x3 M = some q) : am_ev (tb_P L xs) 0 592 [some (.ref 1048582), some (.ref 0), some (.ref 96), some (.int x3)] [] sh_A M (some (.int q.1), sh_A, q.2) := by
  unfold fd_0_592 at h
  refine am_ev_go (pc' := 28) (L' := [some (.ref 1048582), some (.ref 0), some (.ref 96), some (.int (x3 + (6 : Int32)))]) (st' := []) (sh' := sh_A) (M' := M) 2 rfl ?_
  exact hk28 _ _ _ h
def fd_0_28 (L : Nat) (xs : Nat → Int32) (f : Nat) : Int32 → am_M → Option (Int32 × am_M) := Nat.rec (motive := fun _ => Int32 → am_M → Option (Int32 × am_M)) (fun _ _ => none) (fun _ k28 => fun x3 M => if ((Int32.ofNat L) - (6 : Int32)) < x3 then (some ((1 : Int32), M)) else (if x3 < 0 ∨ L ≤ x3.toNatClampNeg then none else if ((xs x3.toNatClampNeg) &&& (31 : Int32)) = (0 : Int32) then (if (x3 + (1 : Int32)) < 0 ∨ L ≤ (x3 + (1 : Int32)).toNatClampNeg then none else (fd_12 (xs (x3 + (1 : Int32)).toNatClampNeg) M).bind fun q5 => if (x3 + (1 : Int32)) < 0 ∨ L ≤ (x3 + (1 : Int32)).toNatClampNeg then none else (fd_131 (xs (x3 + (1 : Int32)).toNatClampNeg) q5.2).bind fun q8 => if q5.1 = q8.1 then (fd_0_592 L xs k28 x3 q8.2) else (some ((0 : Int32), q8.2))) else if ((xs x3.toNatClampNeg) &&& (31 : Int32)) = (1 : Int32) then (if (x3 + (1 : Int32)) < 0 ∨ L ≤ (x3 + (1 : Int32)).toNatClampNeg then none else if (x3 + (2 : Int32)) < 0 ∨ L ≤ (x3 + (2 : Int32)).toNatClampNeg then none else if (x3 + (3 : Int32)) < 0 ∨ L ≤ (x3 + (3 : Int32)).toNatClampNeg then none else if (x3 + (4 : Int32)) < 0 ∨ L ≤ (x3 + (4 : Int32)).toNatClampNeg then none else if (x3 + (5 : Int32)) < 0 ∨ L ≤ (x3 + (5 : Int32)).toNatClampNeg then none else (fd_21 (xs (x3 + (1 : Int32)).toNatClampNeg) (xs (x3 + (2 : Int32)).toNatClampNeg) (xs (x3 + (3 : Int32)).toNatClampNeg) (xs (x3 + (4 : Int32)).toNatClampNeg) (xs (x3 + (5 : Int32)).toNatClampNeg) M).bind fun q17 => if (x3 + (1 : Int32)) < 0 ∨ L ≤ (x3 + (1 : Int32)).toNatClampNeg then none else if (x3 + (2 : Int32)) < 0 ∨ L ≤ (x3 + (2 : Int32)).toNatClampNeg then none else if (x3 + (3 : Int32)) < 0 ∨ L ≤ (x3 + (3 : Int32)).toNatClampNeg then none else if (x3 + (4 : Int32)) < 0 ∨ L ≤ (x3 + (4 : Int32)).toNatClampNeg then none else if (x3 + (5 : Int32)) < 0 ∨ L ≤ (x3 + (5 : Int32)).toNatClampNeg then none else (fd_145 (xs (x3 + (1 : Int32)).toNatClampNeg) (xs (x3 + (2 : Int32)).toNatClampNeg) (xs (x3 + (3 : Int32)).toNatClampNeg) (xs (x3 + (4 : Int32)).toNatClampNeg) (xs (x3 + (5 : Int32)).toNatClampNeg) q17.2).bind fun q24 => if q17.1 = q24.1 then (fd_0_592 L xs k28 x3 q24.2) else (some ((0 : Int32), q24.2))) else if ((xs x3.toNatClampNeg) &&& (31 : Int32)) = (2 : Int32) then ((fd_54 M).bind fun q28 => (fd_134 q28.2).bind fun q30 => if q28.1 = q30.1 then (fd_0_592 L xs k28 x3 q30.2) else (some ((0 : Int32), q30.2))) else if ((xs x3.toNatClampNeg) &&& (31 : Int32)) = (3 : Int32) then ((fd_57 M).bind fun q34 => (fd_133 q34.2).bind fun q36 => if q34.1 = q36.1 then (fd_0_592 L xs k28 x3 q36.2) else (some ((0 : Int32), q36.2))) else if ((xs x3.toNatClampNeg) &&& (31 : Int32)) = (4 : Int32) then (if (x3 + (1 : Int32)) < 0 ∨ L ≤ (x3 + (1 : Int32)).toNatClampNeg then none else (fd_59 (xs (x3 + (1 : Int32)).toNatClampNeg) M).bind fun q41 => if (x3 + (1 : Int32)) < 0 ∨ L ≤ (x3 + (1 : Int32)).toNatClampNeg then none else (fd_153 (xs (x3 + (1 : Int32)).toNatClampNeg) q41.2).bind fun q44 => if q41.1 = q44.1 then (fd_0_592 L xs k28 x3 q44.2) else (some ((0 : Int32), q44.2))) else if ((xs x3.toNatClampNeg) &&& (31 : Int32)) = (5 : Int32) then (if (x3 + (1 : Int32)) < 0 ∨ L ≤ (x3 + (1 : Int32)).toNatClampNeg then none else if (x3 + (2 : Int32)) < 0 ∨ L ≤ (x3 + (2 : Int32)).toNatClampNeg then none else (fd_62 (xs (x3 + (1 : Int32)).toNatClampNeg) (xs (x3 + (2 : Int32)).toNatClampNeg) M).bind fun q50 => if (x3 + (1 : Int32)) < 0 ∨ L ≤ (x3 + (1 : Int32)).toNatClampNeg then none else if (x3 + (2 : Int32)) < 0 ∨ L ≤ (x3 + (2 : Int32)).toNatClampNeg then none else (fd_154 (xs (x3 + (1 : Int32)).toNatClampNeg) (xs (x3 + (2 : Int32)).toNatClampNeg) q50.2).bind fun q54 => if q50.1 = q54.1 then (fd_0_592 L xs k28 x3 q54.2) else (some ((0 : Int32), q54.2))) else if ((xs x3.toNatClampNeg) &&& (31 : Int32)) = (6 : Int32) then (if (x3 + (1 : Int32)) < 0 ∨ L ≤ (x3 + (1 : Int32)).toNatClampNeg then none else (fd_67 (xs (x3 + (1 : Int32)).toNatClampNeg) M).bind fun q59 => if (x3 + (1 : Int32)) < 0 ∨ L ≤ (x3 + (1 : Int32)).toNatClampNeg then none else (fd_156 (xs (x3 + (1 : Int32)).toNatClampNeg) q59.2).bind fun q62 => if q59.1 = q62.1 then (fd_0_592 L xs k28 x3 q62.2) else (some ((0 : Int32), q62.2))) else if ((xs x3.toNatClampNeg) &&& (31 : Int32)) = (7 : Int32) then (if (x3 + (1 : Int32)) < 0 ∨ L ≤ (x3 + (1 : Int32)).toNatClampNeg then none else (fd_103 (xs (x3 + (1 : Int32)).toNatClampNeg) M).bind fun q67 => if (x3 + (1 : Int32)) < 0 ∨ L ≤ (x3 + (1 : Int32)).toNatClampNeg then none else (fd_168 (xs (x3 + (1 : Int32)).toNatClampNeg) q67.2).bind fun q70 => if q67.1 = q70.1 then (fd_0_592 L xs k28 x3 q70.2) else (some ((0 : Int32), q70.2))) else if ((xs x3.toNatClampNeg) &&& (31 : Int32)) = (8 : Int32) then (if (x3 + (1 : Int32)) < 0 ∨ L ≤ (x3 + (1 : Int32)).toNatClampNeg then none else (fd_110 (xs (x3 + (1 : Int32)).toNatClampNeg) M).bind fun q75 => if (x3 + (1 : Int32)) < 0 ∨ L ≤ (x3 + (1 : Int32)).toNatClampNeg then none else (fd_171 (xs (x3 + (1 : Int32)).toNatClampNeg) q75.2).bind fun q78 => if q75.1 = q78.1 then (fd_0_592 L xs k28 x3 q78.2) else (some ((0 : Int32), q78.2))) else if ((xs x3.toNatClampNeg) &&& (31 : Int32)) = (9 : Int32) then (if (x3 + (1 : Int32)) < 0 ∨ L ≤ (x3 + (1 : Int32)).toNatClampNeg then none else (fd_112 (xs (x3 + (1 : Int32)).toNatClampNeg) M).bind fun q83 => if (x3 + (1 : Int32)) < 0 ∨ L ≤ (x3 + (1 : Int32)).toNatClampNeg then none else (fd_172 (xs (x3 + (1 : Int32)).toNatClampNeg) q83.2).bind fun q86 => if q83.1 = q86.1 then (fd_0_592 L xs k28 x3 q86.2) else (some ((0 : Int32), q86.2))) else if ((xs x3.toNatClampNeg) &&& (31 : Int32)) = (10 : Int32) then (if (x3 + (1 : Int32)) < 0 ∨ L ≤ (x3 + (1 : Int32)).toNatClampNeg then none else (fd_113 (xs (x3 + (1 : Int32)).toNatClampNeg) M).bind fun q91 => if (x3 + (1 : Int32)) < 0 ∨ L ≤ (x3 + (1 : Int32)).toNatClampNeg then none else (fd_174 (xs (x3 + (1 : Int32)).toNatClampNeg) q91.2).bind fun q94 => if q91.1 = q94.1 then (fd_0_592 L xs k28 x3 q94.2) else (some ((0 : Int32), q94.2))) else if ((xs x3.toNatClampNeg) &&& (31 : Int32)) = (11 : Int32) then (if (x3 + (1 : Int32)) < 0 ∨ L ≤ (x3 + (1 : Int32)).toNatClampNeg then none else if (x3 + (2 : Int32)) < 0 ∨ L ≤ (x3 + (2 : Int32)).toNatClampNeg then none else (fd_114 (xs (x3 + (1 : Int32)).toNatClampNeg) (xs (x3 + (2 : Int32)).toNatClampNeg) M).bind fun q100 => if (x3 + (1 : Int32)) < 0 ∨ L ≤ (x3 + (1 : Int32)).toNatClampNeg then none else if (x3 + (2 : Int32)) < 0 ∨ L ≤ (x3 + (2 : Int32)).toNatClampNeg then none else (fd_175 (xs (x3 + (1 : Int32)).toNatClampNeg) (xs (x3 + (2 : Int32)).toNatClampNeg) q100.2).bind fun q104 => if q100.1 = q104.1 then (fd_0_592 L xs k28 x3 q104.2) else (some ((0 : Int32), q104.2))) else if ((xs x3.toNatClampNeg) &&& (31 : Int32)) = (12 : Int32) then (if (x3 + (1 : Int32)) < 0 ∨ L ≤ (x3 + (1 : Int32)).toNatClampNeg then none else if (x3 + (2 : Int32)) < 0 ∨ L ≤ (x3 + (2 : Int32)).toNatClampNeg then none else (fd_115 (xs (x3 + (1 : Int32)).toNatClampNeg) (xs (x3 + (2 : Int32)).toNatClampNeg) M).bind fun q110 => if (x3 + (1 : Int32)) < 0 ∨ L ≤ (x3 + (1 : Int32)).toNatClampNeg then none else if (x3 + (2 : Int32)) < 0 ∨ L ≤ (x3 + (2 : Int32)).toNatClampNeg then none else (fd_176 (xs (x3 + (1 : Int32)).toNatClampNeg) (xs (x3 + (2 : Int32)).toNatClampNeg) q110.2).bind fun q114 => if q110.1 = q114.1 then (fd_0_592 L xs k28 x3 q114.2) else (some ((0 : Int32), q114.2))) else if ((xs x3.toNatClampNeg) &&& (31 : Int32)) = (13 : Int32) then (if (x3 + (1 : Int32)) < 0 ∨ L ≤ (x3 + (1 : Int32)).toNatClampNeg then none else if (x3 + (2 : Int32)) < 0 ∨ L ≤ (x3 + (2 : Int32)).toNatClampNeg then none else (fd_116 (xs (x3 + (1 : Int32)).toNatClampNeg) (xs (x3 + (2 : Int32)).toNatClampNeg) M).bind fun q120 => if (x3 + (1 : Int32)) < 0 ∨ L ≤ (x3 + (1 : Int32)).toNatClampNeg then none else if (x3 + (2 : Int32)) < 0 ∨ L ≤ (x3 + (2 : Int32)).toNatClampNeg then none else (fd_177 (xs (x3 + (1 : Int32)).toNatClampNeg) (xs (x3 + (2 : Int32)).toNatClampNeg) q120.2).bind fun q124 => if q120.1 = q124.1 then (fd_0_592 L xs k28 x3 q124.2) else (some ((0 : Int32), q124.2))) else if ((xs x3.toNatClampNeg) &&& (31 : Int32)) = (14 : Int32) then (if (x3 + (1 : Int32)) < 0 ∨ L ≤ (x3 + (1 : Int32)).toNatClampNeg then none else if (x3 + (2 : Int32)) < 0 ∨ L ≤ (x3 + (2 : Int32)).toNatClampNeg then none else (fd_117 (xs (x3 + (1 : Int32)).toNatClampNeg) (xs (x3 + (2 : Int32)).toNatClampNeg) M).bind fun q130 => if (x3 + (1 : Int32)) < 0 ∨ L ≤ (x3 + (1 : Int32)).toNatClampNeg then none else if (x3 + (2 : Int32)) < 0 ∨ L ≤ (x3 + (2 : Int32)).toNatClampNeg then none else (fd_178 (xs (x3 + (1 : Int32)).toNatClampNeg) (xs (x3 + (2 : Int32)).toNatClampNeg) q130.2).bind fun q134 => if q130.1 = q134.1 then (fd_0_592 L xs k28 x3 q134.2) else (some ((0 : Int32), q134.2))) else if ((xs x3.toNatClampNeg) &&& (31 : Int32)) = (15 : Int32) then (if (x3 + (1 : Int32)) < 0 ∨ L ≤ (x3 + (1 : Int32)).toNatClampNeg then none else (fd_123 (xs (x3 + (1 : Int32)).toNatClampNeg) M).bind fun q139 => if (x3 + (1 : Int32)) < 0 ∨ L ≤ (x3 + (1 : Int32)).toNatClampNeg then none else (fd_180 (xs (x3 + (1 : Int32)).toNatClampNeg) q139.2).bind fun q142 => if q139.1 = q142.1 then (fd_0_592 L xs k28 x3 q142.2) else (some ((0 : Int32), q142.2))) else if ((xs x3.toNatClampNeg) &&& (31 : Int32)) = (16 : Int32) then ((fd_126 M).bind fun q146 => (fd_181 q146.2).bind fun q148 => if q146.1 = q148.1 then (fd_0_592 L xs k28 x3 q148.2) else (some ((0 : Int32), q148.2))) else if ((xs x3.toNatClampNeg) &&& (31 : Int32)) = (17 : Int32) then ((fd_127 M).bind fun q152 => (fd_182 q152.2).bind fun q154 => if q152.1 = q154.1 then (fd_0_592 L xs k28 x3 q154.2) else (some ((0 : Int32), q154.2))) else (fd_0_592 L xs k28 x3 M))) f
set_option maxRecDepth 50000 in
set_option maxHeartbeats 4000000 in
theorem te_0_28 {L : Nat} {xs : Nat → Int32} : ∀ (f : Nat) (x3 : Int32) (M : am_M) (q : Int32 × am_M), fd_0_28 L xs f x3 M = some q → am_ev (tb_P L xs) 0 28 [some (.ref 1048582), some (.ref 0), some (.ref 96), some (.int x3)] [] sh_A M (some (.int q.1), sh_A, q.2) := by
  intro f
  induction f with
  | zero => intro x3 M q h; cases h
  | succ f hk28 =>
    intro x3 M q h
    change (if ((Int32.ofNat L) - (6 : Int32)) < x3 then (some ((1 : Int32), M)) else (if x3 < 0 ∨ L ≤ x3.toNatClampNeg then none else if ((xs x3.toNatClampNeg) &&& (31 : Int32)) = (0 : Int32) then (if (x3 + (1 : Int32)) < 0 ∨ L ≤ (x3 + (1 : Int32)).toNatClampNeg then none else (fd_12 (xs (x3 + (1 : Int32)).toNatClampNeg) M).bind fun q5 => if (x3 + (1 : Int32)) < 0 ∨ L ≤ (x3 + (1 : Int32)).toNatClampNeg then none else (fd_131 (xs (x3 + (1 : Int32)).toNatClampNeg) q5.2).bind fun q8 => if q5.1 = q8.1 then (fd_0_592 L xs (fd_0_28 L xs f) x3 q8.2) else (some ((0 : Int32), q8.2))) else if ((xs x3.toNatClampNeg) &&& (31 : Int32)) = (1 : Int32) then (if (x3 + (1 : Int32)) < 0 ∨ L ≤ (x3 + (1 : Int32)).toNatClampNeg then none else if (x3 + (2 : Int32)) < 0 ∨ L ≤ (x3 + (2 : Int32)).toNatClampNeg then none else if (x3 + (3 : Int32)) < 0 ∨ L ≤ (x3 + (3 : Int32)).toNatClampNeg then none else if (x3 + (4 : Int32)) < 0 ∨ L ≤ (x3 + (4 : Int32)).toNatClampNeg then none else if (x3 + (5 : Int32)) < 0 ∨ L ≤ (x3 + (5 : Int32)).toNatClampNeg then none else (fd_21 (xs (x3 + (1 : Int32)).toNatClampNeg) (xs (x3 + (2 : Int32)).toNatClampNeg) (xs (x3 + (3 : Int32)).toNatClampNeg) (xs (x3 + (4 : Int32)).toNatClampNeg) (xs (x3 + (5 : Int32)).toNatClampNeg) M).bind fun q17 => if (x3 + (1 : Int32)) < 0 ∨ L ≤ (x3 + (1 : Int32)).toNatClampNeg then none else if (x3 + (2 : Int32)) < 0 ∨ L ≤ (x3 + (2 : Int32)).toNatClampNeg then none else if (x3 + (3 : Int32)) < 0 ∨ L ≤ (x3 + (3 : Int32)).toNatClampNeg then none else if (x3 + (4 : Int32)) < 0 ∨ L ≤ (x3 + (4 : Int32)).toNatClampNeg then none else if (x3 + (5 : Int32)) < 0 ∨ L ≤ (x3 + (5 : Int32)).toNatClampNeg then none else (fd_145 (xs (x3 + (1 : Int32)).toNatClampNeg) (xs (x3 + (2 : Int32)).toNatClampNeg) (xs (x3 + (3 : Int32)).toNatClampNeg) (xs (x3 + (4 : Int32)).toNatClampNeg) (xs (x3 + (5 : Int32)).toNatClampNeg) q17.2).bind fun q24 => if q17.1 = q24.1 then (fd_0_592 L xs (fd_0_28 L xs f) x3 q24.2) else (some ((0 : Int32), q24.2))) else if ((xs x3.toNatClampNeg) &&& (31 : Int32)) = (2 : Int32) then ((fd_54 M).bind fun q28 => (fd_134 q28.2).bind fun q30 => if q28.1 = q30.1 then (fd_0_592 L xs (fd_0_28 L xs f) x3 q30.2) else (some ((0 : Int32), q30.2))) else if ((xs x3.toNatClampNeg) &&& (31 : Int32)) = (3 : Int32) then ((fd_57 M).bind fun q34 => (fd_133 q34.2).bind fun q36 => if q34.1 = q36.1 then (fd_0_592 L xs (fd_0_28 L xs f) x3 q36.2) else (some ((0 : Int32), q36.2))) else if ((xs x3.toNatClampNeg) &&& (31 : Int32)) = (4 : Int32) then (if (x3 + (1 : Int32)) < 0 ∨ L ≤ (x3 + (1 : Int32)).toNatClampNeg then none else (fd_59 (xs (x3 + (1 : Int32)).toNatClampNeg) M).bind fun q41 => if (x3 + (1 : Int32)) < 0 ∨ L ≤ (x3 + (1 : Int32)).toNatClampNeg then none else (fd_153 (xs (x3 + (1 : Int32)).toNatClampNeg) q41.2).bind fun q44 => if q41.1 = q44.1 then (fd_0_592 L xs (fd_0_28 L xs f) x3 q44.2) else (some ((0 : Int32), q44.2))) else if ((xs x3.toNatClampNeg) &&& (31 : Int32)) = (5 : Int32) then (if (x3 + (1 : Int32)) < 0 ∨ L ≤ (x3 + (1 : Int32)).toNatClampNeg then none else if (x3 + (2 : Int32)) < 0 ∨ L ≤ (x3 + (2 : Int32)).toNatClampNeg then none else (fd_62 (xs (x3 + (1 : Int32)).toNatClampNeg) (xs (x3 + (2 : Int32)).toNatClampNeg) M).bind fun q50 => if (x3 + (1 : Int32)) < 0 ∨ L ≤ (x3 + (1 : Int32)).toNatClampNeg then none else if (x3 + (2 : Int32)) < 0 ∨ L ≤ (x3 + (2 : Int32)).toNatClampNeg then none else (fd_154 (xs (x3 + (1 : Int32)).toNatClampNeg) (xs (x3 + (2 : Int32)).toNatClampNeg) q50.2).bind fun q54 => if q50.1 = q54.1 then (fd_0_592 L xs (fd_0_28 L xs f) x3 q54.2) else (some ((0 : Int32), q54.2))) else if ((xs x3.toNatClampNeg) &&& (31 : Int32)) = (6 : Int32) then (if (x3 + (1 : Int32)) < 0 ∨ L ≤ (x3 + (1 : Int32)).toNatClampNeg then none else (fd_67 (xs (x3 + (1 : Int32)).toNatClampNeg) M).bind fun q59 => if (x3 + (1 : Int32)) < 0 ∨ L ≤ (x3 + (1 : Int32)).toNatClampNeg then none else (fd_156 (xs (x3 + (1 : Int32)).toNatClampNeg) q59.2).bind fun q62 => if q59.1 = q62.1 then (fd_0_592 L xs (fd_0_28 L xs f) x3 q62.2) else (some ((0 : Int32), q62.2))) else if ((xs x3.toNatClampNeg) &&& (31 : Int32)) = (7 : Int32) then (if (x3 + (1 : Int32)) < 0 ∨ L ≤ (x3 + (1 : Int32)).toNatClampNeg then none else (fd_103 (xs (x3 + (1 : Int32)).toNatClampNeg) M).bind fun q67 => if (x3 + (1 : Int32)) < 0 ∨ L ≤ (x3 + (1 : Int32)).toNatClampNeg then none else (fd_168 (xs (x3 + (1 : Int32)).toNatClampNeg) q67.2).bind fun q70 => if q67.1 = q70.1 then (fd_0_592 L xs (fd_0_28 L xs f) x3 q70.2) else (some ((0 : Int32), q70.2))) else if ((xs x3.toNatClampNeg) &&& (31 : Int32)) = (8 : Int32) then (if (x3 + (1 : Int32)) < 0 ∨ L ≤ (x3 + (1 : Int32)).toNatClampNeg then none else (fd_110 (xs (x3 + (1 : Int32)).toNatClampNeg) M).bind fun q75 => if (x3 + (1 : Int32)) < 0 ∨ L ≤ (x3 + (1 : Int32)).toNatClampNeg then none else (fd_171 (xs (x3 + (1 : Int32)).toNatClampNeg) q75.2).bind fun q78 => if q75.1 = q78.1 then (fd_0_592 L xs (fd_0_28 L xs f) x3 q78.2) else (some ((0 : Int32), q78.2))) else if ((xs x3.toNatClampNeg) &&& (31 : Int32)) = (9 : Int32) then (if (x3 + (1 : Int32)) < 0 ∨ L ≤ (x3 + (1 : Int32)).toNatClampNeg then none else (fd_112 (xs (x3 + (1 : Int32)).toNatClampNeg) M).bind fun q83 => if (x3 + (1 : Int32)) < 0 ∨ L ≤ (x3 + (1 : Int32)).toNatClampNeg then none else (fd_172 (xs (x3 + (1 : Int32)).toNatClampNeg) q83.2).bind fun q86 => if q83.1 = q86.1 then (fd_0_592 L xs (fd_0_28 L xs f) x3 q86.2) else (some ((0 : Int32), q86.2))) else if ((xs x3.toNatClampNeg) &&& (31 : Int32)) = (10 : Int32) then (if (x3 + (1 : Int32)) < 0 ∨ L ≤ (x3 + (1 : Int32)).toNatClampNeg then none else (fd_113 (xs (x3 + (1 : Int32)).toNatClampNeg) M).bind fun q91 => if (x3 + (1 : Int32)) < 0 ∨ L ≤ (x3 + (1 : Int32)).toNatClampNeg then none else (fd_174 (xs (x3 + (1 : Int32)).toNatClampNeg) q91.2).bind fun q94 => if q91.1 = q94.1 then (fd_0_592 L xs (fd_0_28 L xs f) x3 q94.2) else (some ((0 : Int32), q94.2))) else if ((xs x3.toNatClampNeg) &&& (31 : Int32)) = (11 : Int32) then (if (x3 + (1 : Int32)) < 0 ∨ L ≤ (x3 + (1 : Int32)).toNatClampNeg then none else if (x3 + (2 : Int32)) < 0 ∨ L ≤ (x3 + (2 : Int32)).toNatClampNeg then none else (fd_114 (xs (x3 + (1 : Int32)).toNatClampNeg) (xs (x3 + (2 : Int32)).toNatClampNeg) M).bind fun q100 => if (x3 + (1 : Int32)) < 0 ∨ L ≤ (x3 + (1 : Int32)).toNatClampNeg then none else if (x3 + (2 : Int32)) < 0 ∨ L ≤ (x3 + (2 : Int32)).toNatClampNeg then none else (fd_175 (xs (x3 + (1 : Int32)).toNatClampNeg) (xs (x3 + (2 : Int32)).toNatClampNeg) q100.2).bind fun q104 => if q100.1 = q104.1 then (fd_0_592 L xs (fd_0_28 L xs f) x3 q104.2) else (some ((0 : Int32), q104.2))) else if ((xs x3.toNatClampNeg) &&& (31 : Int32)) = (12 : Int32) then (if (x3 + (1 : Int32)) < 0 ∨ L ≤ (x3 + (1 : Int32)).toNatClampNeg then none else if (x3 + (2 : Int32)) < 0 ∨ L ≤ (x3 + (2 : Int32)).toNatClampNeg then none else (fd_115 (xs (x3 + (1 : Int32)).toNatClampNeg) (xs (x3 + (2 : Int32)).toNatClampNeg) M).bind fun q110 => if (x3 + (1 : Int32)) < 0 ∨ L ≤ (x3 + (1 : Int32)).toNatClampNeg then none else if (x3 + (2 : Int32)) < 0 ∨ L ≤ (x3 + (2 : Int32)).toNatClampNeg then none else (fd_176 (xs (x3 + (1 : Int32)).toNatClampNeg) (xs (x3 + (2 : Int32)).toNatClampNeg) q110.2).bind fun q114 => if q110.1 = q114.1 then (fd_0_592 L xs (fd_0_28 L xs f) x3 q114.2) else (some ((0 : Int32), q114.2))) else if ((xs x3.toNatClampNeg) &&& (31 : Int32)) = (13 : Int32) then (if (x3 + (1 : Int32)) < 0 ∨ L ≤ (x3 + (1 : Int32)).toNatClampNeg then none else if (x3 + (2 : Int32)) < 0 ∨ L ≤ (x3 + (2 : Int32)).toNatClampNeg then none else (fd_116 (xs (x3 + (1 : Int32)).toNatClampNeg) (xs (x3 + (2 : Int32)).toNatClampNeg) M).bind fun q120 => if (x3 + (1 : Int32)) < 0 ∨ L ≤ (x3 + (1 : Int32)).toNatClampNeg then none else if (x3 + (2 : Int32)) < 0 ∨ L ≤ (x3 + (2 : Int32)).toNatClampNeg then none else (fd_177 (xs (x3 + (1 : Int32)).toNatClampNeg) (xs (x3 + (2 : Int32)).toNatClampNeg) q120.2).bind fun q124 => if q120.1 = q124.1 then (fd_0_592 L xs (fd_0_28 L xs f) x3 q124.2) else (some ((0 : Int32), q124.2))) else if ((xs x3.toNatClampNeg) &&& (31 : Int32)) = (14 : Int32) then (if (x3 + (1 : Int32)) < 0 ∨ L ≤ (x3 + (1 : Int32)).toNatClampNeg then none else if (x3 + (2 : Int32)) < 0 ∨ L ≤ (x3 + (2 : Int32)).toNatClampNeg then none else (fd_117 (xs (x3 + (1 : Int32)).toNatClampNeg) (xs (x3 + (2 : Int32)).toNatClampNeg) M).bind fun q130 => if (x3 + (1 : Int32)) < 0 ∨ L ≤ (x3 + (1 : Int32)).toNatClampNeg then none else if (x3 + (2 : Int32)) < 0 ∨ L ≤ (x3 + (2 : Int32)).toNatClampNeg then none else (fd_178 (xs (x3 + (1 : Int32)).toNatClampNeg) (xs (x3 + (2 : Int32)).toNatClampNeg) q130.2).bind fun q134 => if q130.1 = q134.1 then (fd_0_592 L xs (fd_0_28 L xs f) x3 q134.2) else (some ((0 : Int32), q134.2))) else if ((xs x3.toNatClampNeg) &&& (31 : Int32)) = (15 : Int32) then (if (x3 + (1 : Int32)) < 0 ∨ L ≤ (x3 + (1 : Int32)).toNatClampNeg then none else (fd_123 (xs (x3 + (1 : Int32)).toNatClampNeg) M).bind fun q139 => if (x3 + (1 : Int32)) < 0 ∨ L ≤ (x3 + (1 : Int32)).toNatClampNeg then none else (fd_180 (xs (x3 + (1 : Int32)).toNatClampNeg) q139.2).bind fun q142 => if q139.1 = q142.1 then (fd_0_592 L xs (fd_0_28 L xs f) x3 q142.2) else (some ((0 : Int32), q142.2))) else if ((xs x3.toNatClampNeg) &&& (31 : Int32)) = (16 : Int32) then ((fd_126 M).bind fun q146 => (fd_181 q146.2).bind fun q148 => if q146.1 = q148.1 then (fd_0_592 L xs (fd_0_28 L xs f) x3 q148.2) else (some ((0 : Int32), q148.2))) else if ((xs x3.toNatClampNeg) &&& (31 : Int32)) = (17 : Int32) then ((fd_127 M).bind fun q152 => (fd_182 q152.2).bind fun q154 => if q152.1 = q154.1 then (fd_0_592 L xs (fd_0_28 L xs f) x3 q154.2) else (some ((0 : Int32), q154.2))) else (fd_0_592 L xs (fd_0_28 L xs f) x3 M))) = some q at h
    refine am_ev_go (pc' := (am_br .gt x3 ((Int32.ofNat L) - (6 : Int32)) 598 37)) (L' := [some (.ref 1048582), some (.ref 0), some (.ref 96), some (.int x3)]) (st' := []) (sh' := sh_A) (M' := M) 6 rfl ?_
    refine ev_gt (fun hc1 => ?_) (fun hc1 => ?_)
    · rw [if_pos hc1] at h
      refine am_ev_go (pc' := 599) (L' := [some (.ref 1048582), some (.ref 0), some (.ref 96), some (.int x3)]) (st' := [.int (1 : Int32)]) (sh' := sh_A) (M' := M) 1 rfl ?_
      cases h
      exact am_ev_ret rfl
    · rw [if_neg hc1] at h
      refine am_ev_go (pc' := 39) (L' := [some (.ref 1048582), some (.ref 0), some (.ref 96), some (.int x3)]) (st' := [.int x3, .ref 1048582]) (sh' := sh_A) (M' := M) 2 rfl ?_
      by_cases hg2 : x3 < 0 ∨ L ≤ x3.toNatClampNeg
      case pos => rw [if_pos hg2] at h; cases h
      rw [if_neg hg2] at h
      refine ev_sld rfl rfl rfl hg2 ?_
      refine am_ev_go (pc' := 43) (L' := [some (.ref 1048582), some (.ref 0), some (.ref 96), some (.int x3)]) (st' := [.int ((xs x3.toNatClampNeg) &&& (31 : Int32))]) (sh' := sh_A) (M' := M) 2 rfl ?_
      by_cases hc3 : ((xs x3.toNatClampNeg) &&& (31 : Int32)) = (0 : Int32)
      · rw [if_pos hc3] at h
        refine ev_swi hc3 rfl (t := 128) rfl ?_
        refine am_ev_go (pc' := 133) (L' := [some (.ref 1048582), some (.ref 0), some (.ref 96), some (.int x3)]) (st' := [.int (x3 + (1 : Int32)), .ref 1048582, .ref 0]) (sh' := sh_A) (M' := M) 5 rfl ?_
        by_cases hg4 : (x3 + (1 : Int32)) < 0 ∨ L ≤ (x3 + (1 : Int32)).toNatClampNeg
        case pos => rw [if_pos hg4] at h; cases h
        rw [if_neg hg4] at h
        refine ev_sld rfl rfl rfl hg4 ?_
        obtain ⟨q5, hq6, h⟩ := Option.bind_eq_some_iff.mp h
        refine am_ev_call (mj := 12) (as := [.ref 0, .int (xs (x3 + (1 : Int32)).toNatClampNeg)]) (rest := []) (rv := some (.int q5.1)) (sh' := sh_A) (M' := q5.2) rfl (te_12 _ _ _ hq6) ?_
        show am_ev _ 0 137 [some (.ref 1048582), some (.ref 0), some (.ref 96), some (.int x3)] [.int q5.1] sh_A q5.2 _
        refine am_ev_go (pc' := 142) (L' := [some (.ref 1048582), some (.ref 0), some (.ref 96), some (.int x3)]) (st' := [.int (x3 + (1 : Int32)), .ref 1048582, .ref 96, .int q5.1]) (sh' := sh_A) (M' := q5.2) 5 rfl ?_
        by_cases hg7 : (x3 + (1 : Int32)) < 0 ∨ L ≤ (x3 + (1 : Int32)).toNatClampNeg
        case pos => rw [if_pos hg7] at h; cases h
        rw [if_neg hg7] at h
        refine ev_sld rfl rfl rfl hg7 ?_
        obtain ⟨q8, hq9, h⟩ := Option.bind_eq_some_iff.mp h
        refine am_ev_call (mj := 131) (as := [.ref 96, .int (xs (x3 + (1 : Int32)).toNatClampNeg)]) (rest := [.int q5.1]) (rv := some (.int q8.1)) (sh' := sh_A) (M' := q8.2) rfl (te_131 _ _ _ hq9) ?_
        show am_ev _ 0 146 [some (.ref 1048582), some (.ref 0), some (.ref 96), some (.int x3)] [.int q8.1, .int q5.1] sh_A q8.2 _
        refine am_ev_go (pc' := (am_br .eq q5.1 q8.1 592 149)) (L' := [some (.ref 1048582), some (.ref 0), some (.ref 96), some (.int x3)]) (st' := []) (sh' := sh_A) (M' := q8.2) 1 rfl ?_
        refine ev_eq (fun hc10 => ?_) (fun hc10 => ?_)
        · rw [if_pos hc10] at h
          exact te_0_592 hk28 _ _ _ h
        · rw [if_neg hc10] at h
          refine am_ev_go (pc' := 150) (L' := [some (.ref 1048582), some (.ref 0), some (.ref 96), some (.int x3)]) (st' := [.int (0 : Int32)]) (sh' := sh_A) (M' := q8.2) 1 rfl ?_
          cases h
          exact am_ev_ret rfl
      rw [if_neg hc3] at h
      by_cases hc11 : ((xs x3.toNatClampNeg) &&& (31 : Int32)) = (1 : Int32)
      · rw [if_pos hc11] at h
        refine ev_swi hc11 rfl (t := 151) rfl ?_
        refine am_ev_go (pc' := 156) (L' := [some (.ref 1048582), some (.ref 0), some (.ref 96), some (.int x3)]) (st' := [.int (x3 + (1 : Int32)), .ref 1048582, .ref 0]) (sh' := sh_A) (M' := M) 5 rfl ?_
        by_cases hg12 : (x3 + (1 : Int32)) < 0 ∨ L ≤ (x3 + (1 : Int32)).toNatClampNeg
        case pos => rw [if_pos hg12] at h; cases h
        rw [if_neg hg12] at h
        refine ev_sld rfl rfl rfl hg12 ?_
        refine am_ev_go (pc' := 161) (L' := [some (.ref 1048582), some (.ref 0), some (.ref 96), some (.int x3)]) (st' := [.int (x3 + (2 : Int32)), .ref 1048582, .int (xs (x3 + (1 : Int32)).toNatClampNeg), .ref 0]) (sh' := sh_A) (M' := M) 4 rfl ?_
        by_cases hg13 : (x3 + (2 : Int32)) < 0 ∨ L ≤ (x3 + (2 : Int32)).toNatClampNeg
        case pos => rw [if_pos hg13] at h; cases h
        rw [if_neg hg13] at h
        refine ev_sld rfl rfl rfl hg13 ?_
        refine am_ev_go (pc' := 166) (L' := [some (.ref 1048582), some (.ref 0), some (.ref 96), some (.int x3)]) (st' := [.int (x3 + (3 : Int32)), .ref 1048582, .int (xs (x3 + (2 : Int32)).toNatClampNeg), .int (xs (x3 + (1 : Int32)).toNatClampNeg), .ref 0]) (sh' := sh_A) (M' := M) 4 rfl ?_
        by_cases hg14 : (x3 + (3 : Int32)) < 0 ∨ L ≤ (x3 + (3 : Int32)).toNatClampNeg
        case pos => rw [if_pos hg14] at h; cases h
        rw [if_neg hg14] at h
        refine ev_sld rfl rfl rfl hg14 ?_
        refine am_ev_go (pc' := 171) (L' := [some (.ref 1048582), some (.ref 0), some (.ref 96), some (.int x3)]) (st' := [.int (x3 + (4 : Int32)), .ref 1048582, .int (xs (x3 + (3 : Int32)).toNatClampNeg), .int (xs (x3 + (2 : Int32)).toNatClampNeg), .int (xs (x3 + (1 : Int32)).toNatClampNeg), .ref 0]) (sh' := sh_A) (M' := M) 4 rfl ?_
        by_cases hg15 : (x3 + (4 : Int32)) < 0 ∨ L ≤ (x3 + (4 : Int32)).toNatClampNeg
        case pos => rw [if_pos hg15] at h; cases h
        rw [if_neg hg15] at h
        refine ev_sld rfl rfl rfl hg15 ?_
        refine am_ev_go (pc' := 176) (L' := [some (.ref 1048582), some (.ref 0), some (.ref 96), some (.int x3)]) (st' := [.int (x3 + (5 : Int32)), .ref 1048582, .int (xs (x3 + (4 : Int32)).toNatClampNeg), .int (xs (x3 + (3 : Int32)).toNatClampNeg), .int (xs (x3 + (2 : Int32)).toNatClampNeg), .int (xs (x3 + (1 : Int32)).toNatClampNeg), .ref 0]) (sh' := sh_A) (M' := M) 4 rfl ?_
        by_cases hg16 : (x3 + (5 : Int32)) < 0 ∨ L ≤ (x3 + (5 : Int32)).toNatClampNeg
        case pos => rw [if_pos hg16] at h; cases h
        rw [if_neg hg16] at h
        refine ev_sld rfl rfl rfl hg16 ?_
        obtain ⟨q17, hq18, h⟩ := Option.bind_eq_some_iff.mp h
        refine am_ev_call (mj := 21) (as := [.ref 0, .int (xs (x3 + (1 : Int32)).toNatClampNeg), .int (xs (x3 + (2 : Int32)).toNatClampNeg), .int (xs (x3 + (3 : Int32)).toNatClampNeg), .int (xs (x3 + (4 : Int32)).toNatClampNeg), .int (xs (x3 + (5 : Int32)).toNatClampNeg)]) (rest := []) (rv := some (.int q17.1)) (sh' := sh_A) (M' := q17.2) rfl (te_21 _ _ _ _ _ _ _ hq18) ?_
        show am_ev _ 0 180 [some (.ref 1048582), some (.ref 0), some (.ref 96), some (.int x3)] [.int q17.1] sh_A q17.2 _
        refine am_ev_go (pc' := 185) (L' := [some (.ref 1048582), some (.ref 0), some (.ref 96), some (.int x3)]) (st' := [.int (x3 + (1 : Int32)), .ref 1048582, .ref 96, .int q17.1]) (sh' := sh_A) (M' := q17.2) 5 rfl ?_
        by_cases hg19 : (x3 + (1 : Int32)) < 0 ∨ L ≤ (x3 + (1 : Int32)).toNatClampNeg
        case pos => rw [if_pos hg19] at h; cases h
        rw [if_neg hg19] at h
        refine ev_sld rfl rfl rfl hg19 ?_
        refine am_ev_go (pc' := 190) (L' := [some (.ref 1048582), some (.ref 0), some (.ref 96), some (.int x3)]) (st' := [.int (x3 + (2 : Int32)), .ref 1048582, .int (xs (x3 + (1 : Int32)).toNatClampNeg), .ref 96, .int q17.1]) (sh' := sh_A) (M' := q17.2) 4 rfl ?_
        by_cases hg20 : (x3 + (2 : Int32)) < 0 ∨ L ≤ (x3 + (2 : Int32)).toNatClampNeg
        case pos => rw [if_pos hg20] at h; cases h
        rw [if_neg hg20] at h
        refine ev_sld rfl rfl rfl hg20 ?_
        refine am_ev_go (pc' := 195) (L' := [some (.ref 1048582), some (.ref 0), some (.ref 96), some (.int x3)]) (st' := [.int (x3 + (3 : Int32)), .ref 1048582, .int (xs (x3 + (2 : Int32)).toNatClampNeg), .int (xs (x3 + (1 : Int32)).toNatClampNeg), .ref 96, .int q17.1]) (sh' := sh_A) (M' := q17.2) 4 rfl ?_
        by_cases hg21 : (x3 + (3 : Int32)) < 0 ∨ L ≤ (x3 + (3 : Int32)).toNatClampNeg
        case pos => rw [if_pos hg21] at h; cases h
        rw [if_neg hg21] at h
        refine ev_sld rfl rfl rfl hg21 ?_
        refine am_ev_go (pc' := 200) (L' := [some (.ref 1048582), some (.ref 0), some (.ref 96), some (.int x3)]) (st' := [.int (x3 + (4 : Int32)), .ref 1048582, .int (xs (x3 + (3 : Int32)).toNatClampNeg), .int (xs (x3 + (2 : Int32)).toNatClampNeg), .int (xs (x3 + (1 : Int32)).toNatClampNeg), .ref 96, .int q17.1]) (sh' := sh_A) (M' := q17.2) 4 rfl ?_
        by_cases hg22 : (x3 + (4 : Int32)) < 0 ∨ L ≤ (x3 + (4 : Int32)).toNatClampNeg
        case pos => rw [if_pos hg22] at h; cases h
        rw [if_neg hg22] at h
        refine ev_sld rfl rfl rfl hg22 ?_
        refine am_ev_go (pc' := 205) (L' := [some (.ref 1048582), some (.ref 0), some (.ref 96), some (.int x3)]) (st' := [.int (x3 + (5 : Int32)), .ref 1048582, .int (xs (x3 + (4 : Int32)).toNatClampNeg), .int (xs (x3 + (3 : Int32)).toNatClampNeg), .int (xs (x3 + (2 : Int32)).toNatClampNeg), .int (xs (x3 + (1 : Int32)).toNatClampNeg), .ref 96, .int q17.1]) (sh' := sh_A) (M' := q17.2) 4 rfl ?_
        by_cases hg23 : (x3 + (5 : Int32)) < 0 ∨ L ≤ (x3 + (5 : Int32)).toNatClampNeg
        case pos => rw [if_pos hg23] at h; cases h
        rw [if_neg hg23] at h
        refine ev_sld rfl rfl rfl hg23 ?_
        obtain ⟨q24, hq25, h⟩ := Option.bind_eq_some_iff.mp h
        refine am_ev_call (mj := 145) (as := [.ref 96, .int (xs (x3 + (1 : Int32)).toNatClampNeg), .int (xs (x3 + (2 : Int32)).toNatClampNeg), .int (xs (x3 + (3 : Int32)).toNatClampNeg), .int (xs (x3 + (4 : Int32)).toNatClampNeg), .int (xs (x3 + (5 : Int32)).toNatClampNeg)]) (rest := [.int q17.1]) (rv := some (.int q24.1)) (sh' := sh_A) (M' := q24.2) rfl (te_145 _ _ _ _ _ _ _ hq25) ?_
        show am_ev _ 0 209 [some (.ref 1048582), some (.ref 0), some (.ref 96), some (.int x3)] [.int q24.1, .int q17.1] sh_A q24.2 _
        refine am_ev_go (pc' := (am_br .eq q17.1 q24.1 592 212)) (L' := [some (.ref 1048582), some (.ref 0), some (.ref 96), some (.int x3)]) (st' := []) (sh' := sh_A) (M' := q24.2) 1 rfl ?_
        refine ev_eq (fun hc26 => ?_) (fun hc26 => ?_)
        · rw [if_pos hc26] at h
          exact te_0_592 hk28 _ _ _ h
        · rw [if_neg hc26] at h
          refine am_ev_go (pc' := 213) (L' := [some (.ref 1048582), some (.ref 0), some (.ref 96), some (.int x3)]) (st' := [.int (0 : Int32)]) (sh' := sh_A) (M' := q24.2) 1 rfl ?_
          cases h
          exact am_ev_ret rfl
      rw [if_neg hc11] at h
      by_cases hc27 : ((xs x3.toNatClampNeg) &&& (31 : Int32)) = (2 : Int32)
      · rw [if_pos hc27] at h
        refine ev_swi hc27 rfl (t := 214) rfl ?_
        refine am_ev_go (pc' := 215) (L' := [some (.ref 1048582), some (.ref 0), some (.ref 96), some (.int x3)]) (st' := [.ref 0]) (sh' := sh_A) (M' := M) 1 rfl ?_
        obtain ⟨q28, hq29, h⟩ := Option.bind_eq_some_iff.mp h
        refine am_ev_call (mj := 54) (as := [.ref 0]) (rest := []) (rv := some (.int q28.1)) (sh' := sh_A) (M' := q28.2) rfl (te_54 _ _ hq29) ?_
        show am_ev _ 0 218 [some (.ref 1048582), some (.ref 0), some (.ref 96), some (.int x3)] [.int q28.1] sh_A q28.2 _
        refine am_ev_go (pc' := 219) (L' := [some (.ref 1048582), some (.ref 0), some (.ref 96), some (.int x3)]) (st' := [.ref 96, .int q28.1]) (sh' := sh_A) (M' := q28.2) 1 rfl ?_
        obtain ⟨q30, hq31, h⟩ := Option.bind_eq_some_iff.mp h
        refine am_ev_call (mj := 134) (as := [.ref 96]) (rest := [.int q28.1]) (rv := some (.int q30.1)) (sh' := sh_A) (M' := q30.2) rfl (te_134 _ _ hq31) ?_
        show am_ev _ 0 222 [some (.ref 1048582), some (.ref 0), some (.ref 96), some (.int x3)] [.int q30.1, .int q28.1] sh_A q30.2 _
        refine am_ev_go (pc' := (am_br .eq q28.1 q30.1 592 225)) (L' := [some (.ref 1048582), some (.ref 0), some (.ref 96), some (.int x3)]) (st' := []) (sh' := sh_A) (M' := q30.2) 1 rfl ?_
        refine ev_eq (fun hc32 => ?_) (fun hc32 => ?_)
        · rw [if_pos hc32] at h
          exact te_0_592 hk28 _ _ _ h
        · rw [if_neg hc32] at h
          refine am_ev_go (pc' := 226) (L' := [some (.ref 1048582), some (.ref 0), some (.ref 96), some (.int x3)]) (st' := [.int (0 : Int32)]) (sh' := sh_A) (M' := q30.2) 1 rfl ?_
          cases h
          exact am_ev_ret rfl
      rw [if_neg hc27] at h
      by_cases hc33 : ((xs x3.toNatClampNeg) &&& (31 : Int32)) = (3 : Int32)
      · rw [if_pos hc33] at h
        refine ev_swi hc33 rfl (t := 227) rfl ?_
        refine am_ev_go (pc' := 228) (L' := [some (.ref 1048582), some (.ref 0), some (.ref 96), some (.int x3)]) (st' := [.ref 0]) (sh' := sh_A) (M' := M) 1 rfl ?_
        obtain ⟨q34, hq35, h⟩ := Option.bind_eq_some_iff.mp h
        refine am_ev_call (mj := 57) (as := [.ref 0]) (rest := []) (rv := some (.int q34.1)) (sh' := sh_A) (M' := q34.2) rfl (te_57 _ _ hq35) ?_
        show am_ev _ 0 231 [some (.ref 1048582), some (.ref 0), some (.ref 96), some (.int x3)] [.int q34.1] sh_A q34.2 _
        refine am_ev_go (pc' := 232) (L' := [some (.ref 1048582), some (.ref 0), some (.ref 96), some (.int x3)]) (st' := [.ref 96, .int q34.1]) (sh' := sh_A) (M' := q34.2) 1 rfl ?_
        obtain ⟨q36, hq37, h⟩ := Option.bind_eq_some_iff.mp h
        refine am_ev_call (mj := 133) (as := [.ref 96]) (rest := [.int q34.1]) (rv := some (.int q36.1)) (sh' := sh_A) (M' := q36.2) rfl (te_133 _ _ hq37) ?_
        show am_ev _ 0 235 [some (.ref 1048582), some (.ref 0), some (.ref 96), some (.int x3)] [.int q36.1, .int q34.1] sh_A q36.2 _
        refine am_ev_go (pc' := (am_br .eq q34.1 q36.1 592 238)) (L' := [some (.ref 1048582), some (.ref 0), some (.ref 96), some (.int x3)]) (st' := []) (sh' := sh_A) (M' := q36.2) 1 rfl ?_
        refine ev_eq (fun hc38 => ?_) (fun hc38 => ?_)
        · rw [if_pos hc38] at h
          exact te_0_592 hk28 _ _ _ h
        · rw [if_neg hc38] at h
          refine am_ev_go (pc' := 239) (L' := [some (.ref 1048582), some (.ref 0), some (.ref 96), some (.int x3)]) (st' := [.int (0 : Int32)]) (sh' := sh_A) (M' := q36.2) 1 rfl ?_
          cases h
          exact am_ev_ret rfl
      rw [if_neg hc33] at h
      by_cases hc39 : ((xs x3.toNatClampNeg) &&& (31 : Int32)) = (4 : Int32)
      · rw [if_pos hc39] at h
        refine ev_swi hc39 rfl (t := 240) rfl ?_
        refine am_ev_go (pc' := 245) (L' := [some (.ref 1048582), some (.ref 0), some (.ref 96), some (.int x3)]) (st' := [.int (x3 + (1 : Int32)), .ref 1048582, .ref 0]) (sh' := sh_A) (M' := M) 5 rfl ?_
        by_cases hg40 : (x3 + (1 : Int32)) < 0 ∨ L ≤ (x3 + (1 : Int32)).toNatClampNeg
        case pos => rw [if_pos hg40] at h; cases h
        rw [if_neg hg40] at h
        refine ev_sld rfl rfl rfl hg40 ?_
        obtain ⟨q41, hq42, h⟩ := Option.bind_eq_some_iff.mp h
        refine am_ev_call (mj := 59) (as := [.ref 0, .int (xs (x3 + (1 : Int32)).toNatClampNeg)]) (rest := []) (rv := some (.int q41.1)) (sh' := sh_A) (M' := q41.2) rfl (te_59 _ _ _ hq42) ?_
        show am_ev _ 0 249 [some (.ref 1048582), some (.ref 0), some (.ref 96), some (.int x3)] [.int q41.1] sh_A q41.2 _
        refine am_ev_go (pc' := 254) (L' := [some (.ref 1048582), some (.ref 0), some (.ref 96), some (.int x3)]) (st' := [.int (x3 + (1 : Int32)), .ref 1048582, .ref 96, .int q41.1]) (sh' := sh_A) (M' := q41.2) 5 rfl ?_
        by_cases hg43 : (x3 + (1 : Int32)) < 0 ∨ L ≤ (x3 + (1 : Int32)).toNatClampNeg
        case pos => rw [if_pos hg43] at h; cases h
        rw [if_neg hg43] at h
        refine ev_sld rfl rfl rfl hg43 ?_
        obtain ⟨q44, hq45, h⟩ := Option.bind_eq_some_iff.mp h
        refine am_ev_call (mj := 153) (as := [.ref 96, .int (xs (x3 + (1 : Int32)).toNatClampNeg)]) (rest := [.int q41.1]) (rv := some (.int q44.1)) (sh' := sh_A) (M' := q44.2) rfl (te_153 _ _ _ hq45) ?_
        show am_ev _ 0 258 [some (.ref 1048582), some (.ref 0), some (.ref 96), some (.int x3)] [.int q44.1, .int q41.1] sh_A q44.2 _
        refine am_ev_go (pc' := (am_br .eq q41.1 q44.1 592 261)) (L' := [some (.ref 1048582), some (.ref 0), some (.ref 96), some (.int x3)]) (st' := []) (sh' := sh_A) (M' := q44.2) 1 rfl ?_
        refine ev_eq (fun hc46 => ?_) (fun hc46 => ?_)
        · rw [if_pos hc46] at h
          exact te_0_592 hk28 _ _ _ h
        · rw [if_neg hc46] at h
          refine am_ev_go (pc' := 262) (L' := [some (.ref 1048582), some (.ref 0), some (.ref 96), some (.int x3)]) (st' := [.int (0 : Int32)]) (sh' := sh_A) (M' := q44.2) 1 rfl ?_
          cases h
          exact am_ev_ret rfl
      rw [if_neg hc39] at h
      by_cases hc47 : ((xs x3.toNatClampNeg) &&& (31 : Int32)) = (5 : Int32)
      · rw [if_pos hc47] at h
        refine ev_swi hc47 rfl (t := 263) rfl ?_
        refine am_ev_go (pc' := 268) (L' := [some (.ref 1048582), some (.ref 0), some (.ref 96), some (.int x3)]) (st' := [.int (x3 + (1 : Int32)), .ref 1048582, .ref 0]) (sh' := sh_A) (M' := M) 5 rfl ?_
        by_cases hg48 : (x3 + (1 : Int32)) < 0 ∨ L ≤ (x3 + (1 : Int32)).toNatClampNeg
        case pos => rw [if_pos hg48] at h; cases h
        rw [if_neg hg48] at h
        refine ev_sld rfl rfl rfl hg48 ?_
        refine am_ev_go (pc' := 273) (L' := [some (.ref 1048582), some (.ref 0), some (.ref 96), some (.int x3)]) (st' := [.int (x3 + (2 : Int32)), .ref 1048582, .int (xs (x3 + (1 : Int32)).toNatClampNeg), .ref 0]) (sh' := sh_A) (M' := M) 4 rfl ?_
        by_cases hg49 : (x3 + (2 : Int32)) < 0 ∨ L ≤ (x3 + (2 : Int32)).toNatClampNeg
        case pos => rw [if_pos hg49] at h; cases h
        rw [if_neg hg49] at h
        refine ev_sld rfl rfl rfl hg49 ?_
        obtain ⟨q50, hq51, h⟩ := Option.bind_eq_some_iff.mp h
        refine am_ev_call (mj := 62) (as := [.ref 0, .int (xs (x3 + (1 : Int32)).toNatClampNeg), .int (xs (x3 + (2 : Int32)).toNatClampNeg)]) (rest := []) (rv := some (.int q50.1)) (sh' := sh_A) (M' := q50.2) rfl (te_62 _ _ _ _ hq51) ?_
        show am_ev _ 0 277 [some (.ref 1048582), some (.ref 0), some (.ref 96), some (.int x3)] [.int q50.1] sh_A q50.2 _
        refine am_ev_go (pc' := 282) (L' := [some (.ref 1048582), some (.ref 0), some (.ref 96), some (.int x3)]) (st' := [.int (x3 + (1 : Int32)), .ref 1048582, .ref 96, .int q50.1]) (sh' := sh_A) (M' := q50.2) 5 rfl ?_
        by_cases hg52 : (x3 + (1 : Int32)) < 0 ∨ L ≤ (x3 + (1 : Int32)).toNatClampNeg
        case pos => rw [if_pos hg52] at h; cases h
        rw [if_neg hg52] at h
        refine ev_sld rfl rfl rfl hg52 ?_
        refine am_ev_go (pc' := 287) (L' := [some (.ref 1048582), some (.ref 0), some (.ref 96), some (.int x3)]) (st' := [.int (x3 + (2 : Int32)), .ref 1048582, .int (xs (x3 + (1 : Int32)).toNatClampNeg), .ref 96, .int q50.1]) (sh' := sh_A) (M' := q50.2) 4 rfl ?_
        by_cases hg53 : (x3 + (2 : Int32)) < 0 ∨ L ≤ (x3 + (2 : Int32)).toNatClampNeg
        case pos => rw [if_pos hg53] at h; cases h
        rw [if_neg hg53] at h
        refine ev_sld rfl rfl rfl hg53 ?_
        obtain ⟨q54, hq55, h⟩ := Option.bind_eq_some_iff.mp h
        refine am_ev_call (mj := 154) (as := [.ref 96, .int (xs (x3 + (1 : Int32)).toNatClampNeg), .int (xs (x3 + (2 : Int32)).toNatClampNeg)]) (rest := [.int q50.1]) (rv := some (.int q54.1)) (sh' := sh_A) (M' := q54.2) rfl (te_154 _ _ _ _ hq55) ?_
        show am_ev _ 0 291 [some (.ref 1048582), some (.ref 0), some (.ref 96), some (.int x3)] [.int q54.1, .int q50.1] sh_A q54.2 _
        refine am_ev_go (pc' := (am_br .eq q50.1 q54.1 592 294)) (L' := [some (.ref 1048582), some (.ref 0), some (.ref 96), some (.int x3)]) (st' := []) (sh' := sh_A) (M' := q54.2) 1 rfl ?_
        refine ev_eq (fun hc56 => ?_) (fun hc56 => ?_)
        · rw [if_pos hc56] at h
          exact te_0_592 hk28 _ _ _ h
        · rw [if_neg hc56] at h
          refine am_ev_go (pc' := 295) (L' := [some (.ref 1048582), some (.ref 0), some (.ref 96), some (.int x3)]) (st' := [.int (0 : Int32)]) (sh' := sh_A) (M' := q54.2) 1 rfl ?_
          cases h
          exact am_ev_ret rfl
      rw [if_neg hc47] at h
      by_cases hc57 : ((xs x3.toNatClampNeg) &&& (31 : Int32)) = (6 : Int32)
      · rw [if_pos hc57] at h
        refine ev_swi hc57 rfl (t := 296) rfl ?_
        refine am_ev_go (pc' := 301) (L' := [some (.ref 1048582), some (.ref 0), some (.ref 96), some (.int x3)]) (st' := [.int (x3 + (1 : Int32)), .ref 1048582, .ref 0]) (sh' := sh_A) (M' := M) 5 rfl ?_
        by_cases hg58 : (x3 + (1 : Int32)) < 0 ∨ L ≤ (x3 + (1 : Int32)).toNatClampNeg
        case pos => rw [if_pos hg58] at h; cases h
        rw [if_neg hg58] at h
        refine ev_sld rfl rfl rfl hg58 ?_
        obtain ⟨q59, hq60, h⟩ := Option.bind_eq_some_iff.mp h
        refine am_ev_call (mj := 67) (as := [.ref 0, .int (xs (x3 + (1 : Int32)).toNatClampNeg)]) (rest := []) (rv := some (.int q59.1)) (sh' := sh_A) (M' := q59.2) rfl (te_67 _ _ _ hq60) ?_
        show am_ev _ 0 305 [some (.ref 1048582), some (.ref 0), some (.ref 96), some (.int x3)] [.int q59.1] sh_A q59.2 _
        refine am_ev_go (pc' := 310) (L' := [some (.ref 1048582), some (.ref 0), some (.ref 96), some (.int x3)]) (st' := [.int (x3 + (1 : Int32)), .ref 1048582, .ref 96, .int q59.1]) (sh' := sh_A) (M' := q59.2) 5 rfl ?_
        by_cases hg61 : (x3 + (1 : Int32)) < 0 ∨ L ≤ (x3 + (1 : Int32)).toNatClampNeg
        case pos => rw [if_pos hg61] at h; cases h
        rw [if_neg hg61] at h
        refine ev_sld rfl rfl rfl hg61 ?_
        obtain ⟨q62, hq63, h⟩ := Option.bind_eq_some_iff.mp h
        refine am_ev_call (mj := 156) (as := [.ref 96, .int (xs (x3 + (1 : Int32)).toNatClampNeg)]) (rest := [.int q59.1]) (rv := some (.int q62.1)) (sh' := sh_A) (M' := q62.2) rfl (te_156 _ _ _ hq63) ?_
        show am_ev _ 0 314 [some (.ref 1048582), some (.ref 0), some (.ref 96), some (.int x3)] [.int q62.1, .int q59.1] sh_A q62.2 _
        refine am_ev_go (pc' := (am_br .eq q59.1 q62.1 592 317)) (L' := [some (.ref 1048582), some (.ref 0), some (.ref 96), some (.int x3)]) (st' := []) (sh' := sh_A) (M' := q62.2) 1 rfl ?_
        refine ev_eq (fun hc64 => ?_) (fun hc64 => ?_)
        · rw [if_pos hc64] at h
          exact te_0_592 hk28 _ _ _ h
        · rw [if_neg hc64] at h
          refine am_ev_go (pc' := 318) (L' := [some (.ref 1048582), some (.ref 0), some (.ref 96), some (.int x3)]) (st' := [.int (0 : Int32)]) (sh' := sh_A) (M' := q62.2) 1 rfl ?_
          cases h
          exact am_ev_ret rfl
      rw [if_neg hc57] at h
      by_cases hc65 : ((xs x3.toNatClampNeg) &&& (31 : Int32)) = (7 : Int32)
      · rw [if_pos hc65] at h
        refine ev_swi hc65 rfl (t := 319) rfl ?_
        refine am_ev_go (pc' := 324) (L' := [some (.ref 1048582), some (.ref 0), some (.ref 96), some (.int x3)]) (st' := [.int (x3 + (1 : Int32)), .ref 1048582, .ref 0]) (sh' := sh_A) (M' := M) 5 rfl ?_
        by_cases hg66 : (x3 + (1 : Int32)) < 0 ∨ L ≤ (x3 + (1 : Int32)).toNatClampNeg
        case pos => rw [if_pos hg66] at h; cases h
        rw [if_neg hg66] at h
        refine ev_sld rfl rfl rfl hg66 ?_
        obtain ⟨q67, hq68, h⟩ := Option.bind_eq_some_iff.mp h
        refine am_ev_call (mj := 103) (as := [.ref 0, .int (xs (x3 + (1 : Int32)).toNatClampNeg)]) (rest := []) (rv := some (.int q67.1)) (sh' := sh_A) (M' := q67.2) rfl (te_103 _ _ _ hq68) ?_
        show am_ev _ 0 328 [some (.ref 1048582), some (.ref 0), some (.ref 96), some (.int x3)] [.int q67.1] sh_A q67.2 _
        refine am_ev_go (pc' := 333) (L' := [some (.ref 1048582), some (.ref 0), some (.ref 96), some (.int x3)]) (st' := [.int (x3 + (1 : Int32)), .ref 1048582, .ref 96, .int q67.1]) (sh' := sh_A) (M' := q67.2) 5 rfl ?_
        by_cases hg69 : (x3 + (1 : Int32)) < 0 ∨ L ≤ (x3 + (1 : Int32)).toNatClampNeg
        case pos => rw [if_pos hg69] at h; cases h
        rw [if_neg hg69] at h
        refine ev_sld rfl rfl rfl hg69 ?_
        obtain ⟨q70, hq71, h⟩ := Option.bind_eq_some_iff.mp h
        refine am_ev_call (mj := 168) (as := [.ref 96, .int (xs (x3 + (1 : Int32)).toNatClampNeg)]) (rest := [.int q67.1]) (rv := some (.int q70.1)) (sh' := sh_A) (M' := q70.2) rfl (te_168 _ _ _ hq71) ?_
        show am_ev _ 0 337 [some (.ref 1048582), some (.ref 0), some (.ref 96), some (.int x3)] [.int q70.1, .int q67.1] sh_A q70.2 _
        refine am_ev_go (pc' := (am_br .eq q67.1 q70.1 592 340)) (L' := [some (.ref 1048582), some (.ref 0), some (.ref 96), some (.int x3)]) (st' := []) (sh' := sh_A) (M' := q70.2) 1 rfl ?_
        refine ev_eq (fun hc72 => ?_) (fun hc72 => ?_)
        · rw [if_pos hc72] at h
          exact te_0_592 hk28 _ _ _ h
        · rw [if_neg hc72] at h
          refine am_ev_go (pc' := 341) (L' := [some (.ref 1048582), some (.ref 0), some (.ref 96), some (.int x3)]) (st' := [.int (0 : Int32)]) (sh' := sh_A) (M' := q70.2) 1 rfl ?_
          cases h
          exact am_ev_ret rfl
      rw [if_neg hc65] at h
      by_cases hc73 : ((xs x3.toNatClampNeg) &&& (31 : Int32)) = (8 : Int32)
      · rw [if_pos hc73] at h
        refine ev_swi hc73 rfl (t := 342) rfl ?_
        refine am_ev_go (pc' := 347) (L' := [some (.ref 1048582), some (.ref 0), some (.ref 96), some (.int x3)]) (st' := [.int (x3 + (1 : Int32)), .ref 1048582, .ref 0]) (sh' := sh_A) (M' := M) 5 rfl ?_
        by_cases hg74 : (x3 + (1 : Int32)) < 0 ∨ L ≤ (x3 + (1 : Int32)).toNatClampNeg
        case pos => rw [if_pos hg74] at h; cases h
        rw [if_neg hg74] at h
        refine ev_sld rfl rfl rfl hg74 ?_
        obtain ⟨q75, hq76, h⟩ := Option.bind_eq_some_iff.mp h
        refine am_ev_call (mj := 110) (as := [.ref 0, .int (xs (x3 + (1 : Int32)).toNatClampNeg)]) (rest := []) (rv := some (.int q75.1)) (sh' := sh_A) (M' := q75.2) rfl (te_110 _ _ _ hq76) ?_
        show am_ev _ 0 351 [some (.ref 1048582), some (.ref 0), some (.ref 96), some (.int x3)] [.int q75.1] sh_A q75.2 _
        refine am_ev_go (pc' := 356) (L' := [some (.ref 1048582), some (.ref 0), some (.ref 96), some (.int x3)]) (st' := [.int (x3 + (1 : Int32)), .ref 1048582, .ref 96, .int q75.1]) (sh' := sh_A) (M' := q75.2) 5 rfl ?_
        by_cases hg77 : (x3 + (1 : Int32)) < 0 ∨ L ≤ (x3 + (1 : Int32)).toNatClampNeg
        case pos => rw [if_pos hg77] at h; cases h
        rw [if_neg hg77] at h
        refine ev_sld rfl rfl rfl hg77 ?_
        obtain ⟨q78, hq79, h⟩ := Option.bind_eq_some_iff.mp h
        refine am_ev_call (mj := 171) (as := [.ref 96, .int (xs (x3 + (1 : Int32)).toNatClampNeg)]) (rest := [.int q75.1]) (rv := some (.int q78.1)) (sh' := sh_A) (M' := q78.2) rfl (te_171 _ _ _ hq79) ?_
        show am_ev _ 0 360 [some (.ref 1048582), some (.ref 0), some (.ref 96), some (.int x3)] [.int q78.1, .int q75.1] sh_A q78.2 _
        refine am_ev_go (pc' := (am_br .eq q75.1 q78.1 592 363)) (L' := [some (.ref 1048582), some (.ref 0), some (.ref 96), some (.int x3)]) (st' := []) (sh' := sh_A) (M' := q78.2) 1 rfl ?_
        refine ev_eq (fun hc80 => ?_) (fun hc80 => ?_)
        · rw [if_pos hc80] at h
          exact te_0_592 hk28 _ _ _ h
        · rw [if_neg hc80] at h
          refine am_ev_go (pc' := 364) (L' := [some (.ref 1048582), some (.ref 0), some (.ref 96), some (.int x3)]) (st' := [.int (0 : Int32)]) (sh' := sh_A) (M' := q78.2) 1 rfl ?_
          cases h
          exact am_ev_ret rfl
      rw [if_neg hc73] at h
      by_cases hc81 : ((xs x3.toNatClampNeg) &&& (31 : Int32)) = (9 : Int32)
      · rw [if_pos hc81] at h
        refine ev_swi hc81 rfl (t := 365) rfl ?_
        refine am_ev_go (pc' := 370) (L' := [some (.ref 1048582), some (.ref 0), some (.ref 96), some (.int x3)]) (st' := [.int (x3 + (1 : Int32)), .ref 1048582, .ref 0]) (sh' := sh_A) (M' := M) 5 rfl ?_
        by_cases hg82 : (x3 + (1 : Int32)) < 0 ∨ L ≤ (x3 + (1 : Int32)).toNatClampNeg
        case pos => rw [if_pos hg82] at h; cases h
        rw [if_neg hg82] at h
        refine ev_sld rfl rfl rfl hg82 ?_
        obtain ⟨q83, hq84, h⟩ := Option.bind_eq_some_iff.mp h
        refine am_ev_call (mj := 112) (as := [.ref 0, .int (xs (x3 + (1 : Int32)).toNatClampNeg)]) (rest := []) (rv := some (.int q83.1)) (sh' := sh_A) (M' := q83.2) rfl (te_112 _ _ _ hq84) ?_
        show am_ev _ 0 374 [some (.ref 1048582), some (.ref 0), some (.ref 96), some (.int x3)] [.int q83.1] sh_A q83.2 _
        refine am_ev_go (pc' := 379) (L' := [some (.ref 1048582), some (.ref 0), some (.ref 96), some (.int x3)]) (st' := [.int (x3 + (1 : Int32)), .ref 1048582, .ref 96, .int q83.1]) (sh' := sh_A) (M' := q83.2) 5 rfl ?_
        by_cases hg85 : (x3 + (1 : Int32)) < 0 ∨ L ≤ (x3 + (1 : Int32)).toNatClampNeg
        case pos => rw [if_pos hg85] at h; cases h
        rw [if_neg hg85] at h
        refine ev_sld rfl rfl rfl hg85 ?_
        obtain ⟨q86, hq87, h⟩ := Option.bind_eq_some_iff.mp h
        refine am_ev_call (mj := 172) (as := [.ref 96, .int (xs (x3 + (1 : Int32)).toNatClampNeg)]) (rest := [.int q83.1]) (rv := some (.int q86.1)) (sh' := sh_A) (M' := q86.2) rfl (te_172 _ _ _ hq87) ?_
        show am_ev _ 0 383 [some (.ref 1048582), some (.ref 0), some (.ref 96), some (.int x3)] [.int q86.1, .int q83.1] sh_A q86.2 _
        refine am_ev_go (pc' := (am_br .eq q83.1 q86.1 592 386)) (L' := [some (.ref 1048582), some (.ref 0), some (.ref 96), some (.int x3)]) (st' := []) (sh' := sh_A) (M' := q86.2) 1 rfl ?_
        refine ev_eq (fun hc88 => ?_) (fun hc88 => ?_)
        · rw [if_pos hc88] at h
          exact te_0_592 hk28 _ _ _ h
        · rw [if_neg hc88] at h
          refine am_ev_go (pc' := 387) (L' := [some (.ref 1048582), some (.ref 0), some (.ref 96), some (.int x3)]) (st' := [.int (0 : Int32)]) (sh' := sh_A) (M' := q86.2) 1 rfl ?_
          cases h
          exact am_ev_ret rfl
      rw [if_neg hc81] at h
      by_cases hc89 : ((xs x3.toNatClampNeg) &&& (31 : Int32)) = (10 : Int32)
      · rw [if_pos hc89] at h
        refine ev_swi hc89 rfl (t := 388) rfl ?_
        refine am_ev_go (pc' := 393) (L' := [some (.ref 1048582), some (.ref 0), some (.ref 96), some (.int x3)]) (st' := [.int (x3 + (1 : Int32)), .ref 1048582, .ref 0]) (sh' := sh_A) (M' := M) 5 rfl ?_
        by_cases hg90 : (x3 + (1 : Int32)) < 0 ∨ L ≤ (x3 + (1 : Int32)).toNatClampNeg
        case pos => rw [if_pos hg90] at h; cases h
        rw [if_neg hg90] at h
        refine ev_sld rfl rfl rfl hg90 ?_
        obtain ⟨q91, hq92, h⟩ := Option.bind_eq_some_iff.mp h
        refine am_ev_call (mj := 113) (as := [.ref 0, .int (xs (x3 + (1 : Int32)).toNatClampNeg)]) (rest := []) (rv := some (.int q91.1)) (sh' := sh_A) (M' := q91.2) rfl (te_113 _ _ _ hq92) ?_
        show am_ev _ 0 397 [some (.ref 1048582), some (.ref 0), some (.ref 96), some (.int x3)] [.int q91.1] sh_A q91.2 _
        refine am_ev_go (pc' := 402) (L' := [some (.ref 1048582), some (.ref 0), some (.ref 96), some (.int x3)]) (st' := [.int (x3 + (1 : Int32)), .ref 1048582, .ref 96, .int q91.1]) (sh' := sh_A) (M' := q91.2) 5 rfl ?_
        by_cases hg93 : (x3 + (1 : Int32)) < 0 ∨ L ≤ (x3 + (1 : Int32)).toNatClampNeg
        case pos => rw [if_pos hg93] at h; cases h
        rw [if_neg hg93] at h
        refine ev_sld rfl rfl rfl hg93 ?_
        obtain ⟨q94, hq95, h⟩ := Option.bind_eq_some_iff.mp h
        refine am_ev_call (mj := 174) (as := [.ref 96, .int (xs (x3 + (1 : Int32)).toNatClampNeg)]) (rest := [.int q91.1]) (rv := some (.int q94.1)) (sh' := sh_A) (M' := q94.2) rfl (te_174 _ _ _ hq95) ?_
        show am_ev _ 0 406 [some (.ref 1048582), some (.ref 0), some (.ref 96), some (.int x3)] [.int q94.1, .int q91.1] sh_A q94.2 _
        refine am_ev_go (pc' := (am_br .eq q91.1 q94.1 592 409)) (L' := [some (.ref 1048582), some (.ref 0), some (.ref 96), some (.int x3)]) (st' := []) (sh' := sh_A) (M' := q94.2) 1 rfl ?_
        refine ev_eq (fun hc96 => ?_) (fun hc96 => ?_)
        · rw [if_pos hc96] at h
          exact te_0_592 hk28 _ _ _ h
        · rw [if_neg hc96] at h
          refine am_ev_go (pc' := 410) (L' := [some (.ref 1048582), some (.ref 0), some (.ref 96), some (.int x3)]) (st' := [.int (0 : Int32)]) (sh' := sh_A) (M' := q94.2) 1 rfl ?_
          cases h
          exact am_ev_ret rfl
      rw [if_neg hc89] at h
      by_cases hc97 : ((xs x3.toNatClampNeg) &&& (31 : Int32)) = (11 : Int32)
      · rw [if_pos hc97] at h
        refine ev_swi hc97 rfl (t := 411) rfl ?_
        refine am_ev_go (pc' := 416) (L' := [some (.ref 1048582), some (.ref 0), some (.ref 96), some (.int x3)]) (st' := [.int (x3 + (1 : Int32)), .ref 1048582, .ref 0]) (sh' := sh_A) (M' := M) 5 rfl ?_
        by_cases hg98 : (x3 + (1 : Int32)) < 0 ∨ L ≤ (x3 + (1 : Int32)).toNatClampNeg
        case pos => rw [if_pos hg98] at h; cases h
        rw [if_neg hg98] at h
        refine ev_sld rfl rfl rfl hg98 ?_
        refine am_ev_go (pc' := 421) (L' := [some (.ref 1048582), some (.ref 0), some (.ref 96), some (.int x3)]) (st' := [.int (x3 + (2 : Int32)), .ref 1048582, .int (xs (x3 + (1 : Int32)).toNatClampNeg), .ref 0]) (sh' := sh_A) (M' := M) 4 rfl ?_
        by_cases hg99 : (x3 + (2 : Int32)) < 0 ∨ L ≤ (x3 + (2 : Int32)).toNatClampNeg
        case pos => rw [if_pos hg99] at h; cases h
        rw [if_neg hg99] at h
        refine ev_sld rfl rfl rfl hg99 ?_
        obtain ⟨q100, hq101, h⟩ := Option.bind_eq_some_iff.mp h
        refine am_ev_call (mj := 114) (as := [.ref 0, .int (xs (x3 + (1 : Int32)).toNatClampNeg), .int (xs (x3 + (2 : Int32)).toNatClampNeg)]) (rest := []) (rv := some (.int q100.1)) (sh' := sh_A) (M' := q100.2) rfl (te_114 _ _ _ _ hq101) ?_
        show am_ev _ 0 425 [some (.ref 1048582), some (.ref 0), some (.ref 96), some (.int x3)] [.int q100.1] sh_A q100.2 _
        refine am_ev_go (pc' := 430) (L' := [some (.ref 1048582), some (.ref 0), some (.ref 96), some (.int x3)]) (st' := [.int (x3 + (1 : Int32)), .ref 1048582, .ref 96, .int q100.1]) (sh' := sh_A) (M' := q100.2) 5 rfl ?_
        by_cases hg102 : (x3 + (1 : Int32)) < 0 ∨ L ≤ (x3 + (1 : Int32)).toNatClampNeg
        case pos => rw [if_pos hg102] at h; cases h
        rw [if_neg hg102] at h
        refine ev_sld rfl rfl rfl hg102 ?_
        refine am_ev_go (pc' := 435) (L' := [some (.ref 1048582), some (.ref 0), some (.ref 96), some (.int x3)]) (st' := [.int (x3 + (2 : Int32)), .ref 1048582, .int (xs (x3 + (1 : Int32)).toNatClampNeg), .ref 96, .int q100.1]) (sh' := sh_A) (M' := q100.2) 4 rfl ?_
        by_cases hg103 : (x3 + (2 : Int32)) < 0 ∨ L ≤ (x3 + (2 : Int32)).toNatClampNeg
        case pos => rw [if_pos hg103] at h; cases h
        rw [if_neg hg103] at h
        refine ev_sld rfl rfl rfl hg103 ?_
        obtain ⟨q104, hq105, h⟩ := Option.bind_eq_some_iff.mp h
        refine am_ev_call (mj := 175) (as := [.ref 96, .int (xs (x3 + (1 : Int32)).toNatClampNeg), .int (xs (x3 + (2 : Int32)).toNatClampNeg)]) (rest := [.int q100.1]) (rv := some (.int q104.1)) (sh' := sh_A) (M' := q104.2) rfl (te_175 _ _ _ _ hq105) ?_
        show am_ev _ 0 439 [some (.ref 1048582), some (.ref 0), some (.ref 96), some (.int x3)] [.int q104.1, .int q100.1] sh_A q104.2 _
        refine am_ev_go (pc' := (am_br .eq q100.1 q104.1 592 442)) (L' := [some (.ref 1048582), some (.ref 0), some (.ref 96), some (.int x3)]) (st' := []) (sh' := sh_A) (M' := q104.2) 1 rfl ?_
        refine ev_eq (fun hc106 => ?_) (fun hc106 => ?_)
        · rw [if_pos hc106] at h
          exact te_0_592 hk28 _ _ _ h
        · rw [if_neg hc106] at h
          refine am_ev_go (pc' := 443) (L' := [some (.ref 1048582), some (.ref 0), some (.ref 96), some (.int x3)]) (st' := [.int (0 : Int32)]) (sh' := sh_A) (M' := q104.2) 1 rfl ?_
          cases h
          exact am_ev_ret rfl
      rw [if_neg hc97] at h
      by_cases hc107 : ((xs x3.toNatClampNeg) &&& (31 : Int32)) = (12 : Int32)
      · rw [if_pos hc107] at h
        refine ev_swi hc107 rfl (t := 444) rfl ?_
        refine am_ev_go (pc' := 449) (L' := [some (.ref 1048582), some (.ref 0), some (.ref 96), some (.int x3)]) (st' := [.int (x3 + (1 : Int32)), .ref 1048582, .ref 0]) (sh' := sh_A) (M' := M) 5 rfl ?_
        by_cases hg108 : (x3 + (1 : Int32)) < 0 ∨ L ≤ (x3 + (1 : Int32)).toNatClampNeg
        case pos => rw [if_pos hg108] at h; cases h
        rw [if_neg hg108] at h
        refine ev_sld rfl rfl rfl hg108 ?_
        refine am_ev_go (pc' := 454) (L' := [some (.ref 1048582), some (.ref 0), some (.ref 96), some (.int x3)]) (st' := [.int (x3 + (2 : Int32)), .ref 1048582, .int (xs (x3 + (1 : Int32)).toNatClampNeg), .ref 0]) (sh' := sh_A) (M' := M) 4 rfl ?_
        by_cases hg109 : (x3 + (2 : Int32)) < 0 ∨ L ≤ (x3 + (2 : Int32)).toNatClampNeg
        case pos => rw [if_pos hg109] at h; cases h
        rw [if_neg hg109] at h
        refine ev_sld rfl rfl rfl hg109 ?_
        obtain ⟨q110, hq111, h⟩ := Option.bind_eq_some_iff.mp h
        refine am_ev_call (mj := 115) (as := [.ref 0, .int (xs (x3 + (1 : Int32)).toNatClampNeg), .int (xs (x3 + (2 : Int32)).toNatClampNeg)]) (rest := []) (rv := some (.int q110.1)) (sh' := sh_A) (M' := q110.2) rfl (te_115 _ _ _ _ hq111) ?_
        show am_ev _ 0 458 [some (.ref 1048582), some (.ref 0), some (.ref 96), some (.int x3)] [.int q110.1] sh_A q110.2 _
        refine am_ev_go (pc' := 463) (L' := [some (.ref 1048582), some (.ref 0), some (.ref 96), some (.int x3)]) (st' := [.int (x3 + (1 : Int32)), .ref 1048582, .ref 96, .int q110.1]) (sh' := sh_A) (M' := q110.2) 5 rfl ?_
        by_cases hg112 : (x3 + (1 : Int32)) < 0 ∨ L ≤ (x3 + (1 : Int32)).toNatClampNeg
        case pos => rw [if_pos hg112] at h; cases h
        rw [if_neg hg112] at h
        refine ev_sld rfl rfl rfl hg112 ?_
        refine am_ev_go (pc' := 468) (L' := [some (.ref 1048582), some (.ref 0), some (.ref 96), some (.int x3)]) (st' := [.int (x3 + (2 : Int32)), .ref 1048582, .int (xs (x3 + (1 : Int32)).toNatClampNeg), .ref 96, .int q110.1]) (sh' := sh_A) (M' := q110.2) 4 rfl ?_
        by_cases hg113 : (x3 + (2 : Int32)) < 0 ∨ L ≤ (x3 + (2 : Int32)).toNatClampNeg
        case pos => rw [if_pos hg113] at h; cases h
        rw [if_neg hg113] at h
        refine ev_sld rfl rfl rfl hg113 ?_
        obtain ⟨q114, hq115, h⟩ := Option.bind_eq_some_iff.mp h
        refine am_ev_call (mj := 176) (as := [.ref 96, .int (xs (x3 + (1 : Int32)).toNatClampNeg), .int (xs (x3 + (2 : Int32)).toNatClampNeg)]) (rest := [.int q110.1]) (rv := some (.int q114.1)) (sh' := sh_A) (M' := q114.2) rfl (te_176 _ _ _ _ hq115) ?_
        show am_ev _ 0 472 [some (.ref 1048582), some (.ref 0), some (.ref 96), some (.int x3)] [.int q114.1, .int q110.1] sh_A q114.2 _
        refine am_ev_go (pc' := (am_br .eq q110.1 q114.1 592 475)) (L' := [some (.ref 1048582), some (.ref 0), some (.ref 96), some (.int x3)]) (st' := []) (sh' := sh_A) (M' := q114.2) 1 rfl ?_
        refine ev_eq (fun hc116 => ?_) (fun hc116 => ?_)
        · rw [if_pos hc116] at h
          exact te_0_592 hk28 _ _ _ h
        · rw [if_neg hc116] at h
          refine am_ev_go (pc' := 476) (L' := [some (.ref 1048582), some (.ref 0), some (.ref 96), some (.int x3)]) (st' := [.int (0 : Int32)]) (sh' := sh_A) (M' := q114.2) 1 rfl ?_
          cases h
          exact am_ev_ret rfl
      rw [if_neg hc107] at h
      by_cases hc117 : ((xs x3.toNatClampNeg) &&& (31 : Int32)) = (13 : Int32)
      · rw [if_pos hc117] at h
        refine ev_swi hc117 rfl (t := 477) rfl ?_
        refine am_ev_go (pc' := 482) (L' := [some (.ref 1048582), some (.ref 0), some (.ref 96), some (.int x3)]) (st' := [.int (x3 + (1 : Int32)), .ref 1048582, .ref 0]) (sh' := sh_A) (M' := M) 5 rfl ?_
        by_cases hg118 : (x3 + (1 : Int32)) < 0 ∨ L ≤ (x3 + (1 : Int32)).toNatClampNeg
        case pos => rw [if_pos hg118] at h; cases h
        rw [if_neg hg118] at h
        refine ev_sld rfl rfl rfl hg118 ?_
        refine am_ev_go (pc' := 487) (L' := [some (.ref 1048582), some (.ref 0), some (.ref 96), some (.int x3)]) (st' := [.int (x3 + (2 : Int32)), .ref 1048582, .int (xs (x3 + (1 : Int32)).toNatClampNeg), .ref 0]) (sh' := sh_A) (M' := M) 4 rfl ?_
        by_cases hg119 : (x3 + (2 : Int32)) < 0 ∨ L ≤ (x3 + (2 : Int32)).toNatClampNeg
        case pos => rw [if_pos hg119] at h; cases h
        rw [if_neg hg119] at h
        refine ev_sld rfl rfl rfl hg119 ?_
        obtain ⟨q120, hq121, h⟩ := Option.bind_eq_some_iff.mp h
        refine am_ev_call (mj := 116) (as := [.ref 0, .int (xs (x3 + (1 : Int32)).toNatClampNeg), .int (xs (x3 + (2 : Int32)).toNatClampNeg)]) (rest := []) (rv := some (.int q120.1)) (sh' := sh_A) (M' := q120.2) rfl (te_116 _ _ _ _ hq121) ?_
        show am_ev _ 0 491 [some (.ref 1048582), some (.ref 0), some (.ref 96), some (.int x3)] [.int q120.1] sh_A q120.2 _
        refine am_ev_go (pc' := 496) (L' := [some (.ref 1048582), some (.ref 0), some (.ref 96), some (.int x3)]) (st' := [.int (x3 + (1 : Int32)), .ref 1048582, .ref 96, .int q120.1]) (sh' := sh_A) (M' := q120.2) 5 rfl ?_
        by_cases hg122 : (x3 + (1 : Int32)) < 0 ∨ L ≤ (x3 + (1 : Int32)).toNatClampNeg
        case pos => rw [if_pos hg122] at h; cases h
        rw [if_neg hg122] at h
        refine ev_sld rfl rfl rfl hg122 ?_
        refine am_ev_go (pc' := 501) (L' := [some (.ref 1048582), some (.ref 0), some (.ref 96), some (.int x3)]) (st' := [.int (x3 + (2 : Int32)), .ref 1048582, .int (xs (x3 + (1 : Int32)).toNatClampNeg), .ref 96, .int q120.1]) (sh' := sh_A) (M' := q120.2) 4 rfl ?_
        by_cases hg123 : (x3 + (2 : Int32)) < 0 ∨ L ≤ (x3 + (2 : Int32)).toNatClampNeg
        case pos => rw [if_pos hg123] at h; cases h
        rw [if_neg hg123] at h
        refine ev_sld rfl rfl rfl hg123 ?_
        obtain ⟨q124, hq125, h⟩ := Option.bind_eq_some_iff.mp h
        refine am_ev_call (mj := 177) (as := [.ref 96, .int (xs (x3 + (1 : Int32)).toNatClampNeg), .int (xs (x3 + (2 : Int32)).toNatClampNeg)]) (rest := [.int q120.1]) (rv := some (.int q124.1)) (sh' := sh_A) (M' := q124.2) rfl (te_177 _ _ _ _ hq125) ?_
        show am_ev _ 0 505 [some (.ref 1048582), some (.ref 0), some (.ref 96), some (.int x3)] [.int q124.1, .int q120.1] sh_A q124.2 _
        refine am_ev_go (pc' := (am_br .eq q120.1 q124.1 592 508)) (L' := [some (.ref 1048582), some (.ref 0), some (.ref 96), some (.int x3)]) (st' := []) (sh' := sh_A) (M' := q124.2) 1 rfl ?_
        refine ev_eq (fun hc126 => ?_) (fun hc126 => ?_)
        · rw [if_pos hc126] at h
          exact te_0_592 hk28 _ _ _ h
        · rw [if_neg hc126] at h
          refine am_ev_go (pc' := 509) (L' := [some (.ref 1048582), some (.ref 0), some (.ref 96), some (.int x3)]) (st' := [.int (0 : Int32)]) (sh' := sh_A) (M' := q124.2) 1 rfl ?_
          cases h
          exact am_ev_ret rfl
      rw [if_neg hc117] at h
      by_cases hc127 : ((xs x3.toNatClampNeg) &&& (31 : Int32)) = (14 : Int32)
      · rw [if_pos hc127] at h
        refine ev_swi hc127 rfl (t := 510) rfl ?_
        refine am_ev_go (pc' := 515) (L' := [some (.ref 1048582), some (.ref 0), some (.ref 96), some (.int x3)]) (st' := [.int (x3 + (1 : Int32)), .ref 1048582, .ref 0]) (sh' := sh_A) (M' := M) 5 rfl ?_
        by_cases hg128 : (x3 + (1 : Int32)) < 0 ∨ L ≤ (x3 + (1 : Int32)).toNatClampNeg
        case pos => rw [if_pos hg128] at h; cases h
        rw [if_neg hg128] at h
        refine ev_sld rfl rfl rfl hg128 ?_
        refine am_ev_go (pc' := 520) (L' := [some (.ref 1048582), some (.ref 0), some (.ref 96), some (.int x3)]) (st' := [.int (x3 + (2 : Int32)), .ref 1048582, .int (xs (x3 + (1 : Int32)).toNatClampNeg), .ref 0]) (sh' := sh_A) (M' := M) 4 rfl ?_
        by_cases hg129 : (x3 + (2 : Int32)) < 0 ∨ L ≤ (x3 + (2 : Int32)).toNatClampNeg
        case pos => rw [if_pos hg129] at h; cases h
        rw [if_neg hg129] at h
        refine ev_sld rfl rfl rfl hg129 ?_
        obtain ⟨q130, hq131, h⟩ := Option.bind_eq_some_iff.mp h
        refine am_ev_call (mj := 117) (as := [.ref 0, .int (xs (x3 + (1 : Int32)).toNatClampNeg), .int (xs (x3 + (2 : Int32)).toNatClampNeg)]) (rest := []) (rv := some (.int q130.1)) (sh' := sh_A) (M' := q130.2) rfl (te_117 _ _ _ _ hq131) ?_
        show am_ev _ 0 524 [some (.ref 1048582), some (.ref 0), some (.ref 96), some (.int x3)] [.int q130.1] sh_A q130.2 _
        refine am_ev_go (pc' := 529) (L' := [some (.ref 1048582), some (.ref 0), some (.ref 96), some (.int x3)]) (st' := [.int (x3 + (1 : Int32)), .ref 1048582, .ref 96, .int q130.1]) (sh' := sh_A) (M' := q130.2) 5 rfl ?_
        by_cases hg132 : (x3 + (1 : Int32)) < 0 ∨ L ≤ (x3 + (1 : Int32)).toNatClampNeg
        case pos => rw [if_pos hg132] at h; cases h
        rw [if_neg hg132] at h
        refine ev_sld rfl rfl rfl hg132 ?_
        refine am_ev_go (pc' := 534) (L' := [some (.ref 1048582), some (.ref 0), some (.ref 96), some (.int x3)]) (st' := [.int (x3 + (2 : Int32)), .ref 1048582, .int (xs (x3 + (1 : Int32)).toNatClampNeg), .ref 96, .int q130.1]) (sh' := sh_A) (M' := q130.2) 4 rfl ?_
        by_cases hg133 : (x3 + (2 : Int32)) < 0 ∨ L ≤ (x3 + (2 : Int32)).toNatClampNeg
        case pos => rw [if_pos hg133] at h; cases h
        rw [if_neg hg133] at h
        refine ev_sld rfl rfl rfl hg133 ?_
        obtain ⟨q134, hq135, h⟩ := Option.bind_eq_some_iff.mp h
        refine am_ev_call (mj := 178) (as := [.ref 96, .int (xs (x3 + (1 : Int32)).toNatClampNeg), .int (xs (x3 + (2 : Int32)).toNatClampNeg)]) (rest := [.int q130.1]) (rv := some (.int q134.1)) (sh' := sh_A) (M' := q134.2) rfl (te_178 _ _ _ _ hq135) ?_
        show am_ev _ 0 538 [some (.ref 1048582), some (.ref 0), some (.ref 96), some (.int x3)] [.int q134.1, .int q130.1] sh_A q134.2 _
        refine am_ev_go (pc' := (am_br .eq q130.1 q134.1 592 541)) (L' := [some (.ref 1048582), some (.ref 0), some (.ref 96), some (.int x3)]) (st' := []) (sh' := sh_A) (M' := q134.2) 1 rfl ?_
        refine ev_eq (fun hc136 => ?_) (fun hc136 => ?_)
        · rw [if_pos hc136] at h
          exact te_0_592 hk28 _ _ _ h
        · rw [if_neg hc136] at h
          refine am_ev_go (pc' := 542) (L' := [some (.ref 1048582), some (.ref 0), some (.ref 96), some (.int x3)]) (st' := [.int (0 : Int32)]) (sh' := sh_A) (M' := q134.2) 1 rfl ?_
          cases h
          exact am_ev_ret rfl
      rw [if_neg hc127] at h
      by_cases hc137 : ((xs x3.toNatClampNeg) &&& (31 : Int32)) = (15 : Int32)
      · rw [if_pos hc137] at h
        refine ev_swi hc137 rfl (t := 543) rfl ?_
        refine am_ev_go (pc' := 548) (L' := [some (.ref 1048582), some (.ref 0), some (.ref 96), some (.int x3)]) (st' := [.int (x3 + (1 : Int32)), .ref 1048582, .ref 0]) (sh' := sh_A) (M' := M) 5 rfl ?_
        by_cases hg138 : (x3 + (1 : Int32)) < 0 ∨ L ≤ (x3 + (1 : Int32)).toNatClampNeg
        case pos => rw [if_pos hg138] at h; cases h
        rw [if_neg hg138] at h
        refine ev_sld rfl rfl rfl hg138 ?_
        obtain ⟨q139, hq140, h⟩ := Option.bind_eq_some_iff.mp h
        refine am_ev_call (mj := 123) (as := [.ref 0, .int (xs (x3 + (1 : Int32)).toNatClampNeg)]) (rest := []) (rv := some (.int q139.1)) (sh' := sh_A) (M' := q139.2) rfl (te_123 _ _ _ hq140) ?_
        show am_ev _ 0 552 [some (.ref 1048582), some (.ref 0), some (.ref 96), some (.int x3)] [.int q139.1] sh_A q139.2 _
        refine am_ev_go (pc' := 557) (L' := [some (.ref 1048582), some (.ref 0), some (.ref 96), some (.int x3)]) (st' := [.int (x3 + (1 : Int32)), .ref 1048582, .ref 96, .int q139.1]) (sh' := sh_A) (M' := q139.2) 5 rfl ?_
        by_cases hg141 : (x3 + (1 : Int32)) < 0 ∨ L ≤ (x3 + (1 : Int32)).toNatClampNeg
        case pos => rw [if_pos hg141] at h; cases h
        rw [if_neg hg141] at h
        refine ev_sld rfl rfl rfl hg141 ?_
        obtain ⟨q142, hq143, h⟩ := Option.bind_eq_some_iff.mp h
        refine am_ev_call (mj := 180) (as := [.ref 96, .int (xs (x3 + (1 : Int32)).toNatClampNeg)]) (rest := [.int q139.1]) (rv := some (.int q142.1)) (sh' := sh_A) (M' := q142.2) rfl (te_180 _ _ _ hq143) ?_
        show am_ev _ 0 561 [some (.ref 1048582), some (.ref 0), some (.ref 96), some (.int x3)] [.int q142.1, .int q139.1] sh_A q142.2 _
        refine am_ev_go (pc' := (am_br .eq q139.1 q142.1 592 564)) (L' := [some (.ref 1048582), some (.ref 0), some (.ref 96), some (.int x3)]) (st' := []) (sh' := sh_A) (M' := q142.2) 1 rfl ?_
        refine ev_eq (fun hc144 => ?_) (fun hc144 => ?_)
        · rw [if_pos hc144] at h
          exact te_0_592 hk28 _ _ _ h
        · rw [if_neg hc144] at h
          refine am_ev_go (pc' := 565) (L' := [some (.ref 1048582), some (.ref 0), some (.ref 96), some (.int x3)]) (st' := [.int (0 : Int32)]) (sh' := sh_A) (M' := q142.2) 1 rfl ?_
          cases h
          exact am_ev_ret rfl
      rw [if_neg hc137] at h
      by_cases hc145 : ((xs x3.toNatClampNeg) &&& (31 : Int32)) = (16 : Int32)
      · rw [if_pos hc145] at h
        refine ev_swi hc145 rfl (t := 566) rfl ?_
        refine am_ev_go (pc' := 567) (L' := [some (.ref 1048582), some (.ref 0), some (.ref 96), some (.int x3)]) (st' := [.ref 0]) (sh' := sh_A) (M' := M) 1 rfl ?_
        obtain ⟨q146, hq147, h⟩ := Option.bind_eq_some_iff.mp h
        refine am_ev_call (mj := 126) (as := [.ref 0]) (rest := []) (rv := some (.int q146.1)) (sh' := sh_A) (M' := q146.2) rfl (te_126 _ _ hq147) ?_
        show am_ev _ 0 570 [some (.ref 1048582), some (.ref 0), some (.ref 96), some (.int x3)] [.int q146.1] sh_A q146.2 _
        refine am_ev_go (pc' := 571) (L' := [some (.ref 1048582), some (.ref 0), some (.ref 96), some (.int x3)]) (st' := [.ref 96, .int q146.1]) (sh' := sh_A) (M' := q146.2) 1 rfl ?_
        obtain ⟨q148, hq149, h⟩ := Option.bind_eq_some_iff.mp h
        refine am_ev_call (mj := 181) (as := [.ref 96]) (rest := [.int q146.1]) (rv := some (.int q148.1)) (sh' := sh_A) (M' := q148.2) rfl (te_181 _ _ hq149) ?_
        show am_ev _ 0 574 [some (.ref 1048582), some (.ref 0), some (.ref 96), some (.int x3)] [.int q148.1, .int q146.1] sh_A q148.2 _
        refine am_ev_go (pc' := (am_br .eq q146.1 q148.1 592 577)) (L' := [some (.ref 1048582), some (.ref 0), some (.ref 96), some (.int x3)]) (st' := []) (sh' := sh_A) (M' := q148.2) 1 rfl ?_
        refine ev_eq (fun hc150 => ?_) (fun hc150 => ?_)
        · rw [if_pos hc150] at h
          exact te_0_592 hk28 _ _ _ h
        · rw [if_neg hc150] at h
          refine am_ev_go (pc' := 578) (L' := [some (.ref 1048582), some (.ref 0), some (.ref 96), some (.int x3)]) (st' := [.int (0 : Int32)]) (sh' := sh_A) (M' := q148.2) 1 rfl ?_
          cases h
          exact am_ev_ret rfl
      rw [if_neg hc145] at h
      by_cases hc151 : ((xs x3.toNatClampNeg) &&& (31 : Int32)) = (17 : Int32)
      · rw [if_pos hc151] at h
        refine ev_swi hc151 rfl (t := 579) rfl ?_
        refine am_ev_go (pc' := 580) (L' := [some (.ref 1048582), some (.ref 0), some (.ref 96), some (.int x3)]) (st' := [.ref 0]) (sh' := sh_A) (M' := M) 1 rfl ?_
        obtain ⟨q152, hq153, h⟩ := Option.bind_eq_some_iff.mp h
        refine am_ev_call (mj := 127) (as := [.ref 0]) (rest := []) (rv := some (.int q152.1)) (sh' := sh_A) (M' := q152.2) rfl (te_127 _ _ hq153) ?_
        show am_ev _ 0 583 [some (.ref 1048582), some (.ref 0), some (.ref 96), some (.int x3)] [.int q152.1] sh_A q152.2 _
        refine am_ev_go (pc' := 584) (L' := [some (.ref 1048582), some (.ref 0), some (.ref 96), some (.int x3)]) (st' := [.ref 96, .int q152.1]) (sh' := sh_A) (M' := q152.2) 1 rfl ?_
        obtain ⟨q154, hq155, h⟩ := Option.bind_eq_some_iff.mp h
        refine am_ev_call (mj := 182) (as := [.ref 96]) (rest := [.int q152.1]) (rv := some (.int q154.1)) (sh' := sh_A) (M' := q154.2) rfl (te_182 _ _ hq155) ?_
        show am_ev _ 0 587 [some (.ref 1048582), some (.ref 0), some (.ref 96), some (.int x3)] [.int q154.1, .int q152.1] sh_A q154.2 _
        refine am_ev_go (pc' := (am_br .eq q152.1 q154.1 592 590)) (L' := [some (.ref 1048582), some (.ref 0), some (.ref 96), some (.int x3)]) (st' := []) (sh' := sh_A) (M' := q154.2) 1 rfl ?_
        refine ev_eq (fun hc156 => ?_) (fun hc156 => ?_)
        · rw [if_pos hc156] at h
          exact te_0_592 hk28 _ _ _ h
        · rw [if_neg hc156] at h
          refine am_ev_go (pc' := 591) (L' := [some (.ref 1048582), some (.ref 0), some (.ref 96), some (.int x3)]) (st' := [.int (0 : Int32)]) (sh' := sh_A) (M' := q154.2) 1 rfl ?_
          cases h
          exact am_ev_ret rfl
      rw [if_neg hc151] at h
      refine ev_swo (sw_0_17 hc3 hc11 hc27 hc33 hc39 hc47 hc57 hc65 hc73 hc81 hc89 hc97 hc107 hc117 hc127 hc137 hc145 hc151) rfl (t := 592) rfl ?_
      exact te_0_592 hk28 _ _ _ h
