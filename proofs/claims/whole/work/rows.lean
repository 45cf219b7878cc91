section
/-! FOR WORK ON THE PURE SIDE ALONE: definitions picked out of the parts by wip/whole/mkdev.py -/
abbrev am_M : Type := Nat → Nat → Int32
def am_set (M : am_M) (k : Nat) (f : Nat → Int32) : am_M := fun j => if j = k then f else M j
theorem am_set_s (M : am_M) (k : Nat) (f : Nat → Int32) : am_set M k f k = f := by simp [am_set]
theorem am_set_n (M : am_M) {k j : Nat} (f : Nat → Int32) (h : j ≠ k) : am_set M k f j = M j := by simp [am_set, h]
def am_fit (ty : FieldType) (x : Int32) : Bool := match ty with
  | .int => true
  | .boolean => x == 0 || x == 1
  | _ => false
def tb_a0 : List Int32 := [5, 4, 2, 3, 4, 5]
def tb_a1 : List Int32 := [41, 43, 63]
def tb_a2 : List Int32 := [63, 62, 52, 56, 48, 32]
def tb_a3 : List Int32 := [0, 5, 5, 3, 5, 5, 0, 4, 4, 3, 4, 5, 0, 1, 2, 3, 4, 5, 3, 3, 3, 3, 3, 5, 5, 4, 4, 3, 4, 5]
def tb_a4 : List Int32 := [0, 3, 5, 3, 5, 5, 0, 3, 4, 3, 4, 5, 0, 1, 2, 3, 4, 5]
def tb_a5 : List Int32 := [0, 0, 0, 3, 3, 5]
def ds_w (M : am_M) (a k : Nat) (v : Int32) : am_M := am_set M a (upd (M a) k v)
def ds_c (M : am_M) (a b sp dp n : Nat) : am_M := am_set M b (va_cpy (M a) (M b) sp dp n)
def fd_7 (a n : Nat) (v : Int32) (M : am_M) : Option am_M := some (am_set M a (fun i => if i < n then v else M a i))
def fd_15 (a0 : Int32) (M : am_M) : Option (Int32 × am_M) := if a0 < (0 : Int32) then (some ((0 : Int32), M)) else (if (6 : Int32) ≤ a0 then (some ((0 : Int32), M)) else (some ((1 : Int32), M)))
def fd_17 (a0 : Int32) (a1 : Int32) (M : am_M) : Option (Int32 × am_M) := if ((a1 >>> (a0 &&& 31)) &&& (1 : Int32)) = (0 : Int32) then (some ((0 : Int32), M)) else (some ((1 : Int32), M))
def fd_16 (a0 : Int32) (M : am_M) : Option (Int32 × am_M) := (fd_17 a0 (41 : Int32) M).bind fun q1 => if am_fit .boolean q1.1 = true then some (q1.1, q1.2) else none
def fd_14 (a0 : Int32) (M : am_M) : Option (Int32 × am_M) := (fd_15 a0 M).bind fun q1 => if q1.1 = (0 : Int32) then (some ((0 : Int32), q1.2)) else ((fd_16 a0 q1.2).bind fun q4 => if q4.1 = (0 : Int32) then (some ((0 : Int32), q4.2)) else (some ((1 : Int32), q4.2)))
def fd_18 (h0 : Nat) (a1 : Int32) (M : am_M) : Option (am_M) := some (ds_w (ds_w M h0 1 a1) h0 2 (0 : Int32))
def fd_20_7 (f : Nat) : Int32 → am_M → Option (am_M) := Nat.rec (motive := fun _ => Int32 → am_M → Option (am_M)) (fun _ _ => none) (fun _ k7 => fun x1 M => if (6 : Int32) ≤ x1 then (if (6 : Int32) < 0 ∨ 7 ≤ (6 : Int32).toNatClampNeg then none else some (ds_w M 5 (6 : Int32).toNatClampNeg ((0 : Int32) &&& 1))) else (if x1 < 0 ∨ 7 ≤ x1.toNatClampNeg then none else if x1 < 0 ∨ 6 ≤ x1.toNatClampNeg then none else k7 (x1 + (1 : Int32)) (ds_w (ds_w M 5 x1.toNatClampNeg ((0 : Int32) &&& 1)) 6 x1.toNatClampNeg ((0 : Int32) &&& 1)))) f
def fd_20 (M : am_M) : Option (am_M) := fd_20_7 1000 (0 : Int32) (ds_w M 3 3 (0 : Int32))
def fd_19_2 (f : Nat) : Int32 → Int32 → am_M → Option (am_M) := Nat.rec (motive := fun _ => Int32 → Int32 → am_M → Option (am_M)) (fun _ _ _ => none) (fun _ k2 => fun x1 x2 M => if (6 : Int32) ≤ x2 then (if (0 : Int32) < 0 ∨ 7 ≤ (0 : Int32).toNatClampNeg then none else if (6 : Int32) < 0 ∨ 7 ≤ (6 : Int32).toNatClampNeg then none else (fd_20 (ds_w (ds_w M 4 (0 : Int32).toNatClampNeg x1) 4 (6 : Int32).toNatClampNeg (2 : Int32))).bind fun q4 => some q4) else (if x2 < 0 ∨ 7 ≤ x2.toNatClampNeg then none else k2 x1 (x2 + (1 : Int32)) (ds_w M 4 x2.toNatClampNeg (-1 : Int32)))) f
def fd_19 (a1 : Int32) (M : am_M) : Option (am_M) := fd_19_2 1000 a1 (0 : Int32) M
def fd_13 (a1 : Int32) (M : am_M) : Option (Int32 × am_M) := if (M 1 3) = (0 : Int32) then (if (6 : Int32) ≤ (M 1 2) then (some ((-1 : Int32), M)) else ((fd_14 a1 M).bind fun q3 => if q3.1 = (0 : Int32) then (some ((-1 : Int32), q3.2)) else (if (q3.2 1 2) < 0 ∨ 6 ≤ (q3.2 1 2).toNatClampNeg then none else (fd_18 (7 + 12 * (q3.2 1 2).toNatClampNeg) a1 q3.2).bind fun q8 => (fd_19 a1 q8).bind fun q10 => some ((((ds_w (ds_w q10 1 3 (1 : Int32)) 1 2 (((ds_w q10 1 3 (1 : Int32)) 1 2) + (1 : Int32))) 1 2) - (1 : Int32)), (ds_w (ds_w q10 1 3 (1 : Int32)) 1 2 (((ds_w q10 1 3 (1 : Int32)) 1 2) + (1 : Int32))))))) else (some ((-1 : Int32), M))
def fd_12 (a1 : Int32) (M : am_M) : Option (Int32 × am_M) := (fd_13 a1 M).bind fun q1 => some (q1.1, q1.2)
def fd_23 (h0 : Nat) (M : am_M) : Option (Int32 × am_M) := if (M h0 2) < (10 : Int32) then (some ((0 : Int32), M)) else (some ((1 : Int32), M))
def fd_24 (h0 : Nat) (M : am_M) : Option (Int32 × am_M) := some ((M h0 2), M)
def fd_25 (h0 : Nat) (a1 : Int32) (M : am_M) : Option (Nat × am_M) := if a1 < 0 ∨ 10 ≤ a1.toNatClampNeg then none else some ((h0 + 2 + a1.toNatClampNeg), M)
def fd_26 (h0 : Nat) (a1 : Int32) (a2 : Int32) (a3 : Int32) (a4 : Int32) (a5 : Int32) (M : am_M) : Option (am_M) := some (ds_w (ds_w (ds_w (ds_w (ds_w M h0 0 a1) h0 1 a2) h0 2 a3) h0 3 a4) h0 4 a5)
def fd_29 (a0 : Int32) (M : am_M) : Option (Int32 × am_M) := if a0 < (0 : Int32) then (some ((0 : Int32), M)) else (if (6 : Int32) ≤ a0 then (some ((0 : Int32), M)) else (some ((1 : Int32), M)))
def fd_30_13 (M : am_M) : Option (Int32 × am_M) := some ((1 : Int32), M)
def fd_30 (a0 : Int32) (M : am_M) : Option (Int32 × am_M) := (fd_29 a0 M).bind fun q1 => if q1.1 = (0 : Int32) then (if a0 = (6 : Int32) then (fd_30_13 q1.2) else (some ((0 : Int32), q1.2))) else (fd_30_13 q1.2)
def fd_31 (a0 : Int32) (M : am_M) : Option (Int32 × am_M) := if a0 < (0 : Int32) then (some ((0 : Int32), M)) else (if (6 : Int32) ≤ a0 then (some ((0 : Int32), M)) else (some ((1 : Int32), M)))
def fd_28 (h0 : Nat) (a1 : Int32) (M : am_M) : Option (Int32 × am_M) := if (M h0 0) = (0 : Int32) then ((fd_29 (M h0 1) M).bind fun q2 => if q2.1 = (0 : Int32) then (some ((0 : Int32), q2.2)) else ((fd_15 (q2.2 h0 3) q2.2).bind fun q5 => if q5.1 = (0 : Int32) then (some ((0 : Int32), q5.2)) else (some ((1 : Int32), q5.2)))) else if (M h0 0) = (1 : Int32) then ((fd_29 (M h0 1) M).bind fun q9 => if q9.1 = (0 : Int32) then (some ((0 : Int32), q9.2)) else ((fd_29 (q9.2 h0 2) q9.2).bind fun q12 => if q12.1 = (0 : Int32) then (some ((0 : Int32), q12.2)) else (some ((1 : Int32), q12.2)))) else if (M h0 0) = (2 : Int32) then ((fd_29 (M h0 1) M).bind fun q16 => if q16.1 = (0 : Int32) then (some ((0 : Int32), q16.2)) else ((fd_29 (q16.2 h0 2) q16.2).bind fun q19 => if q19.1 = (0 : Int32) then (some ((0 : Int32), q19.2)) else (some ((1 : Int32), q19.2)))) else if (M h0 0) = (3 : Int32) then ((fd_29 (M h0 1) M).bind fun q23 => if q23.1 = (0 : Int32) then (some ((0 : Int32), q23.2)) else ((fd_30 (q23.2 h0 2) q23.2).bind fun q26 => if q26.1 = (0 : Int32) then (some ((0 : Int32), q26.2)) else ((fd_31 (q26.2 h0 3) q26.2).bind fun q29 => if q29.1 = (0 : Int32) then (some ((0 : Int32), q29.2)) else (some ((1 : Int32), q29.2))))) else if (M h0 0) = (4 : Int32) then ((fd_30 (M h0 2) M).bind fun q33 => if q33.1 = (0 : Int32) then (some ((0 : Int32), q33.2)) else ((fd_31 (q33.2 h0 3) q33.2).bind fun q36 => if q36.1 = (0 : Int32) then (some ((0 : Int32), q36.2)) else ((fd_29 (q36.2 h0 4) q36.2).bind fun q39 => if q39.1 = (0 : Int32) then (some ((0 : Int32), q39.2)) else (some ((1 : Int32), q39.2))))) else if (M h0 0) = (5 : Int32) then ((fd_29 (M h0 1) M).bind fun q43 => if q43.1 = (0 : Int32) then (some ((0 : Int32), q43.2)) else ((fd_30 (q43.2 h0 2) q43.2).bind fun q46 => if q46.1 = (0 : Int32) then (some ((0 : Int32), q46.2)) else ((fd_31 (q46.2 h0 3) q46.2).bind fun q49 => if q49.1 = (0 : Int32) then (some ((0 : Int32), q49.2)) else ((fd_29 (q49.2 h0 4) q49.2).bind fun q52 => if q52.1 = (0 : Int32) then (some ((0 : Int32), q52.2)) else (some ((1 : Int32), q52.2)))))) else if (M h0 0) = (6 : Int32) then ((fd_29 (M h0 2) M).bind fun q56 => if am_fit .boolean q56.1 = true then some (q56.1, q56.2) else none) else if (M h0 0) = (7 : Int32) then ((fd_29 (M h0 2) M).bind fun q60 => if am_fit .boolean q60.1 = true then some (q60.1, q60.2) else none) else if (M h0 0) = (8 : Int32) then (if (M h0 1) < (0 : Int32) then (some ((0 : Int32), M)) else (if (4 : Int32) ≤ (M h0 1) then (some ((0 : Int32), M)) else (if (M h0 2) < (0 : Int32) then (some ((0 : Int32), M)) else (if a1 ≤ (M h0 2) then (some ((0 : Int32), M)) else ((fd_29 (M h0 4) M).bind fun q68 => if q68.1 = (0 : Int32) then (some ((0 : Int32), q68.2)) else (some ((1 : Int32), q68.2))))))) else if (M h0 0) = (9 : Int32) then (some ((1 : Int32), M)) else if (M h0 0) = (10 : Int32) then ((fd_29 (M h0 1) M).bind fun q73 => if q73.1 = (0 : Int32) then (some ((0 : Int32), q73.2)) else ((fd_29 (q73.2 h0 2) q73.2).bind fun q76 => if q76.1 = (0 : Int32) then (some ((0 : Int32), q76.2)) else (some ((1 : Int32), q76.2)))) else (some ((0 : Int32), M))
def fd_33_26 (M : am_M) : Option (Int32 × am_M) := some ((1 : Int32), M)
def fd_33_17 (h0 : Nat) (M : am_M) : Option (Int32 × am_M) := if (M h0 0) = (10 : Int32) then (fd_33_26 M) else (some ((0 : Int32), M))
def fd_33 (h0 : Nat) (M : am_M) : Option (Int32 × am_M) := if (M h0 0) < (1 : Int32) then (fd_33_17 h0 M) else (if (M h0 0) ≤ (7 : Int32) then (fd_33_26 M) else (fd_33_17 h0 M))
def fd_34_25 (M : am_M) : Option (Int32 × am_M) := some ((1 : Int32), M)
def fd_34 (h0 : Nat) (M : am_M) : Option (Int32 × am_M) := if (M h0 0) = (4 : Int32) then (fd_34_25 M) else (if (M h0 0) = (5 : Int32) then (fd_34_25 M) else (if (M h0 0) = (8 : Int32) then (fd_34_25 M) else (some ((0 : Int32), M))))
def fd_35 (a1 : Int32) (M : am_M) : Option (Int32 × am_M) := if a1 < 0 ∨ 7 ≤ a1.toNatClampNeg then none else if (M 4 a1.toNatClampNeg) = (-1 : Int32) then (some ((1 : Int32), M)) else (some ((0 : Int32), M))
def fd_36 (a0 : Int32) (M : am_M) : Option (Int32 × am_M) := (fd_17 a0 (31 : Int32) M).bind fun q1 => if am_fit .boolean q1.1 = true then some (q1.1, q1.2) else none
def fd_37 (a0 : Int32) (M : am_M) : Option (Int32 × am_M) := (fd_17 a0 (7 : Int32) M).bind fun q1 => if am_fit .boolean q1.1 = true then some (q1.1, q1.2) else none
def fd_38 (a0 : Int32) (M : am_M) : Option (Int32 × am_M) := if a0 < 0 ∨ 6 ≤ a0.toNatClampNeg then none else some ((tb_a0.getD a0.toNatClampNeg 0), M)
def fd_40 (a0 : Int32) (a1 : Int32) (M : am_M) : Option (Int32 × am_M) := if a1 < 0 ∨ 3 ≤ a1.toNatClampNeg then none else (fd_17 a0 (tb_a1.getD a1.toNatClampNeg 0) M).bind fun q2 => if am_fit .boolean q2.1 = true then some (q2.1, q2.2) else none
def fd_41 (a0 : Int32) (a1 : Int32) (M : am_M) : Option (Int32 × am_M) := if a0 < 0 ∨ 6 ≤ a0.toNatClampNeg then none else (fd_17 a1 (tb_a2.getD a0.toNatClampNeg 0) M).bind fun q2 => if am_fit .boolean q2.1 = true then some (q2.1, q2.2) else none
def fd_39 (h1 : Nat) (a2 : Int32) (M : am_M) : Option (Int32 × am_M) := if (M h1 2) < 0 ∨ 7 ≤ (M h1 2).toNatClampNeg then none else (fd_37 (M 4 (M h1 2).toNatClampNeg) M).bind fun q2 => if q2.1 = (0 : Int32) then (some ((7 : Int32), q2.2)) else ((fd_40 a2 (M 4 (M h1 2).toNatClampNeg) q2.2).bind fun q5 => if q5.1 = (0 : Int32) then (some ((8 : Int32), q5.2)) else ((fd_41 a2 (q5.2 h1 3) q5.2).bind fun q8 => if q8.1 = (0 : Int32) then (some ((9 : Int32), q8.2)) else (some ((0 : Int32), q8.2))))
def fd_32_135 (h1 : Nat) (M : am_M) : Option (Int32 × am_M) := if (M h1 0) = (3 : Int32) then (if (M h1 2) < 0 ∨ 7 ≤ (M h1 2).toNatClampNeg then none else (fd_36 (M 4 (M h1 2).toNatClampNeg) M).bind fun q3 => if q3.1 = (0 : Int32) then (some ((7 : Int32), q3.2)) else (some ((0 : Int32), q3.2))) else if (M h1 0) = (4 : Int32) then (if (M h1 4) < 0 ∨ 7 ≤ (M h1 4).toNatClampNeg then none else (fd_38 (M 4 (M h1 4).toNatClampNeg) M).bind fun q8 => (fd_39 h1 q8.1 q8.2).bind fun q10 => some (q10.1, q10.2)) else if (M h1 0) = (5 : Int32) then (if (M h1 4) < 0 ∨ 7 ≤ (M h1 4).toNatClampNeg then none else (fd_39 h1 (M 4 (M h1 4).toNatClampNeg) M).bind fun q14 => some (q14.1, q14.2)) else if (M h1 0) = (6 : Int32) then (if (M h1 2) < 0 ∨ 7 ≤ (M h1 2).toNatClampNeg then none else (fd_37 (M 4 (M h1 2).toNatClampNeg) M).bind fun q18 => if q18.1 = (0 : Int32) then (some ((7 : Int32), q18.2)) else (some ((0 : Int32), q18.2))) else if (M h1 0) = (7 : Int32) then (if (M h1 2) < 0 ∨ 7 ≤ (M h1 2).toNatClampNeg then none else (fd_36 (M 4 (M h1 2).toNatClampNeg) M).bind fun q23 => if q23.1 = (0 : Int32) then (some ((7 : Int32), q23.2)) else (some ((0 : Int32), q23.2))) else (some ((0 : Int32), M))
def fd_32_113 (h1 : Nat) (M : am_M) : Option (Int32 × am_M) := if (M h1 0) = (5 : Int32) then (if (M h1 2) = (M h1 4) then (some ((6 : Int32), M)) else (fd_32_135 h1 M)) else (fd_32_135 h1 M)
def fd_32_92 (h1 : Nat) (M : am_M) : Option (Int32 × am_M) := (fd_34 h1 M).bind fun q1 => if q1.1 = (0 : Int32) then (fd_32_113 h1 q1.2) else ((fd_35 (q1.2 h1 4) q1.2).bind fun q4 => if q4.1 = (0 : Int32) then (fd_32_113 h1 q4.2) else (some ((6 : Int32), q4.2)))
def fd_32_74 (h1 : Nat) (M : am_M) : Option (Int32 × am_M) := (fd_33 h1 M).bind fun q1 => if q1.1 = (0 : Int32) then (fd_32_92 h1 q1.2) else ((fd_35 (q1.2 h1 2) q1.2).bind fun q4 => if q4.1 = (0 : Int32) then (fd_32_92 h1 q4.2) else (some ((6 : Int32), q4.2)))
def fd_32_53 (h1 : Nat) (M : am_M) : Option (Int32 × am_M) := (fd_34 h1 M).bind fun q1 => if q1.1 = (0 : Int32) then (fd_32_74 h1 q1.2) else (if (q1.2 h1 4) < 0 ∨ 7 ≤ (q1.2 h1 4).toNatClampNeg then none else if (q1.2 5 (q1.2 h1 4).toNatClampNeg) = (0 : Int32) then (fd_32_74 h1 q1.2) else (some ((5 : Int32), q1.2)))
def fd_32_34 (h1 : Nat) (M : am_M) : Option (Int32 × am_M) := (fd_33 h1 M).bind fun q1 => if q1.1 = (0 : Int32) then (fd_32_53 h1 q1.2) else (if (q1.2 h1 2) < 0 ∨ 7 ≤ (q1.2 h1 2).toNatClampNeg then none else if (q1.2 5 (q1.2 h1 2).toNatClampNeg) = (0 : Int32) then (fd_32_53 h1 q1.2) else (some ((5 : Int32), q1.2)))
def fd_32_16 (h1 : Nat) (M : am_M) : Option (Int32 × am_M) := if (M h1 0) = (10 : Int32) then (if (M 3 3) = (0 : Int32) then (some ((4 : Int32), M)) else (fd_32_34 h1 M)) else (fd_32_34 h1 M)
def fd_32 (h1 : Nat) (M : am_M) : Option (Int32 × am_M) := if (M h1 0) = (9 : Int32) then (if (M 3 3) = (0 : Int32) then (fd_32_16 h1 M) else (some ((4 : Int32), M))) else (fd_32_16 h1 M)
def fd_42 (a1 : Int32) (M : am_M) : Option (Int32 × am_M) := if a1 < 0 ∨ 7 ≤ a1.toNatClampNeg then none else some ((M 4 a1.toNatClampNeg), M)
def fd_44 (h0 : Nat) (M : am_M) : Option (Int32 × am_M) := some ((M h0 1), M)
def fd_43 (a1 : Int32) (M : am_M) : Option (Int32 × am_M) := if a1 < 0 ∨ 6 ≤ a1.toNatClampNeg then none else (fd_44 (7 + 12 * a1.toNatClampNeg) M).bind fun q3 => some (q3.1, q3.2)
def fd_27 (h1 : Nat) (M : am_M) : Option (Int32 × am_M) := (fd_28 h1 (M 1 2) M).bind fun q1 => if q1.1 = (0 : Int32) then (some ((3 : Int32), q1.2)) else ((fd_32 h1 q1.2).bind fun q4 => if q4.1 = (0 : Int32) then (if (q4.2 h1 0) = (8 : Int32) then ((fd_42 (q4.2 h1 4) q4.2).bind fun q8 => (fd_43 (q8.2 h1 2) q8.2).bind fun q10 => (fd_41 q8.1 q10.1 q10.2).bind fun q12 => if q12.1 = (0 : Int32) then (some ((9 : Int32), q12.2)) else (some ((0 : Int32), q12.2))) else (some (q4.1, q4.2))) else (some (q4.1, q4.2)))
def fd_46 (a1 : Int32) (a2 : Int32) (M : am_M) : Option (am_M) := if a1 < 0 ∨ 7 ≤ a1.toNatClampNeg then none else if a1 < 0 ∨ 7 ≤ a1.toNatClampNeg then none else if a1 < 0 ∨ 6 ≤ a1.toNatClampNeg then none else some (ds_w (ds_w (ds_w M 4 a1.toNatClampNeg a2) 5 a1.toNatClampNeg ((0 : Int32) &&& 1)) 6 a1.toNatClampNeg ((M 3 3) &&& 1))
def fd_47 (a1 : Int32) (M : am_M) : Option (Int32 × am_M) := if a1 < 0 ∨ 7 ≤ a1.toNatClampNeg then none else if a1 < 0 ∨ 7 ≤ a1.toNatClampNeg then none else some ((M 4 a1.toNatClampNeg), (ds_w M 4 a1.toNatClampNeg (-1 : Int32)))
def fd_48 (a0 : Int32) (a1 : Int32) (M : am_M) : Option (Int32 × am_M) := if ((a0 * (6 : Int32)) + a1) < 0 ∨ 30 ≤ ((a0 * (6 : Int32)) + a1).toNatClampNeg then none else some ((tb_a3.getD ((a0 * (6 : Int32)) + a1).toNatClampNeg 0), M)
def fd_49 (a0 : Int32) (a1 : Int32) (M : am_M) : Option (Int32 × am_M) := if ((a0 * (6 : Int32)) + a1) < 0 ∨ 18 ≤ ((a0 * (6 : Int32)) + a1).toNatClampNeg then none else some ((tb_a4.getD ((a0 * (6 : Int32)) + a1).toNatClampNeg 0), M)
def fd_50_43 (k7 : Int32 → am_M → Option (am_M)) (x1 : Int32) (y1 : Int32) (y2 : Int32) (M : am_M) : Option (am_M) := if y1 < 0 ∨ 7 ≤ y1.toNatClampNeg then none else k7 (x1 + (1 : Int32)) (ds_w M 5 y1.toNatClampNeg (y2 &&& 1))
def fd_50_42 (k7 : Int32 → am_M → Option (am_M)) (x1 : Int32) (y1 : Int32) (M : am_M) : Option (am_M) := fd_50_43 k7 x1 y1 (0 : Int32) M
def fd_50_7 (f : Nat) : Int32 → am_M → Option (am_M) := Nat.rec (motive := fun _ => Int32 → am_M → Option (am_M)) (fun _ _ => none) (fun _ k7 => fun x1 M => if (6 : Int32) ≤ x1 then (if (6 : Int32) < 0 ∨ 7 ≤ (6 : Int32).toNatClampNeg then none else some (ds_w M 5 (6 : Int32).toNatClampNeg ((1 : Int32) &&& 1))) else ((fd_35 x1 M).bind fun q3 => if q3.1 = (0 : Int32) then (if x1 < 0 ∨ 7 ≤ x1.toNatClampNeg then none else (fd_16 (q3.2 4 x1.toNatClampNeg) q3.2).bind fun q7 => if q7.1 = (0 : Int32) then (fd_50_43 k7 x1 x1 (1 : Int32) q7.2) else (fd_50_42 k7 x1 x1 q7.2)) else (fd_50_42 k7 x1 x1 q3.2))) f
def fd_50 (M : am_M) : Option (am_M) := fd_50_7 1000 (0 : Int32) (ds_w M 3 3 (1 : Int32))
def fd_52 (a0 : Int32) (M : am_M) : Option (Int32 × am_M) := if a0 < 0 ∨ 6 ≤ a0.toNatClampNeg then none else some ((tb_a5.getD a0.toNatClampNeg 0), M)
def fd_51_36 (k12 : Int32 → Int32 → Int32 → am_M → Option (am_M)) (x1 : Int32) (x3 : Int32) (x4 : Int32) (M : am_M) : Option (am_M) := k12 x1 x3 (x4 + (1 : Int32)) M
def fd_51_12 (f : Nat) : Int32 → Int32 → Int32 → am_M → Option (am_M) := Nat.rec (motive := fun _ => Int32 → Int32 → Int32 → am_M → Option (am_M)) (fun _ _ _ _ => none) (fun _ k12 => fun x1 x3 x4 M => if (6 : Int32) ≤ x4 then ((fd_20 M).bind fun q2 => (fd_46 x1 x3 q2).bind fun q4 => some q4) else (if x4 < 0 ∨ 6 ≤ x4.toNatClampNeg then none else if (M 6 x4.toNatClampNeg) = (0 : Int32) then (fd_51_36 k12 x1 x3 x4 M) else ((fd_47 x4 M).bind fun q8 => fd_51_36 k12 x1 x3 x4 q8.2))) f
def fd_51 (a1 : Int32) (a2 : Int32) (M : am_M) : Option (am_M) := (fd_47 a2 M).bind fun q1 => (fd_52 q1.1 q1.2).bind fun q3 => fd_51_12 1000 a1 q3.1 (0 : Int32) q3.2
def fd_45 (h1 : Nat) (M : am_M) : Option (am_M) := if (M h1 0) = (0 : Int32) then ((fd_46 (M h1 1) (M h1 3) M).bind fun q2 => some q2) else if (M h1 0) = (1 : Int32) then (if (M h1 2) < 0 ∨ 7 ≤ (M h1 2).toNatClampNeg then none else (fd_38 (M 4 (M h1 2).toNatClampNeg) M).bind fun q6 => (fd_46 (M h1 1) q6.1 q6.2).bind fun q8 => some q8) else if (M h1 0) = (2 : Int32) then ((fd_47 (M h1 2) M).bind fun q11 => (fd_46 (M h1 1) q11.1 q11.2).bind fun q13 => some q13) else if (M h1 0) = (3 : Int32) then (if (M h1 2) < 0 ∨ 7 ≤ (M h1 2).toNatClampNeg then none else (fd_48 (M 4 (M h1 2).toNatClampNeg) (M h1 3) M).bind fun q17 => (fd_38 q17.1 q17.2).bind fun q19 => (fd_46 (M h1 1) q19.1 q19.2).bind fun q21 => some q21) else if (M h1 0) = (4 : Int32) then (some M) else if (M h1 0) = (5 : Int32) then ((fd_47 (M h1 4) M).bind fun q25 => if (q25.2 h1 2) < 0 ∨ 7 ≤ (q25.2 h1 2).toNatClampNeg then none else (fd_49 (q25.2 4 (q25.2 h1 2).toNatClampNeg) (q25.2 h1 3) q25.2).bind fun q28 => (fd_46 (q25.2 h1 1) q28.1 q28.2).bind fun q30 => some q30) else if (M h1 0) = (6 : Int32) then (some M) else if (M h1 0) = (7 : Int32) then (some M) else if (M h1 0) = (8 : Int32) then ((fd_47 (M h1 4) M).bind fun q35 => some q35.2) else if (M h1 0) = (9 : Int32) then ((fd_50 M).bind fun q38 => some q38) else if (M h1 0) = (10 : Int32) then ((fd_51 (M h1 1) (M h1 2) M).bind fun q41 => some q41) else (some M)
def fd_53 (h0 : Nat) (M : am_M) : Option (am_M) := some (ds_w M h0 2 ((M h0 2) + (1 : Int32)))
def fd_22 (a1 : Int32) (a2 : Int32) (a3 : Int32) (a4 : Int32) (a5 : Int32) (M : am_M) : Option (Int32 × am_M) := if (M 1 3) = (0 : Int32) then (some ((1 : Int32), M)) else (if ((M 1 2) - (1 : Int32)) < 0 ∨ 6 ≤ ((M 1 2) - (1 : Int32)).toNatClampNeg then none else (fd_23 (7 + 12 * ((M 1 2) - (1 : Int32)).toNatClampNeg) M).bind fun q4 => if q4.1 = (0 : Int32) then ((fd_24 (7 + 12 * ((M 1 2) - (1 : Int32)).toNatClampNeg) q4.2).bind fun q7 => (fd_25 (7 + 12 * ((M 1 2) - (1 : Int32)).toNatClampNeg) q7.1 q7.2).bind fun q9 => (fd_26 q9.1 a1 a2 a3 a4 a5 q9.2).bind fun q11 => (fd_27 q9.1 q11).bind fun q13 => if q13.1 = (0 : Int32) then ((fd_45 q9.1 q13.2).bind fun q16 => (fd_53 (7 + 12 * ((M 1 2) - (1 : Int32)).toNatClampNeg) q16).bind fun q18 => some (q13.1, q18)) else (some (q13.1, q13.2))) else (some ((2 : Int32), q4.2)))
def fd_21 (a1 : Int32) (a2 : Int32) (a3 : Int32) (a4 : Int32) (a5 : Int32) (M : am_M) : Option (Int32 × am_M) := (fd_22 a1 a2 a3 a4 a5 M).bind fun q1 => some (q1.1, q1.2)
def fd_56 (M : am_M) : Option (Int32 × am_M) := if am_fit .boolean (M 3 3) = true then some ((M 3 3), M) else none
def fd_55 (M : am_M) : Option (Int32 × am_M) := if (M 1 3) = (0 : Int32) then (some ((0 : Int32), M)) else ((fd_56 M).bind fun q2 => if q2.1 = (0 : Int32) then (some ((1 : Int32), (ds_w q2.2 1 3 (0 : Int32)))) else (some ((0 : Int32), q2.2)))
def fd_54 (M : am_M) : Option (Int32 × am_M) := (fd_55 M).bind fun q1 => if am_fit .boolean q1.1 = true then some (q1.1, q1.2) else none
def fd_58 (M : am_M) : Option (Int32 × am_M) := if (M 1 3) = (0 : Int32) then (some ((0 : Int32), M)) else (some ((1 : Int32), (ds_w (ds_w M 1 3 (0 : Int32)) 1 2 (((ds_w M 1 3 (0 : Int32)) 1 2) - (1 : Int32)))))
def fd_57 (M : am_M) : Option (Int32 × am_M) := (fd_58 M).bind fun q1 => if am_fit .boolean q1.1 = true then some (q1.1, q1.2) else none
def fd_61 (a1 : Int32) (M : am_M) : Option (Int32 × am_M) := if a1 < 0 ∨ 7 ≤ a1.toNatClampNeg then none else if am_fit .boolean (M 5 a1.toNatClampNeg) = true then some ((M 5 a1.toNatClampNeg), M) else none
def fd_60 (a1 : Int32) (M : am_M) : Option (Int32 × am_M) := if (M 1 3) = (0 : Int32) then (some ((-1 : Int32), M)) else ((fd_29 a1 M).bind fun q2 => if q2.1 = (0 : Int32) then (some ((-1 : Int32), q2.2)) else ((fd_61 a1 q2.2).bind fun q5 => if q5.1 = (0 : Int32) then ((fd_42 a1 q5.2).bind fun q8 => some (q8.1, q8.2)) else (some ((-2 : Int32), q5.2))))
def fd_59 (a1 : Int32) (M : am_M) : Option (Int32 × am_M) := (fd_60 a1 M).bind fun q1 => some (q1.1, q1.2)
def fd_63 (a1 : Int32) (M : am_M) : Option (Int32 × am_M) := if a1 < (0 : Int32) then (some ((0 : Int32), M)) else (if (M 0 0) ≤ a1 then (some ((0 : Int32), M)) else (some ((1 : Int32), M)))
def fd_64_25 (y0 : Int32) (y1 : Int32) (M : am_M) : Option (Int32 × am_M) := if y1 ≤ y0 then (some ((0 : Int32), M)) else (some ((1 : Int32), M))
def fd_64 (a1 : Int32) (M : am_M) : Option (Int32 × am_M) := if a1 < (0 : Int32) then (some ((0 : Int32), M)) else (if (M 1 3) = (0 : Int32) then (fd_64_25 a1 (M 1 2) M) else (fd_64_25 a1 ((M 1 2) - (1 : Int32)) M))
def fd_65 (M : am_M) : Option (Int32 × am_M) := some (((20 : Int32) - (M 84 4)), M)
def fd_66 (a1 : Int32) (a2 : Int32) (a3 : Int32) (a4 : Int32) (M : am_M) : Option (am_M) := if (M 84 4) < 0 ∨ 20 ≤ (M 84 4).toNatClampNeg then none else if (M 84 4) < 0 ∨ 20 ≤ (M 84 4).toNatClampNeg then none else if (M 84 4) < 0 ∨ 20 ≤ (M 84 4).toNatClampNeg then none else if (M 84 4) < 0 ∨ 20 ≤ (M 84 4).toNatClampNeg then none else some (ds_w (ds_w (ds_w (ds_w (ds_w M 85 (M 84 4).toNatClampNeg a1) 86 (M 84 4).toNatClampNeg a2) 87 (M 84 4).toNatClampNeg a3) 88 (M 84 4).toNatClampNeg a4) 84 4 ((M 84 4) + (1 : Int32)))
def fd_62 (a1 : Int32) (a2 : Int32) (M : am_M) : Option (Int32 × am_M) := (fd_63 a1 M).bind fun q1 => if q1.1 = (0 : Int32) then (some ((0 : Int32), q1.2)) else ((fd_64 a2 q1.2).bind fun q4 => if q4.1 = (0 : Int32) then (some ((0 : Int32), q4.2)) else ((fd_65 q4.2).bind fun q7 => if (1 : Int32) ≤ q7.1 then ((fd_66 (0 : Int32) a1 (-1 : Int32) a2 q7.2).bind fun q10 => some ((1 : Int32), q10)) else (some ((0 : Int32), q7.2))))
def fd_69_2 (f : Nat) : Int32 → Int32 → am_M → Option (Int32 × am_M) := Nat.rec (motive := fun _ => Int32 → Int32 → am_M → Option (Int32 × am_M)) (fun _ _ _ => none) (fun _ k2 => fun x1 x2 M => if (M 84 4) ≤ x2 then (some ((-1 : Int32), M)) else (if x2 < 0 ∨ 20 ≤ x2.toNatClampNeg then none else if (M 86 x2.toNatClampNeg) = x1 then (some (x2, M)) else (k2 x1 (x2 + (1 : Int32)) M))) f
def fd_69 (a1 : Int32) (M : am_M) : Option (Int32 × am_M) := fd_69_2 1000 a1 (0 : Int32) M
def fd_70 (a1 : Int32) (M : am_M) : Option (Int32 × am_M) := if a1 < 0 ∨ 20 ≤ a1.toNatClampNeg then none else some ((M 85 a1.toNatClampNeg), M)
def fd_71 (a1 : Int32) (M : am_M) : Option (Int32 × am_M) := if a1 < 0 ∨ 20 ≤ a1.toNatClampNeg then none else some ((M 87 a1.toNatClampNeg), M)
def fd_72 (a1 : Int32) (M : am_M) : Option (Int32 × am_M) := if a1 < 0 ∨ 20 ≤ a1.toNatClampNeg then none else some ((M 88 a1.toNatClampNeg), M)
def fd_73 (a1 : Int32) (M : am_M) : Option (am_M) := if (a1 + (1 : Int32)) < 0 ∨ a1 < 0 ∨ (((ds_w M 84 4 ((M 84 4) - (1 : Int32))) 84 4) - a1) < 0 ∨ 20 < (a1 + (1 : Int32)).toNatClampNeg + (((ds_w M 84 4 ((M 84 4) - (1 : Int32))) 84 4) - a1).toNatClampNeg ∨ 20 < a1.toNatClampNeg + (((ds_w M 84 4 ((M 84 4) - (1 : Int32))) 84 4) - a1).toNatClampNeg then none else if (a1 + (1 : Int32)) < 0 ∨ a1 < 0 ∨ (((ds_c (ds_w M 84 4 ((M 84 4) - (1 : Int32))) 85 85 (a1 + (1 : Int32)).toNatClampNeg a1.toNatClampNeg (((ds_w M 84 4 ((M 84 4) - (1 : Int32))) 84 4) - a1).toNatClampNeg) 84 4) - a1) < 0 ∨ 20 < (a1 + (1 : Int32)).toNatClampNeg + (((ds_c (ds_w M 84 4 ((M 84 4) - (1 : Int32))) 85 85 (a1 + (1 : Int32)).toNatClampNeg a1.toNatClampNeg (((ds_w M 84 4 ((M 84 4) - (1 : Int32))) 84 4) - a1).toNatClampNeg) 84 4) - a1).toNatClampNeg ∨ 20 < a1.toNatClampNeg + (((ds_c (ds_w M 84 4 ((M 84 4) - (1 : Int32))) 85 85 (a1 + (1 : Int32)).toNatClampNeg a1.toNatClampNeg (((ds_w M 84 4 ((M 84 4) - (1 : Int32))) 84 4) - a1).toNatClampNeg) 84 4) - a1).toNatClampNeg then none else if (a1 + (1 : Int32)) < 0 ∨ a1 < 0 ∨ (((ds_c (ds_c (ds_w M 84 4 ((M 84 4) - (1 : Int32))) 85 85 (a1 + (1 : Int32)).toNatClampNeg a1.toNatClampNeg (((ds_w M 84 4 ((M 84 4) - (1 : Int32))) 84 4) - a1).toNatClampNeg) 86 86 (a1 + (1 : Int32)).toNatClampNeg a1.toNatClampNeg (((ds_c (ds_w M 84 4 ((M 84 4) - (1 : Int32))) 85 85 (a1 + (1 : Int32)).toNatClampNeg a1.toNatClampNeg (((ds_w M 84 4 ((M 84 4) - (1 : Int32))) 84 4) - a1).toNatClampNeg) 84 4) - a1).toNatClampNeg) 84 4) - a1) < 0 ∨ 20 < (a1 + (1 : Int32)).toNatClampNeg + (((ds_c (ds_c (ds_w M 84 4 ((M 84 4) - (1 : Int32))) 85 85 (a1 + (1 : Int32)).toNatClampNeg a1.toNatClampNeg (((ds_w M 84 4 ((M 84 4) - (1 : Int32))) 84 4) - a1).toNatClampNeg) 86 86 (a1 + (1 : Int32)).toNatClampNeg a1.toNatClampNeg (((ds_c (ds_w M 84 4 ((M 84 4) - (1 : Int32))) 85 85 (a1 + (1 : Int32)).toNatClampNeg a1.toNatClampNeg (((ds_w M 84 4 ((M 84 4) - (1 : Int32))) 84 4) - a1).toNatClampNeg) 84 4) - a1).toNatClampNeg) 84 4) - a1).toNatClampNeg ∨ 20 < a1.toNatClampNeg + (((ds_c (ds_c (ds_w M 84 4 ((M 84 4) - (1 : Int32))) 85 85 (a1 + (1 : Int32)).toNatClampNeg a1.toNatClampNeg (((ds_w M 84 4 ((M 84 4) - (1 : Int32))) 84 4) - a1).toNatClampNeg) 86 86 (a1 + (1 : Int32)).toNatClampNeg a1.toNatClampNeg (((ds_c (ds_w M 84 4 ((M 84 4) - (1 : Int32))) 85 85 (a1 + (1 : Int32)).toNatClampNeg a1.toNatClampNeg (((ds_w M 84 4 ((M 84 4) - (1 : Int32))) 84 4) - a1).toNatClampNeg) 84 4) - a1).toNatClampNeg) 84 4) - a1).toNatClampNeg then none else if (a1 + (1 : Int32)) < 0 ∨ a1 < 0 ∨ (((ds_c (ds_c (ds_c (ds_w M 84 4 ((M 84 4) - (1 : Int32))) 85 85 (a1 + (1 : Int32)).toNatClampNeg a1.toNatClampNeg (((ds_w M 84 4 ((M 84 4) - (1 : Int32))) 84 4) - a1).toNatClampNeg) 86 86 (a1 + (1 : Int32)).toNatClampNeg a1.toNatClampNeg (((ds_c (ds_w M 84 4 ((M 84 4) - (1 : Int32))) 85 85 (a1 + (1 : Int32)).toNatClampNeg a1.toNatClampNeg (((ds_w M 84 4 ((M 84 4) - (1 : Int32))) 84 4) - a1).toNatClampNeg) 84 4) - a1).toNatClampNeg) 87 87 (a1 + (1 : Int32)).toNatClampNeg a1.toNatClampNeg (((ds_c (ds_c (ds_w M 84 4 ((M 84 4) - (1 : Int32))) 85 85 (a1 + (1 : Int32)).toNatClampNeg a1.toNatClampNeg (((ds_w M 84 4 ((M 84 4) - (1 : Int32))) 84 4) - a1).toNatClampNeg) 86 86 (a1 + (1 : Int32)).toNatClampNeg a1.toNatClampNeg (((ds_c (ds_w M 84 4 ((M 84 4) - (1 : Int32))) 85 85 (a1 + (1 : Int32)).toNatClampNeg a1.toNatClampNeg (((ds_w M 84 4 ((M 84 4) - (1 : Int32))) 84 4) - a1).toNatClampNeg) 84 4) - a1).toNatClampNeg) 84 4) - a1).toNatClampNeg) 84 4) - a1) < 0 ∨ 20 < (a1 + (1 : Int32)).toNatClampNeg + (((ds_c (ds_c (ds_c (ds_w M 84 4 ((M 84 4) - (1 : Int32))) 85 85 (a1 + (1 : Int32)).toNatClampNeg a1.toNatClampNeg (((ds_w M 84 4 ((M 84 4) - (1 : Int32))) 84 4) - a1).toNatClampNeg) 86 86 (a1 + (1 : Int32)).toNatClampNeg a1.toNatClampNeg (((ds_c (ds_w M 84 4 ((M 84 4) - (1 : Int32))) 85 85 (a1 + (1 : Int32)).toNatClampNeg a1.toNatClampNeg (((ds_w M 84 4 ((M 84 4) - (1 : Int32))) 84 4) - a1).toNatClampNeg) 84 4) - a1).toNatClampNeg) 87 87 (a1 + (1 : Int32)).toNatClampNeg a1.toNatClampNeg (((ds_c (ds_c (ds_w M 84 4 ((M 84 4) - (1 : Int32))) 85 85 (a1 + (1 : Int32)).toNatClampNeg a1.toNatClampNeg (((ds_w M 84 4 ((M 84 4) - (1 : Int32))) 84 4) - a1).toNatClampNeg) 86 86 (a1 + (1 : Int32)).toNatClampNeg a1.toNatClampNeg (((ds_c (ds_w M 84 4 ((M 84 4) - (1 : Int32))) 85 85 (a1 + (1 : Int32)).toNatClampNeg a1.toNatClampNeg (((ds_w M 84 4 ((M 84 4) - (1 : Int32))) 84 4) - a1).toNatClampNeg) 84 4) - a1).toNatClampNeg) 84 4) - a1).toNatClampNeg) 84 4) - a1).toNatClampNeg ∨ 20 < a1.toNatClampNeg + (((ds_c (ds_c (ds_c (ds_w M 84 4 ((M 84 4) - (1 : Int32))) 85 85 (a1 + (1 : Int32)).toNatClampNeg a1.toNatClampNeg (((ds_w M 84 4 ((M 84 4) - (1 : Int32))) 84 4) - a1).toNatClampNeg) 86 86 (a1 + (1 : Int32)).toNatClampNeg a1.toNatClampNeg (((ds_c (ds_w M 84 4 ((M 84 4) - (1 : Int32))) 85 85 (a1 + (1 : Int32)).toNatClampNeg a1.toNatClampNeg (((ds_w M 84 4 ((M 84 4) - (1 : Int32))) 84 4) - a1).toNatClampNeg) 84 4) - a1).toNatClampNeg) 87 87 (a1 + (1 : Int32)).toNatClampNeg a1.toNatClampNeg (((ds_c (ds_c (ds_w M 84 4 ((M 84 4) - (1 : Int32))) 85 85 (a1 + (1 : Int32)).toNatClampNeg a1.toNatClampNeg (((ds_w M 84 4 ((M 84 4) - (1 : Int32))) 84 4) - a1).toNatClampNeg) 86 86 (a1 + (1 : Int32)).toNatClampNeg a1.toNatClampNeg (((ds_c (ds_w M 84 4 ((M 84 4) - (1 : Int32))) 85 85 (a1 + (1 : Int32)).toNatClampNeg a1.toNatClampNeg (((ds_w M 84 4 ((M 84 4) - (1 : Int32))) 84 4) - a1).toNatClampNeg) 84 4) - a1).toNatClampNeg) 84 4) - a1).toNatClampNeg) 84 4) - a1).toNatClampNeg then none else some (ds_c (ds_c (ds_c (ds_c (ds_w M 84 4 ((M 84 4) - (1 : Int32))) 85 85 (a1 + (1 : Int32)).toNatClampNeg a1.toNatClampNeg (((ds_w M 84 4 ((M 84 4) - (1 : Int32))) 84 4) - a1).toNatClampNeg) 86 86 (a1 + (1 : Int32)).toNatClampNeg a1.toNatClampNeg (((ds_c (ds_w M 84 4 ((M 84 4) - (1 : Int32))) 85 85 (a1 + (1 : Int32)).toNatClampNeg a1.toNatClampNeg (((ds_w M 84 4 ((M 84 4) - (1 : Int32))) 84 4) - a1).toNatClampNeg) 84 4) - a1).toNatClampNeg) 87 87 (a1 + (1 : Int32)).toNatClampNeg a1.toNatClampNeg (((ds_c (ds_c (ds_w M 84 4 ((M 84 4) - (1 : Int32))) 85 85 (a1 + (1 : Int32)).toNatClampNeg a1.toNatClampNeg (((ds_w M 84 4 ((M 84 4) - (1 : Int32))) 84 4) - a1).toNatClampNeg) 86 86 (a1 + (1 : Int32)).toNatClampNeg a1.toNatClampNeg (((ds_c (ds_w M 84 4 ((M 84 4) - (1 : Int32))) 85 85 (a1 + (1 : Int32)).toNatClampNeg a1.toNatClampNeg (((ds_w M 84 4 ((M 84 4) - (1 : Int32))) 84 4) - a1).toNatClampNeg) 84 4) - a1).toNatClampNeg) 84 4) - a1).toNatClampNeg) 88 88 (a1 + (1 : Int32)).toNatClampNeg a1.toNatClampNeg (((ds_c (ds_c (ds_c (ds_w M 84 4 ((M 84 4) - (1 : Int32))) 85 85 (a1 + (1 : Int32)).toNatClampNeg a1.toNatClampNeg (((ds_w M 84 4 ((M 84 4) - (1 : Int32))) 84 4) - a1).toNatClampNeg) 86 86 (a1 + (1 : Int32)).toNatClampNeg a1.toNatClampNeg (((ds_c (ds_w M 84 4 ((M 84 4) - (1 : Int32))) 85 85 (a1 + (1 : Int32)).toNatClampNeg a1.toNatClampNeg (((ds_w M 84 4 ((M 84 4) - (1 : Int32))) 84 4) - a1).toNatClampNeg) 84 4) - a1).toNatClampNeg) 87 87 (a1 + (1 : Int32)).toNatClampNeg a1.toNatClampNeg (((ds_c (ds_c (ds_w M 84 4 ((M 84 4) - (1 : Int32))) 85 85 (a1 + (1 : Int32)).toNatClampNeg a1.toNatClampNeg (((ds_w M 84 4 ((M 84 4) - (1 : Int32))) 84 4) - a1).toNatClampNeg) 86 86 (a1 + (1 : Int32)).toNatClampNeg a1.toNatClampNeg (((ds_c (ds_w M 84 4 ((M 84 4) - (1 : Int32))) 85 85 (a1 + (1 : Int32)).toNatClampNeg a1.toNatClampNeg (((ds_w M 84 4 ((M 84 4) - (1 : Int32))) 84 4) - a1).toNatClampNeg) 84 4) - a1).toNatClampNeg) 84 4) - a1).toNatClampNeg) 84 4) - a1).toNatClampNeg)
def fd_76 (M : am_M) : Option (am_M) := (fd_7 90 16 (0 : Int32) M).bind fun q1 => some (ds_w q1 89 3 (0 : Int32))
def fd_77 (a1 : Int32) (a2 : Int32) (M : am_M) : Option (am_M) := if a1 = (-1 : Int32) then (some M) else (if a1 < 0 ∨ 16 ≤ a1.toNatClampNeg then none else if ((M 90 a1.toNatClampNeg) &&& ((1 : Int32) <<< (a2 &&& 31))) = (0 : Int32) then (if a1 < 0 ∨ 16 ≤ a1.toNatClampNeg then none else if a1 < 0 ∨ 16 ≤ a1.toNatClampNeg then none else if a2 = (5 : Int32) then (some (ds_w M 90 a1.toNatClampNeg ((M 90 a1.toNatClampNeg) ||| ((1 : Int32) <<< (a2 &&& 31))))) else (if (M 89 3) < 0 ∨ 96 ≤ (M 89 3).toNatClampNeg then none else some (ds_w (ds_w (ds_w M 90 a1.toNatClampNeg ((M 90 a1.toNatClampNeg) ||| ((1 : Int32) <<< (a2 &&& 31)))) 91 (M 89 3).toNatClampNeg ((a1 * (6 : Int32)) + a2)) 89 3 ((M 89 3) + (1 : Int32))))) else (some M))
def fd_75 (a1 : Int32) (a2 : Int32) (M : am_M) : Option (am_M) := (fd_76 M).bind fun q1 => (fd_77 a1 a2 q1).bind fun q3 => some q3
def fd_79 (a1 : Int32) (a2 : Int32) (M : am_M) : Option (Int32 × am_M) := if ((a1 * (6 : Int32)) + a2) < 0 ∨ 120 ≤ ((a1 * (6 : Int32)) + a2).toNatClampNeg then none else some ((M 82 ((a1 * (6 : Int32)) + a2).toNatClampNeg), M)
def fd_78_31 (k2 : Int32 → am_M → Option (am_M)) (f : Nat) : Int32 → Int32 → Int32 → am_M → Option (am_M) := Nat.rec (motive := fun _ => Int32 → Int32 → Int32 → am_M → Option (am_M)) (fun _ _ _ _ => none) (fun _ k31 => fun x1 x2 x3 M => if (6 : Int32) ≤ x3 then (k2 (x1 + (1 : Int32)) M) else ((fd_79 x2 x3 M).bind fun q2 => (fd_77 q2.1 x3 q2.2).bind fun q4 => k31 x1 x2 (x3 + (1 : Int32)) q4)) f
def fd_78_2 (f : Nat) : Int32 → am_M → Option (am_M) := Nat.rec (motive := fun _ => Int32 → am_M → Option (am_M)) (fun _ _ => none) (fun _ k2 => fun x1 M => if (M 89 3) ≤ x1 then (some M) else (if (96 : Int32) ≤ x1 then (some M) else (if x1 < 0 ∨ 96 ≤ x1.toNatClampNeg then none else fd_78_31 k2 1000 x1 ((M 91 x1.toNatClampNeg) / (6 : Int32)) (0 : Int32) M))) f
def fd_78 (M : am_M) : Option (am_M) := fd_78_2 1000 (0 : Int32) M
def fd_80 (a1 : Int32) (M : am_M) : Option (Int32 × am_M) := if a1 < 0 ∨ 16 ≤ a1.toNatClampNeg then none else if (M 90 a1.toNatClampNeg) = (0 : Int32) then (some ((0 : Int32), M)) else (some ((1 : Int32), M))
def fd_81 (a1 : Int32) (M : am_M) : Option (Int32 × am_M) := if a1 < 0 ∨ 16 ≤ a1.toNatClampNeg then none else some ((M 80 a1.toNatClampNeg), M)
def fd_82 (a1 : Int32) (a2 : Int32) (a3 : Int32) (M : am_M) : Option (am_M) := if ((a1 * (16 : Int32)) + a2) < 0 ∨ 64 ≤ ((a1 * (16 : Int32)) + a2).toNatClampNeg then none else if ((a1 * (16 : Int32)) + a2) < 0 ∨ 64 ≤ ((a1 * (16 : Int32)) + a2).toNatClampNeg then none else some (ds_w M 83 ((a1 * (16 : Int32)) + a2).toNatClampNeg ((M 83 ((a1 * (16 : Int32)) + a2).toNatClampNeg) + a3))
def fd_74_73 (k26 : Int32 → Int32 → am_M → Option (am_M)) (x1 : Int32) (x4 : Int32) (M : am_M) : Option (am_M) := k26 x1 (x4 + (1 : Int32)) M
def fd_74_70 (k26 : Int32 → Int32 → am_M → Option (am_M)) (x1 : Int32) (x4 : Int32) (y1 : Int32) (y2 : Int32) (y3 : Int32) (M : am_M) : Option (am_M) := (fd_82 y1 y2 y3 M).bind fun q1 => fd_74_73 k26 x1 x4 q1
def fd_74_26 (f : Nat) : Int32 → Int32 → am_M → Option (am_M) := Nat.rec (motive := fun _ => Int32 → Int32 → am_M → Option (am_M)) (fun _ _ _ => none) (fun _ k26 => fun x1 x4 M => if (16 : Int32) ≤ x4 then (some M) else ((fd_80 x4 M).bind fun q2 => if q2.1 = (0 : Int32) then (fd_74_73 k26 x1 x4 q2.2) else ((fd_81 x4 q2.2).bind fun q5 => if q5.1 = x1 then (fd_74_70 k26 x1 x4 x1 x4 (-1 : Int32) q5.2) else (fd_74_70 k26 x1 x4 x1 x4 (1 : Int32) q5.2)))) f
def fd_74 (a1 : Int32) (a2 : Int32) (a3 : Int32) (M : am_M) : Option (am_M) := (fd_43 a3 M).bind fun q1 => (fd_75 a2 q1.1 q1.2).bind fun q3 => (fd_78 q3).bind fun q5 => fd_74_26 1000 a1 (0 : Int32) q5
def fd_83 (a1 : Int32) (M : am_M) : Option (Nat × am_M) := if a1 < 0 ∨ 6 ≤ a1.toNatClampNeg then none else some ((7 + 12 * a1.toNatClampNeg), M)
def fd_89 (a1 : Int32) (a2 : Int32) (a3 : Int32) (M : am_M) : Option (am_M) := if ((a1 * (6 : Int32)) + a2) < 0 ∨ 120 ≤ ((a1 * (6 : Int32)) + a2).toNatClampNeg then none else some (ds_w M 82 ((a1 * (6 : Int32)) + a2).toNatClampNeg a3)
def fd_88_30 (f : Nat) : Int32 → Int32 → am_M → Option (am_M) := Nat.rec (motive := fun _ => Int32 → Int32 → am_M → Option (am_M)) (fun _ _ _ => none) (fun _ k30 => fun x1 x2 M => if (4 : Int32) ≤ x2 then (some M) else (if ((x2 * (16 : Int32)) + x1) < 0 ∨ 64 ≤ ((x2 * (16 : Int32)) + x1).toNatClampNeg then none else k30 x1 (x2 + (1 : Int32)) (ds_w M 83 ((x2 * (16 : Int32)) + x1).toNatClampNeg (0 : Int32)))) f
def fd_88_9 (f : Nat) : Int32 → Int32 → am_M → Option (am_M) := Nat.rec (motive := fun _ => Int32 → Int32 → am_M → Option (am_M)) (fun _ _ _ => none) (fun _ k9 => fun x1 x2 M => if (6 : Int32) ≤ x2 then (fd_88_30 1000 x1 (0 : Int32) M) else ((fd_89 x1 x2 (-1 : Int32) M).bind fun q2 => k9 x1 (x2 + (1 : Int32)) q2)) f
def fd_88 (a1 : Int32) (M : am_M) : Option (am_M) := if a1 < 0 ∨ 16 ≤ a1.toNatClampNeg then none else fd_88_9 1000 a1 (0 : Int32) (ds_w M 81 a1.toNatClampNeg (0 : Int32))
def fd_87_2 (f : Nat) : Int32 → Int32 → am_M → Option (Int32 × am_M) := Nat.rec (motive := fun _ => Int32 → Int32 → am_M → Option (Int32 × am_M)) (fun _ _ _ => none) (fun _ k2 => fun x1 x2 M => if (16 : Int32) ≤ x2 then (some ((-1 : Int32), M)) else (if x2 < 0 ∨ 16 ≤ x2.toNatClampNeg then none else if (M 80 x2.toNatClampNeg) = (-1 : Int32) then (if x2 < 0 ∨ 16 ≤ x2.toNatClampNeg then none else (fd_88 x2 (ds_w M 80 x2.toNatClampNeg x1)).bind fun q5 => some (x2, q5)) else (k2 x1 (x2 + (1 : Int32)) M))) f
def fd_87 (a1 : Int32) (M : am_M) : Option (Int32 × am_M) := fd_87_2 1000 a1 (0 : Int32) M
def fd_86 (a1 : Int32) (M : am_M) : Option (Int32 × am_M) := (fd_87 a1 M).bind fun q1 => if q1.1 = (-1 : Int32) then (some (q1.1, (ds_w q1.2 94 7 ((q1.2 94 7) + (1 : Int32))))) else (some (q1.1, q1.2))
def fd_91 (a0 : Int32) (M : am_M) : Option (Int32 × am_M) := some (((16 : Int32) + a0), M)
def fd_90 (a1 : Int32) (a2 : Int32) (M : am_M) : Option (Int32 × am_M) := if a2 = (6 : Int32) then ((fd_91 a1 M).bind fun q3 => some (q3.1, q3.2)) else (if a2 < 0 ∨ 6 ≤ a2.toNatClampNeg then none else some ((M 95 a2.toNatClampNeg), M))
def fd_92 (a1 : Int32) (a2 : Int32) (M : am_M) : Option (Int32 × am_M) := if a1 = (-1 : Int32) then (some ((-1 : Int32), M)) else ((fd_79 a1 a2 M).bind fun q2 => some (q2.1, q2.2))
def fd_93 (a1 : Int32) (a2 : Int32) (a3 : Int32) (M : am_M) : Option (Int32 × am_M) := if a1 = (-1 : Int32) then (some ((-1 : Int32), M)) else ((fd_79 a1 a2 M).bind fun q2 => (fd_89 a1 a2 a3 q2.2).bind fun q4 => some (q2.1, q4))
def fd_95 (a1 : Int32) (a2 : Int32) (M : am_M) : Option (am_M) := if a1 < 0 ∨ 16 ≤ a1.toNatClampNeg then none else if a1 < 0 ∨ 16 ≤ a1.toNatClampNeg then none else some (ds_w M 81 a1.toNatClampNeg ((M 81 a1.toNatClampNeg) + a2))
def fd_94 (a1 : Int32) (a2 : Int32) (M : am_M) : Option (am_M) := if a1 = (-1 : Int32) then (some M) else ((fd_95 a1 a2 M).bind fun q2 => some q2)
def fd_97 (a1 : Int32) (M : am_M) : Option (Int32 × am_M) := if a1 < 0 ∨ 16 ≤ a1.toNatClampNeg then none else some ((M 81 a1.toNatClampNeg), M)
def fd_98 (a1 : Int32) (M : am_M) : Option (am_M) := if (M 92 1) < 0 then none else if ((M 92 1) - (M 92 1) / 16 * 16) < 0 ∨ 16 ≤ ((M 92 1) - (M 92 1) / 16 * 16).toNatClampNeg then none else some (ds_w (ds_w M 93 ((M 92 1) - (M 92 1) / 16 * 16).toNatClampNeg a1) 92 1 ((M 92 1) + (1 : Int32)))
def fd_96 (a1 : Int32) (M : am_M) : Option (am_M) := if a1 = (-1 : Int32) then (some M) else ((fd_97 a1 M).bind fun q2 => (fd_98 q2.1 q2.2).bind fun q4 => some q4)
def fd_101 (a1 : Int32) (a2 : Int32) (M : am_M) : Option (Int32 × am_M) := if ((a1 * (16 : Int32)) + a2) < 0 ∨ 64 ≤ ((a1 * (16 : Int32)) + a2).toNatClampNeg then none else some ((M 83 ((a1 * (16 : Int32)) + a2).toNatClampNeg), M)
def fd_100_49 (k4 : Int32 → Int32 → Int32 → am_M → Option (Int32 × am_M)) (x1 : Int32) (x2 : Int32) (x3 : Int32) (M : am_M) : Option (Int32 × am_M) := k4 x1 x2 (x3 + (1 : Int32)) M
def fd_100_4 (f : Nat) : Int32 → Int32 → Int32 → am_M → Option (Int32 × am_M) := Nat.rec (motive := fun _ => Int32 → Int32 → Int32 → am_M → Option (Int32 × am_M)) (fun _ _ _ _ => none) (fun _ k4 => fun x1 x2 x3 M => if (16 : Int32) ≤ x3 then (some (x2, M)) else ((fd_80 x3 M).bind fun q2 => if q2.1 = (0 : Int32) then (fd_100_49 k4 x1 x2 x3 q2.2) else ((fd_81 x3 q2.2).bind fun q5 => if q5.1 = x1 then (fd_100_49 k4 x1 x2 x3 q5.2) else ((fd_101 x1 x3 q5.2).bind fun q8 => if (2 : Int32) ≤ q8.1 then (fd_100_49 k4 x1 x2 x3 q8.2) else (fd_100_49 k4 x1 (x2 + (1 : Int32)) x3 q8.2))))) f
def fd_100 (a1 : Int32) (M : am_M) : Option (Int32 × am_M) := fd_100_4 1000 a1 (0 : Int32) (0 : Int32) M
def fd_102 (a1 : Int32) (a2 : Int32) (M : am_M) : Option (am_M) := (fd_81 a2 M).bind fun q1 => if q1.1 = a1 then ((fd_82 a1 a2 (1 : Int32) q1.2).bind fun q15 => some q15) else ((fd_101 a1 a2 q1.2).bind fun q4 => if q4.1 < (2 : Int32) then ((fd_81 a2 q4.2).bind fun q7 => (fd_66 (1 : Int32) q7.1 a2 (8 : Int32) q7.2).bind fun q9 => (fd_82 a1 a2 (7 : Int32) q9).bind fun q11 => some q11) else ((fd_82 a1 a2 (-1 : Int32) q4.2).bind fun q13 => some q13))
def fd_99_81 (k55 : Int32 → Int32 → Int32 → Int32 → Int32 → am_M → Option (am_M)) (x1 : Int32) (x2 : Int32) (x3 : Int32) (x4 : Int32) (x5 : Int32) (M : am_M) : Option (am_M) := k55 x1 x2 x3 x4 (x5 + (1 : Int32)) M
def fd_99_55 (f : Nat) : Int32 → Int32 → Int32 → Int32 → Int32 → am_M → Option (am_M) := Nat.rec (motive := fun _ => Int32 → Int32 → Int32 → Int32 → Int32 → am_M → Option (am_M)) (fun _ _ _ _ _ _ => none) (fun _ k55 => fun x1 x2 x3 x4 x5 M => if (16 : Int32) ≤ x5 then ((fd_66 (0 : Int32) x2 x3 x4 M).bind fun q2 => some q2) else ((fd_80 x5 M).bind fun q4 => if q4.1 = (0 : Int32) then (fd_99_81 k55 x1 x2 x3 x4 x5 q4.2) else ((fd_102 x1 x5 q4.2).bind fun q7 => fd_99_81 k55 x1 x2 x3 x4 x5 q7))) f
def fd_99 (a1 : Int32) (a2 : Int32) (a3 : Int32) (a4 : Int32) (M : am_M) : Option (am_M) := (fd_43 a4 M).bind fun q1 => (fd_75 a3 q1.1 q1.2).bind fun q3 => (fd_78 q3).bind fun q5 => (fd_65 q5).bind fun q7 => (fd_100 a1 q7.2).bind fun q9 => if ((1 : Int32) + q9.1) ≤ q7.1 then (fd_99_55 1000 a1 a2 a3 a4 (0 : Int32) q9.2) else (some (ds_w q9.2 94 7 ((q9.2 94 7) + (1 : Int32))))
def fd_85 (a1 : Int32) (h2 : Nat) (M : am_M) : Option (am_M) := if (M h2 0) = (0 : Int32) then ((fd_86 a1 M).bind fun q2 => if (M h2 1) < 0 ∨ 6 ≤ (M h2 1).toNatClampNeg then none else some (ds_w q2.2 95 (M h2 1).toNatClampNeg q2.1)) else if (M h2 0) = (1 : Int32) then (if (M h2 2) < 0 ∨ 6 ≤ (M h2 2).toNatClampNeg then none else if (M h2 1) < 0 ∨ 6 ≤ (M h2 1).toNatClampNeg then none else some (ds_w M 95 (M h2 1).toNatClampNeg (M 95 (M h2 2).toNatClampNeg))) else if (M h2 0) = (2 : Int32) then (if (M h2 2) < 0 ∨ 6 ≤ (M h2 2).toNatClampNeg then none else if (M h2 1) < 0 ∨ 6 ≤ (M h2 1).toNatClampNeg then none else some (ds_w M 95 (M h2 1).toNatClampNeg (M 95 (M h2 2).toNatClampNeg))) else if (M h2 0) = (3 : Int32) then ((fd_90 a1 (M h2 2) M).bind fun q12 => (fd_92 q12.1 (q12.2 h2 3) q12.2).bind fun q14 => if (M h2 1) < 0 ∨ 6 ≤ (M h2 1).toNatClampNeg then none else some (ds_w q14.2 95 (M h2 1).toNatClampNeg q14.1)) else if (M h2 0) = (4 : Int32) then ((fd_90 a1 (M h2 2) M).bind fun q18 => if (q18.2 h2 4) < 0 ∨ 6 ≤ (q18.2 h2 4).toNatClampNeg then none else (fd_93 q18.1 (q18.2 h2 3) (q18.2 95 (q18.2 h2 4).toNatClampNeg) q18.2).bind fun q21 => some q21.2) else if (M h2 0) = (5 : Int32) then ((fd_90 a1 (M h2 2) M).bind fun q24 => if (q24.2 h2 4) < 0 ∨ 6 ≤ (q24.2 h2 4).toNatClampNeg then none else (fd_93 q24.1 (q24.2 h2 3) (q24.2 95 (q24.2 h2 4).toNatClampNeg) q24.2).bind fun q27 => if (M h2 1) < 0 ∨ 6 ≤ (M h2 1).toNatClampNeg then none else some (ds_w q27.2 95 (M h2 1).toNatClampNeg q27.1)) else if (M h2 0) = (6 : Int32) then (if (M h2 2) < 0 ∨ 6 ≤ (M h2 2).toNatClampNeg then none else (fd_94 (M 95 (M h2 2).toNatClampNeg) (M h2 4) M).bind fun q32 => some q32) else if (M h2 0) = (7 : Int32) then (if (M h2 2) < 0 ∨ 6 ≤ (M h2 2).toNatClampNeg then none else (fd_96 (M 95 (M h2 2).toNatClampNeg) M).bind fun q36 => some q36) else if (M h2 0) = (8 : Int32) then (if (M 94 0) = 0 then none else if (M h2 4) < 0 ∨ 6 ≤ (M h2 4).toNatClampNeg then none else (fd_99 a1 ((a1 + (M h2 1)) - (a1 + (M h2 1)) / (M 94 0) * (M 94 0)) (M 95 (M h2 4).toNatClampNeg) (M h2 2) M).bind fun q41 => some q41) else if (M h2 0) = (9 : Int32) then (some M) else if (M h2 0) = (10 : Int32) then (if (M h2 2) < 0 ∨ 6 ≤ (M h2 2).toNatClampNeg then none else if (M h2 1) < 0 ∨ 6 ≤ (M h2 1).toNatClampNeg then none else some (ds_w M 95 (M h2 1).toNatClampNeg (M 95 (M h2 2).toNatClampNeg))) else (some M)
def fd_84_18 (f : Nat) : Int32 → Nat → Int32 → am_M → Option (am_M) := Nat.rec (motive := fun _ => Int32 → Nat → Int32 → am_M → Option (am_M)) (fun _ _ _ _ => none) (fun _ k18 => fun x1 h3 x4 M => (fd_24 h3 M).bind fun q1 => if q1.1 ≤ x4 then (some q1.2) else ((fd_25 h3 x4 q1.2).bind fun q4 => (fd_85 x1 q4.1 q4.2).bind fun q6 => k18 x1 h3 (x4 + (1 : Int32)) q6)) f
def fd_84 (a1 : Int32) (a2 : Int32) (h3 : Nat) (M : am_M) : Option (am_M) := (fd_7 95 6 (-1 : Int32) M).bind fun q1 => if (0 : Int32) < 0 ∨ 6 ≤ (0 : Int32).toNatClampNeg then none else fd_84_18 1000 a1 h3 (0 : Int32) (ds_w q1 95 (0 : Int32).toNatClampNeg a2)
def fd_68_105 (x3 : Int32) (y1 : Int32) (y2 : Int32) (y3 : Int32) (M : am_M) : Option (Int32 × am_M) := (fd_82 y1 y2 y3 M).bind fun q1 => some (x3, q1)
def fd_68 (a1 : Int32) (M : am_M) : Option (Int32 × am_M) := (fd_69 a1 M).bind fun q1 => if q1.1 = (-1 : Int32) then (some ((-1 : Int32), q1.2)) else ((fd_70 q1.1 q1.2).bind fun q4 => (fd_71 q1.1 q4.2).bind fun q6 => (fd_72 q1.1 q6.2).bind fun q8 => (fd_73 q1.1 q8.2).bind fun q10 => if q4.1 = (0 : Int32) then ((fd_74 a1 q6.1 q8.1 q10).bind fun q14 => (fd_83 q8.1 q14).bind fun q16 => (fd_84 a1 q6.1 q16.1 q16.2).bind fun q18 => some (q4.1, q18)) else (if q4.1 = (1 : Int32) then (fd_68_105 q4.1 a1 q6.1 q8.1 q10) else (fd_68_105 q4.1 a1 q6.1 (-q8.1) q10)))
def fd_67 (a1 : Int32) (M : am_M) : Option (Int32 × am_M) := (fd_63 a1 M).bind fun q1 => if q1.1 = (0 : Int32) then (some ((-1 : Int32), q1.2)) else ((fd_68 a1 q1.2).bind fun q4 => some (q4.1, q4.2))
def fd_105_2 (f : Nat) : Int32 → Int32 → am_M → Option (am_M) := Nat.rec (motive := fun _ => Int32 → Int32 → am_M → Option (am_M)) (fun _ _ _ => none) (fun _ k2 => fun x1 x2 M => if (6 : Int32) ≤ x2 then (some M) else ((fd_91 x1 M).bind fun q2 => (fd_79 q2.1 x2 q2.2).bind fun q4 => (fd_77 q4.1 x2 q4.2).bind fun q6 => k2 x1 (x2 + (1 : Int32)) q6)) f
def fd_105 (a1 : Int32) (M : am_M) : Option (am_M) := fd_105_2 1000 a1 (0 : Int32) M
def fd_107 (a1 : Int32) (M : am_M) : Option (Int32 × am_M) := if a1 < (0 : Int32) then (some ((0 : Int32), M)) else (if (16 : Int32) ≤ a1 then (some ((0 : Int32), M)) else (if a1 < 0 ∨ 16 ≤ a1.toNatClampNeg then none else if (M 80 a1.toNatClampNeg) = (-1 : Int32) then (some ((0 : Int32), M)) else (some ((1 : Int32), M))))
def fd_106 (a1 : Int32) (M : am_M) : Option (Int32 × am_M) := (fd_107 a1 M).bind fun q1 => if q1.1 = (0 : Int32) then (some ((0 : Int32), q1.2)) else ((fd_80 a1 q1.2).bind fun q4 => if q4.1 = (0 : Int32) then (some ((1 : Int32), q4.2)) else (some ((0 : Int32), q4.2)))
def fd_108_32 (k9 : Int32 → Int32 → am_M → Option (am_M)) (x1 : Int32) (x2 : Int32) (M : am_M) : Option (am_M) := k9 x1 (x2 + (1 : Int32)) M
def fd_108_9 (f : Nat) : Int32 → Int32 → am_M → Option (am_M) := Nat.rec (motive := fun _ => Int32 → Int32 → am_M → Option (am_M)) (fun _ _ _ => none) (fun _ k9 => fun x1 x2 M => if (96 : Int32) ≤ x2 then (some M) else (if x2 < 0 ∨ 120 ≤ x2.toNatClampNeg then none else if (M 82 x2.toNatClampNeg) = x1 then (if x2 < 0 ∨ 120 ≤ x2.toNatClampNeg then none else fd_108_32 k9 x1 x2 (ds_w M 82 x2.toNatClampNeg (-1 : Int32))) else (fd_108_32 k9 x1 x2 M))) f
def fd_108 (a1 : Int32) (M : am_M) : Option (am_M) := if a1 < 0 ∨ 16 ≤ a1.toNatClampNeg then none else fd_108_9 1000 a1 (0 : Int32) (ds_w M 80 a1.toNatClampNeg (-1 : Int32))
def fd_109 (a1 : Int32) (a2 : Int32) (M : am_M) : Option (am_M) := (fd_65 M).bind fun q1 => if (1 : Int32) ≤ q1.1 then ((fd_101 a1 a2 q1.2).bind fun q4 => (fd_81 a2 q4.2).bind fun q6 => (fd_66 (2 : Int32) q6.1 a2 q4.1 q6.2).bind fun q8 => (fd_82 a1 a2 (-q4.1) q8).bind fun q10 => some q10) else (some q1.2)
def fd_104_124 (k80 : Int32 → Int32 → Int32 → am_M → Option (Int32 × am_M)) (x1 : Int32) (x2 : Int32) (x3 : Int32) (M : am_M) : Option (Int32 × am_M) := k80 x1 x2 (x3 + (1 : Int32)) M
def fd_104_80 (f : Nat) : Int32 → Int32 → Int32 → am_M → Option (Int32 × am_M) := Nat.rec (motive := fun _ => Int32 → Int32 → Int32 → am_M → Option (Int32 × am_M)) (fun _ _ _ _ => none) (fun _ k80 => fun x1 x2 x3 M => if (16 : Int32) ≤ x3 then (some (x2, M)) else ((fd_106 x3 M).bind fun q2 => if q2.1 = (0 : Int32) then (fd_104_124 k80 x1 x2 x3 q2.2) else ((fd_81 x3 q2.2).bind fun q5 => if q5.1 = x1 then (fd_104_124 k80 x1 x2 x3 q5.2) else ((fd_101 x1 x3 q5.2).bind fun q8 => if q8.1 = (0 : Int32) then (fd_104_124 k80 x1 x2 x3 q8.2) else ((fd_109 x1 x3 q8.2).bind fun q11 => fd_104_124 k80 x1 x2 x3 q11))))) f
def fd_104_72 (k23 : Int32 → Int32 → Int32 → am_M → Option (Int32 × am_M)) (x1 : Int32) (x2 : Int32) (x3 : Int32) (M : am_M) : Option (Int32 × am_M) := k23 x1 x2 (x3 + (1 : Int32)) M
def fd_104_23 (f : Nat) : Int32 → Int32 → Int32 → am_M → Option (Int32 × am_M) := Nat.rec (motive := fun _ => Int32 → Int32 → Int32 → am_M → Option (Int32 × am_M)) (fun _ _ _ _ => none) (fun _ k23 => fun x1 x2 x3 M => if (16 : Int32) ≤ x3 then (fd_104_80 1000 x1 x2 (0 : Int32) M) else ((fd_106 x3 M).bind fun q2 => if q2.1 = (0 : Int32) then (fd_104_72 k23 x1 x2 x3 q2.2) else ((fd_81 x3 q2.2).bind fun q5 => if q5.1 = x1 then ((fd_101 x1 x3 q5.2).bind fun q8 => if q8.1 = (0 : Int32) then ((fd_108 x3 q8.2).bind fun q11 => fd_104_72 k23 x1 (x2 + (1 : Int32)) x3 q11) else (fd_104_72 k23 x1 x2 x3 q8.2)) else (fd_104_72 k23 x1 x2 x3 q5.2)))) f
def fd_104 (a1 : Int32) (M : am_M) : Option (Int32 × am_M) := (fd_76 M).bind fun q1 => (fd_105 a1 q1).bind fun q3 => (fd_78 q3).bind fun q5 => fd_104_23 1000 a1 (0 : Int32) (0 : Int32) q5
def fd_103 (a1 : Int32) (M : am_M) : Option (Int32 × am_M) := (fd_63 a1 M).bind fun q1 => if q1.1 = (0 : Int32) then (some ((-1 : Int32), q1.2)) else ((fd_104 a1 q1.2).bind fun q4 => some (q4.1, q4.2))
def fd_111_25 (k4 : Int32 → Int32 → Int32 → am_M → Option (Int32 × am_M)) (x1 : Int32) (x2 : Int32) (x3 : Int32) (M : am_M) : Option (Int32 × am_M) := k4 x1 x2 (x3 + (1 : Int32)) M
def fd_111_4 (f : Nat) : Int32 → Int32 → Int32 → am_M → Option (Int32 × am_M) := Nat.rec (motive := fun _ => Int32 → Int32 → Int32 → am_M → Option (Int32 × am_M)) (fun _ _ _ _ => none) (fun _ k4 => fun x1 x2 x3 M => if (M 84 4) ≤ x3 then (some (x2, M)) else (if x3 < 0 ∨ 20 ≤ x3.toNatClampNeg then none else if (M 86 x3.toNatClampNeg) = x1 then (fd_111_25 k4 x1 (x2 + (1 : Int32)) x3 M) else (fd_111_25 k4 x1 x2 x3 M))) f
def fd_111 (a1 : Int32) (M : am_M) : Option (Int32 × am_M) := fd_111_4 1000 a1 (0 : Int32) (0 : Int32) M
def fd_110 (a1 : Int32) (M : am_M) : Option (Int32 × am_M) := (fd_63 a1 M).bind fun q1 => if q1.1 = (0 : Int32) then (some ((-1 : Int32), q1.2)) else ((fd_111 a1 q1.2).bind fun q4 => some (q4.1, q4.2))
def fd_112 (a1 : Int32) (M : am_M) : Option (Int32 × am_M) := (fd_107 a1 M).bind fun q1 => if q1.1 = (0 : Int32) then (some ((-1 : Int32), q1.2)) else ((fd_81 a1 q1.2).bind fun q4 => some (q4.1, q4.2))
def fd_113 (a1 : Int32) (M : am_M) : Option (Int32 × am_M) := (fd_107 a1 M).bind fun q1 => if q1.1 = (0 : Int32) then (some ((0 : Int32), q1.2)) else ((fd_97 a1 q1.2).bind fun q4 => some (q4.1, q4.2))
def fd_114 (a1 : Int32) (a2 : Int32) (M : am_M) : Option (Int32 × am_M) := (fd_63 a1 M).bind fun q1 => if q1.1 = (0 : Int32) then (some ((-1 : Int32), q1.2)) else ((fd_107 a2 q1.2).bind fun q4 => if q4.1 = (0 : Int32) then (some ((-1 : Int32), q4.2)) else ((fd_101 a1 a2 q4.2).bind fun q7 => some (q7.1, q7.2)))
def fd_115 (a1 : Int32) (a2 : Int32) (M : am_M) : Option (Int32 × am_M) := (fd_63 a1 M).bind fun q1 => if q1.1 = (0 : Int32) then (some ((-1 : Int32), q1.2)) else ((fd_31 a2 q1.2).bind fun q4 => if q4.1 = (0 : Int32) then (some ((-1 : Int32), q4.2)) else ((fd_91 a1 q4.2).bind fun q7 => (fd_79 q7.1 a2 q7.2).bind fun q9 => some (q9.1, q9.2)))
def fd_116 (a1 : Int32) (a2 : Int32) (M : am_M) : Option (Int32 × am_M) := (fd_107 a1 M).bind fun q1 => if q1.1 = (0 : Int32) then (some ((-1 : Int32), q1.2)) else ((fd_31 a2 q1.2).bind fun q4 => if q4.1 = (0 : Int32) then (some ((-1 : Int32), q4.2)) else ((fd_79 a1 a2 q4.2).bind fun q7 => some (q7.1, q7.2)))
def fd_119 (M : am_M) : Option (Int32 × am_M) := some ((M 84 4), M)
def fd_120 (a1 : Int32) (a2 : Int32) (M : am_M) : Option (Int32 × am_M) := if a1 < 0 ∨ 20 ≤ a1.toNatClampNeg then none else if (M 85 a1.toNatClampNeg) = (0 : Int32) then (if a1 < 0 ∨ 20 ≤ a1.toNatClampNeg then none else if (M 86 a1.toNatClampNeg) = a2 then (some ((1 : Int32), M)) else (some ((0 : Int32), M))) else (some ((0 : Int32), M))
def fd_118_55 (k2 : Int32 → Int32 → am_M → Option (am_M)) (x1 : Int32) (x2 : Int32) (M : am_M) : Option (am_M) := k2 x1 (x2 + (1 : Int32)) M
def fd_118_2 (f : Nat) : Int32 → Int32 → am_M → Option (am_M) := Nat.rec (motive := fun _ => Int32 → Int32 → am_M → Option (am_M)) (fun _ _ _ => none) (fun _ k2 => fun x1 x2 M => (fd_119 M).bind fun q1 => if q1.1 ≤ x2 then (some q1.2) else ((fd_120 x2 x1 q1.2).bind fun q4 => if q4.1 = (0 : Int32) then (fd_118_55 k2 x1 x2 q4.2) else ((fd_71 x2 q4.2).bind fun q7 => (fd_72 x2 q7.2).bind fun q9 => (fd_43 q9.1 q9.2).bind fun q11 => (fd_77 q7.1 q11.1 q11.2).bind fun q13 => fd_118_55 k2 x1 x2 q13))) f
def fd_118 (a1 : Int32) (M : am_M) : Option (am_M) := fd_118_2 1000 a1 (0 : Int32) M
def fd_121_42 (k2 : Int32 → am_M → Option (am_M)) (f : Nat) : Int32 → Int32 → Int32 → Int32 → am_M → Option (am_M) := Nat.rec (motive := fun _ => Int32 → Int32 → Int32 → Int32 → am_M → Option (am_M)) (fun _ _ _ _ _ => none) (fun _ k42 => fun x1 x2 x3 x4 M => if (6 : Int32) ≤ x4 then (k2 (x1 + (1 : Int32)) M) else ((fd_79 x2 x4 M).bind fun q2 => (fd_48 x3 x4 q2.2).bind fun q4 => (fd_77 q2.1 q4.1 q4.2).bind fun q6 => k42 x1 x2 x3 (x4 + (1 : Int32)) q6)) f
def fd_121_2 (f : Nat) : Int32 → am_M → Option (am_M) := Nat.rec (motive := fun _ => Int32 → am_M → Option (am_M)) (fun _ _ => none) (fun _ k2 => fun x1 M => if (M 89 3) ≤ x1 then (some M) else (if (96 : Int32) ≤ x1 then (some M) else (if x1 < 0 ∨ 96 ≤ x1.toNatClampNeg then none else if x1 < 0 ∨ 96 ≤ x1.toNatClampNeg then none else fd_121_42 k2 1000 x1 ((M 91 x1.toNatClampNeg) / (6 : Int32)) ((M 91 x1.toNatClampNeg) - (M 91 x1.toNatClampNeg) / (6 : Int32) * (6 : Int32)) (0 : Int32) M))) f
def fd_121 (M : am_M) : Option (am_M) := fd_121_2 1000 (0 : Int32) M
def fd_122_29 (x1 : Int32) (x2 : Int32) (M : am_M) : Option (Int32 × am_M) := if x1 < 0 ∨ 16 ≤ x1.toNatClampNeg then none else if ((M 90 x1.toNatClampNeg) &&& (7 : Int32)) = (0 : Int32) then (some (x2, M)) else (some ((x2 + (4 : Int32)), M))
def fd_122_13 (x1 : Int32) (y0 : Int32) (M : am_M) : Option (Int32 × am_M) := if x1 < 0 ∨ 16 ≤ x1.toNatClampNeg then none else if ((M 90 x1.toNatClampNeg) &&& (31 : Int32)) = (0 : Int32) then (fd_122_29 x1 y0 M) else (fd_122_29 x1 (y0 + (2 : Int32)) M)
def fd_122 (a1 : Int32) (M : am_M) : Option (Int32 × am_M) := (fd_80 a1 M).bind fun q1 => if q1.1 = (0 : Int32) then (fd_122_13 a1 (0 : Int32) q1.2) else (fd_122_13 a1 (1 : Int32) q1.2)
def fd_117 (a1 : Int32) (a2 : Int32) (M : am_M) : Option (Int32 × am_M) := (fd_63 a1 M).bind fun q1 => if q1.1 = (0 : Int32) then (some ((0 : Int32), q1.2)) else ((fd_107 a2 q1.2).bind fun q4 => if q4.1 = (0 : Int32) then (some ((0 : Int32), q4.2)) else ((fd_76 q4.2).bind fun q7 => (fd_105 a1 q7).bind fun q9 => (fd_118 a1 q9).bind fun q11 => (fd_121 q11).bind fun q13 => (fd_122 a2 q13).bind fun q15 => some (q15.1, q15.2)))
def fd_124 (M : am_M) : Option (Int32 × am_M) := some ((M 92 1), M)
def fd_125 (a1 : Int32) (M : am_M) : Option (Int32 × am_M) := if a1 < (0 : Int32) then (some ((0 : Int32), M)) else (if (16 : Int32) ≤ a1 then (some ((0 : Int32), M)) else (if a1 < (M 92 1) then (if (((M 92 1) - (1 : Int32)) - a1) < 0 then none else if ((((M 92 1) - (1 : Int32)) - a1) - (((M 92 1) - (1 : Int32)) - a1) / 16 * 16) < 0 ∨ 16 ≤ ((((M 92 1) - (1 : Int32)) - a1) - (((M 92 1) - (1 : Int32)) - a1) / 16 * 16).toNatClampNeg then none else some ((M 93 ((((M 92 1) - (1 : Int32)) - a1) - (((M 92 1) - (1 : Int32)) - a1) / 16 * 16).toNatClampNeg), M)) else (some ((0 : Int32), M))))
def fd_123 (a1 : Int32) (M : am_M) : Option (Int32 × am_M) := if a1 = (-1 : Int32) then ((fd_124 M).bind fun q4 => some (q4.1, q4.2)) else ((fd_125 a1 M).bind fun q2 => some (q2.1, q2.2))
def fd_126_81 (k50 : Int32 → Int32 → am_M → Option (Int32 × am_M)) (x1 : Int32) (x2 : Int32) (M : am_M) : Option (Int32 × am_M) := k50 x1 (x2 + (1 : Int32)) M
def fd_126_50 (f : Nat) : Int32 → Int32 → am_M → Option (Int32 × am_M) := Nat.rec (motive := fun _ => Int32 → Int32 → am_M → Option (Int32 × am_M)) (fun _ _ _ => none) (fun _ k50 => fun x1 x2 M => if (16 : Int32) ≤ x2 then (some (x1, M)) else ((fd_107 x2 M).bind fun q2 => if q2.1 = (0 : Int32) then (fd_126_81 k50 x1 x2 q2.2) else ((fd_80 x2 q2.2).bind fun q5 => if q5.1 = (0 : Int32) then (fd_126_81 k50 (x1 + (1 : Int32)) x2 q5.2) else (fd_126_81 k50 x1 x2 q5.2)))) f
def fd_126_9 (f : Nat) : Int32 → am_M → Option (Int32 × am_M) := Nat.rec (motive := fun _ => Int32 → am_M → Option (Int32 × am_M)) (fun _ _ => none) (fun _ k9 => fun x1 M => if (M 0 0) ≤ x1 then ((fd_78 M).bind fun q2 => fd_126_50 1000 (0 : Int32) (0 : Int32) q2) else ((fd_105 x1 M).bind fun q4 => (fd_118 x1 q4).bind fun q6 => k9 (x1 + (1 : Int32)) q6)) f
def fd_126 (M : am_M) : Option (Int32 × am_M) := (fd_76 M).bind fun q1 => fd_126_9 1000 (0 : Int32) q1
def fd_128 (M : am_M) : Option (Int32 × am_M) := some ((M 94 7), M)
def fd_127 (M : am_M) : Option (Int32 × am_M) := (fd_128 M).bind fun q1 => some (q1.1, q1.2)
def fd_132_14 (M : am_M) : Option (Int32 × am_M) := some ((1 : Int32), M)
def fd_132 (a0 : Int32) (M : am_M) : Option (Int32 × am_M) := if a0 = (0 : Int32) then (fd_132_14 M) else (if a0 = (3 : Int32) then (fd_132_14 M) else (if a0 = (5 : Int32) then (fd_132_14 M) else (some ((0 : Int32), M))))
def fd_131 (a1 : Int32) (M : am_M) : Option (Int32 × am_M) := if (M 96 7) = (0 : Int32) then (if (M 96 6) = (6 : Int32) then (some ((-1 : Int32), M)) else ((fd_132 a1 M).bind fun q3 => if q3.1 = (0 : Int32) then (some ((-1 : Int32), q3.2)) else (if ((ds_w q3.2 96 7 (1 : Int32)) 96 6) < 0 ∨ 6 ≤ ((ds_w q3.2 96 7 (1 : Int32)) 96 6).toNatClampNeg then none else if ((ds_w q3.2 96 7 (1 : Int32)) 96 6) < 0 ∨ 6 ≤ ((ds_w q3.2 96 7 (1 : Int32)) 96 6).toNatClampNeg then none else some ((((ds_w (ds_w (ds_w (ds_w q3.2 96 7 (1 : Int32)) 102 ((ds_w q3.2 96 7 (1 : Int32)) 96 6).toNatClampNeg a1) 103 ((ds_w q3.2 96 7 (1 : Int32)) 96 6).toNatClampNeg (0 : Int32)) 96 6 (((ds_w q3.2 96 7 (1 : Int32)) 96 6) + (1 : Int32))) 96 6) - (1 : Int32)), (ds_w (ds_w (ds_w (ds_w q3.2 96 7 (1 : Int32)) 102 ((ds_w q3.2 96 7 (1 : Int32)) 96 6).toNatClampNeg a1) 103 ((ds_w q3.2 96 7 (1 : Int32)) 96 6).toNatClampNeg (0 : Int32)) 96 6 (((ds_w q3.2 96 7 (1 : Int32)) 96 6) + (1 : Int32))))))) else (some ((-1 : Int32), M))
def fd_133 (M : am_M) : Option (Int32 × am_M) := if (M 96 7) = (0 : Int32) then (some ((0 : Int32), M)) else (some ((1 : Int32), (ds_w (ds_w M 96 7 (0 : Int32)) 96 6 (((ds_w M 96 7 (0 : Int32)) 96 6) - (1 : Int32)))))
def fd_137 (a1 : Int32) (a2 : Int32) (M : am_M) : Option (am_M) := if a1 < 0 ∨ 6 ≤ a1.toNatClampNeg then none else if (M 96 14) = (0 : Int32) then (some (ds_w M 105 a1.toNatClampNeg a2)) else (if a1 < 0 ∨ 6 ≤ a1.toNatClampNeg then none else if a1 < 0 ∨ 6 ≤ a1.toNatClampNeg then none else some (ds_w (ds_w (ds_w M 105 a1.toNatClampNeg a2) 107 a1.toNatClampNeg ((1 : Int32) &&& 1)) 106 a1.toNatClampNeg ((0 : Int32) &&& 1)))
def fd_138 (a0 : Int32) (M : am_M) : Option (Int32 × am_M) := if a0 = (0 : Int32) then (some ((5 : Int32), M)) else (if a0 = (1 : Int32) then (some ((4 : Int32), M)) else (some (a0, M)))
def fd_139 (a1 : Int32) (M : am_M) : Option (Int32 × am_M) := if a1 = (6 : Int32) then (some ((2 : Int32), M)) else (if a1 < 0 ∨ 6 ≤ a1.toNatClampNeg then none else some ((M 105 a1.toNatClampNeg), M))
def fd_141 (a0 : Int32) (a1 : Int32) (M : am_M) : Option (Int32 × am_M) := some (((a0 >>> (((4 : Int32) * a1) &&& 31)) &&& (15 : Int32)), M)
def fd_140_41 (x1 : Int32) (y0 : Int32) (M : am_M) : Option (Int32 × am_M) := (fd_141 y0 x1 M).bind fun q1 => some (q1.1, q1.2)
def fd_140 (a0 : Int32) (a1 : Int32) (M : am_M) : Option (Int32 × am_M) := if a0 = (0 : Int32) then (fd_140_41 a1 (5584208 : Int32) M) else (if a0 = (1 : Int32) then (fd_140_41 a1 (5518400 : Int32) M) else (if a0 = (2 : Int32) then (fd_140_41 a1 (5517840 : Int32) M) else (if a0 = (3 : Int32) then (fd_140_41 a1 (5452595 : Int32) M) else (fd_140_41 a1 (5518405 : Int32) M))))
def fd_142_21 (x1 : Int32) (y0 : Int32) (M : am_M) : Option (Int32 × am_M) := (fd_141 y0 x1 M).bind fun q1 => some (q1.1, q1.2)
def fd_142 (a0 : Int32) (a1 : Int32) (M : am_M) : Option (Int32 × am_M) := if a0 = (0 : Int32) then (fd_142_21 a1 (5584176 : Int32) M) else (if a0 = (1 : Int32) then (fd_142_21 a1 (5518384 : Int32) M) else (fd_142_21 a1 (5517840 : Int32) M))
def fd_144_14 (M : am_M) : Option (Int32 × am_M) := some ((1 : Int32), M)
def fd_144 (a0 : Int32) (M : am_M) : Option (Int32 × am_M) := if a0 = (0 : Int32) then (fd_144_14 M) else (if a0 = (1 : Int32) then (fd_144_14 M) else (if a0 = (2 : Int32) then (fd_144_14 M) else (some ((0 : Int32), M))))
def fd_143_95 (y1 : Int32) (y2 : Int32) (M : am_M) : Option (am_M) := if y1 < 0 ∨ 6 ≤ y1.toNatClampNeg then none else some (ds_w M 105 y1.toNatClampNeg y2)
def fd_143_42 (k17 : Int32 → Int32 → Int32 → am_M → Option (am_M)) (x1 : Int32) (x3 : Int32) (x4 : Int32) (M : am_M) : Option (am_M) := if x4 < 0 ∨ 6 ≤ x4.toNatClampNeg then none else if x4 < 0 ∨ 6 ≤ x4.toNatClampNeg then none else k17 x1 x3 (x4 + (1 : Int32)) (ds_w (ds_w M 107 x4.toNatClampNeg ((0 : Int32) &&& 1)) 106 x4.toNatClampNeg ((0 : Int32) &&& 1))
def fd_143_17 (f : Nat) : Int32 → Int32 → Int32 → am_M → Option (am_M) := Nat.rec (motive := fun _ => Int32 → Int32 → Int32 → am_M → Option (am_M)) (fun _ _ _ _ => none) (fun _ k17 => fun x1 x3 x4 M => if (6 : Int32) ≤ x4 then ((fd_144 x3 (ds_w M 96 14 (0 : Int32))).bind fun q2 => if q2.1 = (0 : Int32) then (if x3 = (5 : Int32) then (fd_143_95 x1 (5 : Int32) q2.2) else (fd_143_95 x1 (3 : Int32) q2.2)) else (fd_143_95 x1 (0 : Int32) q2.2)) else (if x4 < 0 ∨ 6 ≤ x4.toNatClampNeg then none else if (M 107 x4.toNatClampNeg) = (0 : Int32) then (fd_143_42 k17 x1 x3 x4 M) else (if x4 < 0 ∨ 6 ≤ x4.toNatClampNeg then none else fd_143_42 k17 x1 x3 x4 (ds_w M 105 x4.toNatClampNeg (-1 : Int32))))) f
def fd_143 (a1 : Int32) (a2 : Int32) (M : am_M) : Option (am_M) := if a2 < 0 ∨ 6 ≤ a2.toNatClampNeg then none else if a2 < 0 ∨ 6 ≤ a2.toNatClampNeg then none else fd_143_17 1000 a1 (M 105 a2.toNatClampNeg) (0 : Int32) (ds_w M 105 a2.toNatClampNeg (-1 : Int32))
def fd_136_255 (k213 : Int32 → am_M → Option (am_M)) (x7 : Int32) (y1 : Int32) (y2 : Int32) (M : am_M) : Option (am_M) := if y1 < 0 ∨ 6 ≤ y1.toNatClampNeg then none else if x7 < 0 ∨ 6 ≤ x7.toNatClampNeg then none else k213 (x7 + (1 : Int32)) (ds_w (ds_w M 106 y1.toNatClampNeg (y2 &&& 1)) 107 x7.toNatClampNeg ((0 : Int32) &&& 1))
def fd_136_254 (k213 : Int32 → am_M → Option (am_M)) (x7 : Int32) (y1 : Int32) (M : am_M) : Option (am_M) := fd_136_255 k213 x7 y1 (0 : Int32) M
def fd_136_213 (f : Nat) : Int32 → am_M → Option (am_M) := Nat.rec (motive := fun _ => Int32 → am_M → Option (am_M)) (fun _ _ => none) (fun _ k213 => fun x7 M => if (6 : Int32) ≤ x7 then (some M) else (if x7 < 0 ∨ 6 ≤ x7.toNatClampNeg then none else if (M 105 x7.toNatClampNeg) = (-1 : Int32) then (fd_136_254 k213 x7 x7 M) else (if x7 < 0 ∨ 6 ≤ x7.toNatClampNeg then none else (fd_132 (M 105 x7.toNatClampNeg) M).bind fun q5 => if q5.1 = (0 : Int32) then (fd_136_255 k213 x7 x7 (1 : Int32) q5.2) else (fd_136_254 k213 x7 x7 q5.2)))) f
def fd_136 (a1 : Int32) (M : am_M) : Option (am_M) := if a1 < 0 ∨ 300 ≤ a1.toNatClampNeg then none else if (a1 + (1 : Int32)) < 0 ∨ 300 ≤ (a1 + (1 : Int32)).toNatClampNeg then none else if (a1 + (2 : Int32)) < 0 ∨ 300 ≤ (a1 + (2 : Int32)).toNatClampNeg then none else if (a1 + (3 : Int32)) < 0 ∨ 300 ≤ (a1 + (3 : Int32)).toNatClampNeg then none else if (a1 + (4 : Int32)) < 0 ∨ 300 ≤ (a1 + (4 : Int32)).toNatClampNeg then none else if (M 104 a1.toNatClampNeg) = (0 : Int32) then ((fd_137 (M 104 (a1 + (1 : Int32)).toNatClampNeg) (M 104 (a1 + (3 : Int32)).toNatClampNeg) M).bind fun q41 => some q41) else (if (M 104 a1.toNatClampNeg) = (1 : Int32) then (if (M 104 (a1 + (2 : Int32)).toNatClampNeg) < 0 ∨ 6 ≤ (M 104 (a1 + (2 : Int32)).toNatClampNeg).toNatClampNeg then none else (fd_138 (M 105 (M 104 (a1 + (2 : Int32)).toNatClampNeg).toNatClampNeg) M).bind fun q37 => (fd_137 (M 104 (a1 + (1 : Int32)).toNatClampNeg) q37.1 q37.2).bind fun q39 => some q39) else (if (M 104 a1.toNatClampNeg) = (2 : Int32) then (if (M 104 (a1 + (2 : Int32)).toNatClampNeg) < 0 ∨ 6 ≤ (M 104 (a1 + (2 : Int32)).toNatClampNeg).toNatClampNeg then none else if (M 104 (a1 + (2 : Int32)).toNatClampNeg) < 0 ∨ 6 ≤ (M 104 (a1 + (2 : Int32)).toNatClampNeg).toNatClampNeg then none else (fd_137 (M 104 (a1 + (1 : Int32)).toNatClampNeg) (M 105 (M 104 (a1 + (2 : Int32)).toNatClampNeg).toNatClampNeg) (ds_w M 105 (M 104 (a1 + (2 : Int32)).toNatClampNeg).toNatClampNeg (-1 : Int32))).bind fun q34 => some q34) else (if (M 104 a1.toNatClampNeg) = (3 : Int32) then ((fd_139 (M 104 (a1 + (2 : Int32)).toNatClampNeg) M).bind fun q24 => (fd_140 q24.1 (M 104 (a1 + (3 : Int32)).toNatClampNeg) q24.2).bind fun q26 => (fd_138 q26.1 q26.2).bind fun q28 => (fd_137 (M 104 (a1 + (1 : Int32)).toNatClampNeg) q28.1 q28.2).bind fun q30 => some q30) else (if (M 104 a1.toNatClampNeg) = (5 : Int32) then ((fd_139 (M 104 (a1 + (2 : Int32)).toNatClampNeg) M).bind fun q17 => (fd_142 q17.1 (M 104 (a1 + (3 : Int32)).toNatClampNeg) q17.2).bind fun q19 => if (M 104 (a1 + (4 : Int32)).toNatClampNeg) < 0 ∨ 6 ≤ (M 104 (a1 + (4 : Int32)).toNatClampNeg).toNatClampNeg then none else (fd_137 (M 104 (a1 + (1 : Int32)).toNatClampNeg) q19.1 (ds_w q19.2 105 (M 104 (a1 + (4 : Int32)).toNatClampNeg).toNatClampNeg (-1 : Int32))).bind fun q22 => some q22) else (if (M 104 a1.toNatClampNeg) = (8 : Int32) then (if (M 104 (a1 + (4 : Int32)).toNatClampNeg) < 0 ∨ 6 ≤ (M 104 (a1 + (4 : Int32)).toNatClampNeg).toNatClampNeg then none else some (ds_w M 105 (M 104 (a1 + (4 : Int32)).toNatClampNeg).toNatClampNeg (-1 : Int32))) else (if (M 104 a1.toNatClampNeg) = (9 : Int32) then (fd_136_213 1000 (0 : Int32) (ds_w M 96 14 (1 : Int32))) else (if (M 104 a1.toNatClampNeg) = (10 : Int32) then ((fd_143 (M 104 (a1 + (1 : Int32)).toNatClampNeg) (M 104 (a1 + (2 : Int32)).toNatClampNeg) M).bind fun q14 => some q14) else (some M))))))))
def fd_135_61 (f : Nat) : Int32 → Int32 → am_M → Option (am_M) := Nat.rec (motive := fun _ => Int32 → Int32 → am_M → Option (am_M)) (fun _ _ _ => none) (fun _ k61 => fun x1 x2 M => if x1 < 0 ∨ 6 ≤ x1.toNatClampNeg then none else if (M 103 x1.toNatClampNeg) ≤ x2 then (some M) else ((fd_136 (((50 : Int32) * x1) + ((5 : Int32) * x2)) M).bind fun q3 => k61 x1 (x2 + (1 : Int32)) q3)) f
def fd_135_2 (f : Nat) : Int32 → am_M → Option (am_M) := Nat.rec (motive := fun _ => Int32 → am_M → Option (am_M)) (fun _ _ => none) (fun _ k2 => fun x1 M => if (6 : Int32) ≤ x1 then (if (((ds_w M 96 14 (0 : Int32)) 96 6) - (1 : Int32)) < 0 ∨ 6 ≤ (((ds_w M 96 14 (0 : Int32)) 96 6) - (1 : Int32)).toNatClampNeg then none else if (0 : Int32) < 0 ∨ 6 ≤ (0 : Int32).toNatClampNeg then none else fd_135_61 1000 (((ds_w M 96 14 (0 : Int32)) 96 6) - (1 : Int32)) (0 : Int32) (ds_w (ds_w M 96 14 (0 : Int32)) 105 (0 : Int32).toNatClampNeg (M 102 (((ds_w M 96 14 (0 : Int32)) 96 6) - (1 : Int32)).toNatClampNeg))) else (if x1 < 0 ∨ 6 ≤ x1.toNatClampNeg then none else if x1 < 0 ∨ 6 ≤ x1.toNatClampNeg then none else if x1 < 0 ∨ 6 ≤ x1.toNatClampNeg then none else k2 (x1 + (1 : Int32)) (ds_w (ds_w (ds_w M 105 x1.toNatClampNeg (-1 : Int32)) 106 x1.toNatClampNeg ((0 : Int32) &&& 1)) 107 x1.toNatClampNeg ((0 : Int32) &&& 1)))) f
def fd_135 (M : am_M) : Option (am_M) := fd_135_2 1000 (0 : Int32) M
def fd_134 (M : am_M) : Option (Int32 × am_M) := if (M 96 7) = (0 : Int32) then (some ((0 : Int32), M)) else ((fd_135 M).bind fun q2 => if (q2 96 14) = (0 : Int32) then (some ((1 : Int32), (ds_w q2 96 7 (0 : Int32)))) else (some ((0 : Int32), q2)))
def fd_148 (a0 : Int32) (a1 : Int32) (M : am_M) : Option (Int32 × am_M) := if a0 < (0 : Int32) then (some ((0 : Int32), M)) else (if a1 ≤ a0 then (some ((0 : Int32), M)) else (some ((1 : Int32), M)))
def fd_149_16 (M : am_M) : Option (Int32 × am_M) := some ((1 : Int32), M)
def fd_149 (a0 : Int32) (M : am_M) : Option (Int32 × am_M) := if a0 = (4 : Int32) then (fd_149_16 M) else (if a0 = (5 : Int32) then (fd_149_16 M) else (if a0 = (8 : Int32) then (fd_149_16 M) else (some ((0 : Int32), M))))
def fd_150_17 (M : am_M) : Option (Int32 × am_M) := some ((1 : Int32), M)
def fd_150_11 (x0 : Int32) (M : am_M) : Option (Int32 × am_M) := if x0 = (10 : Int32) then (fd_150_17 M) else (some ((0 : Int32), M))
def fd_150 (a0 : Int32) (M : am_M) : Option (Int32 × am_M) := if a0 < (1 : Int32) then (fd_150_11 a0 M) else (if a0 ≤ (7 : Int32) then (fd_150_17 M) else (fd_150_11 a0 M))
def fd_147_161 (M : am_M) : Option (Int32 × am_M) := some ((1 : Int32), M)
def fd_147_136 (x1 : Int32) (x2 : Int32) (x3 : Int32) (M : am_M) : Option (Int32 × am_M) := if x1 = (8 : Int32) then ((fd_148 x2 (4 : Int32) M).bind fun q2 => if q2.1 = (0 : Int32) then (some ((0 : Int32), q2.2)) else ((fd_148 x3 (q2.2 96 6) q2.2).bind fun q5 => if q5.1 = (0 : Int32) then (some ((0 : Int32), q5.2)) else (fd_147_161 q5.2))) else (fd_147_161 M)
def fd_147_128 (x1 : Int32) (x2 : Int32) (x3 : Int32) (y0 : Int32) (y1 : Int32) (M : am_M) : Option (Int32 × am_M) := (fd_148 y0 y1 M).bind fun q1 => if q1.1 = (0 : Int32) then (some ((0 : Int32), q1.2)) else (fd_147_136 x1 x2 x3 q1.2)
def fd_147_126 (x1 : Int32) (x2 : Int32) (x3 : Int32) (y0 : Int32) (M : am_M) : Option (Int32 × am_M) := fd_147_128 x1 x2 x3 y0 (6 : Int32) M
def fd_147_103 (x1 : Int32) (x2 : Int32) (x3 : Int32) (M : am_M) : Option (Int32 × am_M) := (fd_150 x1 M).bind fun q1 => if q1.1 = (0 : Int32) then (fd_147_136 x1 x2 x3 q1.2) else (if x1 < (3 : Int32) then (fd_147_126 x1 x2 x3 x3 q1.2) else (if (5 : Int32) < x1 then (fd_147_126 x1 x2 x3 x3 q1.2) else (fd_147_128 x1 x2 x3 x3 (7 : Int32) q1.2)))
def fd_147_84 (x1 : Int32) (x2 : Int32) (x3 : Int32) (x5 : Int32) (M : am_M) : Option (Int32 × am_M) := (fd_149 x1 M).bind fun q1 => if q1.1 = (0 : Int32) then (fd_147_103 x1 x2 x3 q1.2) else ((fd_148 x5 (6 : Int32) q1.2).bind fun q4 => if q4.1 = (0 : Int32) then (some ((0 : Int32), q4.2)) else (fd_147_103 x1 x2 x3 q4.2))
def fd_147_69 (x1 : Int32) (x2 : Int32) (x3 : Int32) (x4 : Int32) (x5 : Int32) (x7 : Int32) (M : am_M) : Option (Int32 × am_M) := if x7 = (0 : Int32) then (fd_147_84 x1 x2 x3 x5 M) else ((fd_148 x4 (6 : Int32) M).bind fun q2 => if q2.1 = (0 : Int32) then (some ((0 : Int32), q2.2)) else (fd_147_84 x1 x2 x3 x5 q2.2))
def fd_147_53 (x1 : Int32) (x2 : Int32) (x3 : Int32) (x4 : Int32) (x5 : Int32) (x6 : Int32) (y0 : Int32) (M : am_M) : Option (Int32 × am_M) := if x6 = (0 : Int32) then (fd_147_69 x1 x2 x3 x4 x5 y0 M) else ((fd_148 x2 (6 : Int32) M).bind fun q2 => if q2.1 = (0 : Int32) then (some ((0 : Int32), q2.2)) else (fd_147_69 x1 x2 x3 x4 x5 y0 q2.2))
def fd_147_52 (x1 : Int32) (x2 : Int32) (x3 : Int32) (x4 : Int32) (x5 : Int32) (x6 : Int32) (M : am_M) : Option (Int32 × am_M) := fd_147_53 x1 x2 x3 x4 x5 x6 (0 : Int32) M
def fd_147_48 (x1 : Int32) (x2 : Int32) (x3 : Int32) (x4 : Int32) (x5 : Int32) (x6 : Int32) (M : am_M) : Option (Int32 × am_M) := fd_147_53 x1 x2 x3 x4 x5 x6 (1 : Int32) M
def fd_147_32 (x1 : Int32) (x2 : Int32) (x3 : Int32) (x4 : Int32) (x5 : Int32) (y0 : Int32) (M : am_M) : Option (Int32 × am_M) := if x1 = (0 : Int32) then (fd_147_48 x1 x2 x3 x4 x5 y0 M) else (if x1 < (3 : Int32) then (fd_147_52 x1 x2 x3 x4 x5 y0 M) else (if (5 : Int32) < x1 then (fd_147_52 x1 x2 x3 x4 x5 y0 M) else (fd_147_48 x1 x2 x3 x4 x5 y0 M)))
def fd_147_27 (x1 : Int32) (x2 : Int32) (x3 : Int32) (x4 : Int32) (x5 : Int32) (M : am_M) : Option (Int32 × am_M) := fd_147_32 x1 x2 x3 x4 x5 (1 : Int32) M
def fd_147 (a1 : Int32) (a2 : Int32) (a3 : Int32) (a4 : Int32) (a5 : Int32) (M : am_M) : Option (Int32 × am_M) := (fd_148 a1 (11 : Int32) M).bind fun q1 => if q1.1 = (0 : Int32) then (some ((0 : Int32), q1.2)) else (if a1 ≤ (3 : Int32) then (fd_147_27 a1 a2 a3 a4 a5 q1.2) else (if a1 = (5 : Int32) then (fd_147_27 a1 a2 a3 a4 a5 q1.2) else (if a1 = (10 : Int32) then (fd_147_27 a1 a2 a3 a4 a5 q1.2) else (fd_147_32 a1 a2 a3 a4 a5 (0 : Int32) q1.2))))
def fd_151_22 (M : am_M) : Option (Int32 × am_M) := some ((1 : Int32), M)
def fd_151 (a0 : Int32) (a1 : Int32) (M : am_M) : Option (Int32 × am_M) := if a1 = (2 : Int32) then (fd_151_22 M) else ((fd_132 a0 M).bind fun q2 => if q2.1 = (0 : Int32) then (if a1 = (1 : Int32) then (if a0 = (1 : Int32) then (fd_151_22 q2.2) else (some ((0 : Int32), q2.2))) else (some ((0 : Int32), q2.2))) else (fd_151_22 q2.2))
def fd_152_88 (M : am_M) : Option (Int32 × am_M) := some ((1 : Int32), M)
def fd_152_67 (M : am_M) : Option (Int32 × am_M) := some ((1 : Int32), M)
def fd_152_41 (M : am_M) : Option (Int32 × am_M) := some ((1 : Int32), M)
def fd_152 (a0 : Int32) (a1 : Int32) (M : am_M) : Option (Int32 × am_M) := if a0 = (0 : Int32) then (some ((1 : Int32), M)) else (if a0 = (1 : Int32) then (if a1 = (0 : Int32) then (some ((0 : Int32), M)) else (some ((1 : Int32), M))) else (if a0 = (2 : Int32) then (if a1 = (2 : Int32) then (fd_152_41 M) else (if a1 = (4 : Int32) then (fd_152_41 M) else (if a1 = (5 : Int32) then (fd_152_41 M) else (some ((0 : Int32), M))))) else (if a0 = (3 : Int32) then (if a1 = (3 : Int32) then (fd_152_67 M) else (if a1 = (4 : Int32) then (fd_152_67 M) else (if a1 = (5 : Int32) then (fd_152_67 M) else (some ((0 : Int32), M))))) else (if a0 = (4 : Int32) then (if a1 = (4 : Int32) then (fd_152_88 M) else (if a1 = (5 : Int32) then (fd_152_88 M) else (some ((0 : Int32), M)))) else (if a1 = (5 : Int32) then (some ((1 : Int32), M)) else (some ((0 : Int32), M)))))))
def fd_146_333 (x1 : Int32) (x3 : Int32) (x8 : Int32) (M : am_M) : Option (Int32 × am_M) := if x1 = (8 : Int32) then (if x3 < 0 ∨ 6 ≤ x3.toNatClampNeg then none else (fd_152 x8 (M 102 x3.toNatClampNeg) M).bind fun q3 => if q3.1 = (0 : Int32) then (some ((9 : Int32), q3.2)) else (some ((0 : Int32), q3.2))) else (some ((0 : Int32), M))
def fd_146_323 (x1 : Int32) (x3 : Int32) (x4 : Int32) (x8 : Int32) (M : am_M) : Option (Int32 × am_M) := (fd_152 x8 x4 M).bind fun q1 => if q1.1 = (0 : Int32) then (some ((9 : Int32), q1.2)) else (fd_146_333 x1 x3 x8 q1.2)
def fd_146_313 (x1 : Int32) (x3 : Int32) (x4 : Int32) (x8 : Int32) (M : am_M) : Option (Int32 × am_M) := if x1 = (4 : Int32) then (fd_146_323 x1 x3 x4 x8 M) else (if x1 = (5 : Int32) then (fd_146_323 x1 x3 x4 x8 M) else (fd_146_333 x1 x3 x8 M))
def fd_146_300 (x1 : Int32) (x3 : Int32) (x4 : Int32) (x7 : Int32) (x8 : Int32) (M : am_M) : Option (Int32 × am_M) := (fd_151 x8 x7 M).bind fun q1 => if q1.1 = (0 : Int32) then (some ((8 : Int32), q1.2)) else (fd_146_313 x1 x3 x4 x8 q1.2)
def fd_146_290 (x1 : Int32) (x3 : Int32) (x4 : Int32) (x7 : Int32) (x8 : Int32) (M : am_M) : Option (Int32 × am_M) := if x1 = (4 : Int32) then (fd_146_300 x1 x3 x4 x7 x8 M) else (if x1 = (5 : Int32) then (fd_146_300 x1 x3 x4 x7 x8 M) else (fd_146_313 x1 x3 x4 x8 M))
def fd_146_276 (x1 : Int32) (x3 : Int32) (x4 : Int32) (x7 : Int32) (y0 : Int32) (M : am_M) : Option (Int32 × am_M) := if x1 = (4 : Int32) then ((fd_138 y0 M).bind fun q2 => fd_146_290 x1 x3 x4 x7 q2.1 q2.2) else (fd_146_290 x1 x3 x4 x7 y0 M)
def fd_146_258 (x1 : Int32) (x3 : Int32) (x4 : Int32) (x5 : Int32) (x7 : Int32) (M : am_M) : Option (Int32 × am_M) := (fd_149 x1 M).bind fun q1 => if q1.1 = (0 : Int32) then (fd_146_276 x1 x3 x4 x7 (-1 : Int32) q1.2) else (if x5 < 0 ∨ 6 ≤ x5.toNatClampNeg then none else fd_146_276 x1 x3 x4 x7 (q1.2 105 x5.toNatClampNeg) q1.2)
def fd_146_236 (x1 : Int32) (x3 : Int32) (x4 : Int32) (x5 : Int32) (x7 : Int32) (M : am_M) : Option (Int32 × am_M) := if x1 < (4 : Int32) then (fd_146_258 x1 x3 x4 x5 x7 M) else (if (6 : Int32) < x1 then (fd_146_258 x1 x3 x4 x5 x7 M) else ((fd_144 x7 M).bind fun q3 => if q3.1 = (0 : Int32) then (some ((7 : Int32), q3.2)) else (fd_146_258 x1 x3 x4 x5 x7 q3.2)))
def fd_146_230 (x1 : Int32) (x3 : Int32) (x4 : Int32) (x5 : Int32) (x7 : Int32) (M : am_M) : Option (Int32 × am_M) := if x7 = (5 : Int32) then (some ((7 : Int32), M)) else (fd_146_236 x1 x3 x4 x5 x7 M)
def fd_146_217 (x1 : Int32) (x3 : Int32) (x4 : Int32) (x5 : Int32) (y0 : Int32) (M : am_M) : Option (Int32 × am_M) := if x1 = (3 : Int32) then (fd_146_230 x1 x3 x4 x5 y0 M) else (if x1 = (7 : Int32) then (fd_146_230 x1 x3 x4 x5 y0 M) else (fd_146_236 x1 x3 x4 x5 y0 M))
def fd_146_201 (x1 : Int32) (x3 : Int32) (x4 : Int32) (x5 : Int32) (M : am_M) : Option (Int32 × am_M) := (fd_150 x1 M).bind fun q1 => if q1.1 = (0 : Int32) then (fd_146_217 x1 x3 x4 x5 (-1 : Int32) q1.2) else ((fd_139 x3 q1.2).bind fun q4 => fd_146_217 x1 x3 x4 x5 q4.1 q4.2)
def fd_146_187 (x1 : Int32) (x3 : Int32) (x4 : Int32) (x5 : Int32) (M : am_M) : Option (Int32 × am_M) := if x1 = (5 : Int32) then (if x3 = x5 then (some ((6 : Int32), M)) else (fd_146_201 x1 x3 x4 x5 M)) else (fd_146_201 x1 x3 x4 x5 M)
def fd_146_169 (x1 : Int32) (x3 : Int32) (x4 : Int32) (x5 : Int32) (M : am_M) : Option (Int32 × am_M) := (fd_149 x1 M).bind fun q1 => if q1.1 = (0 : Int32) then (fd_146_187 x1 x3 x4 x5 q1.2) else (if x5 < 0 ∨ 6 ≤ x5.toNatClampNeg then none else if (q1.2 105 x5.toNatClampNeg) = (-1 : Int32) then (some ((6 : Int32), q1.2)) else (fd_146_187 x1 x3 x4 x5 q1.2))
def fd_146_147 (x1 : Int32) (x3 : Int32) (x4 : Int32) (x5 : Int32) (x6 : Int32) (M : am_M) : Option (Int32 × am_M) := (fd_150 x1 M).bind fun q1 => if q1.1 = (0 : Int32) then (fd_146_169 x1 x3 x4 x5 q1.2) else (if x6 = (0 : Int32) then (if x3 < 0 ∨ 6 ≤ x3.toNatClampNeg then none else if (q1.2 105 x3.toNatClampNeg) = (-1 : Int32) then (some ((6 : Int32), q1.2)) else (fd_146_169 x1 x3 x4 x5 q1.2)) else (fd_146_169 x1 x3 x4 x5 q1.2))
def fd_146_128 (x1 : Int32) (x3 : Int32) (x4 : Int32) (x5 : Int32) (x6 : Int32) (M : am_M) : Option (Int32 × am_M) := (fd_149 x1 M).bind fun q1 => if q1.1 = (0 : Int32) then (fd_146_147 x1 x3 x4 x5 x6 q1.2) else (if x5 < 0 ∨ 6 ≤ x5.toNatClampNeg then none else if (q1.2 106 x5.toNatClampNeg) = (0 : Int32) then (fd_146_147 x1 x3 x4 x5 x6 q1.2) else (some ((5 : Int32), q1.2)))
def fd_146_107 (x1 : Int32) (x3 : Int32) (x4 : Int32) (x5 : Int32) (x6 : Int32) (M : am_M) : Option (Int32 × am_M) := (fd_150 x1 M).bind fun q1 => if q1.1 = (0 : Int32) then (fd_146_128 x1 x3 x4 x5 x6 q1.2) else (if x6 = (0 : Int32) then (if x3 < 0 ∨ 6 ≤ x3.toNatClampNeg then none else if (q1.2 106 x3.toNatClampNeg) = (0 : Int32) then (fd_146_128 x1 x3 x4 x5 x6 q1.2) else (some ((5 : Int32), q1.2))) else (fd_146_128 x1 x3 x4 x5 x6 q1.2))
def fd_146_93 (x1 : Int32) (x3 : Int32) (x4 : Int32) (x5 : Int32) (y0 : Int32) (M : am_M) : Option (Int32 × am_M) := if y0 = (0 : Int32) then (fd_146_107 x1 x3 x4 x5 y0 M) else (if (M 96 14) = (0 : Int32) then (fd_146_107 x1 x3 x4 x5 y0 M) else (some ((5 : Int32), M)))
def fd_146_92 (x1 : Int32) (x3 : Int32) (x4 : Int32) (x5 : Int32) (M : am_M) : Option (Int32 × am_M) := fd_146_93 x1 x3 x4 x5 (0 : Int32) M
def fd_146_75 (x1 : Int32) (x3 : Int32) (x4 : Int32) (x5 : Int32) (M : am_M) : Option (Int32 × am_M) := (fd_150 x1 M).bind fun q1 => if q1.1 = (0 : Int32) then (fd_146_92 x1 x3 x4 x5 q1.2) else (if x3 = (6 : Int32) then (fd_146_93 x1 x3 x4 x5 (1 : Int32) q1.2) else (fd_146_92 x1 x3 x4 x5 q1.2))
def fd_146_60 (x1 : Int32) (x3 : Int32) (x4 : Int32) (x5 : Int32) (M : am_M) : Option (Int32 × am_M) := if x1 = (10 : Int32) then (if (M 96 14) = (0 : Int32) then (some ((4 : Int32), M)) else (fd_146_75 x1 x3 x4 x5 M)) else (fd_146_75 x1 x3 x4 x5 M)
def fd_146 (a1 : Int32) (a2 : Int32) (a3 : Int32) (a4 : Int32) (a5 : Int32) (M : am_M) : Option (Int32 × am_M) := if (M 96 7) = (0 : Int32) then (some ((1 : Int32), M)) else (if ((M 96 6) - (1 : Int32)) < 0 ∨ 6 ≤ ((M 96 6) - (1 : Int32)).toNatClampNeg then none else if (M 103 ((M 96 6) - (1 : Int32)).toNatClampNeg) = (10 : Int32) then (some ((2 : Int32), M)) else ((fd_147 a1 a2 a3 a4 a5 M).bind fun q4 => if q4.1 = (0 : Int32) then (some ((3 : Int32), q4.2)) else ((fd_135 q4.2).bind fun q7 => if a1 = (9 : Int32) then (if (q7 96 14) = (0 : Int32) then (fd_146_60 a1 a3 a4 a5 q7) else (some ((4 : Int32), q7))) else (fd_146_60 a1 a3 a4 a5 q7))))
def fd_145 (a1 : Int32) (a2 : Int32) (a3 : Int32) (a4 : Int32) (a5 : Int32) (M : am_M) : Option (Int32 × am_M) := (fd_146 a1 a2 a3 a4 a5 M).bind fun q1 => if q1.1 = (0 : Int32) then (if ((q1.2 96 6) - (1 : Int32)) < 0 ∨ 6 ≤ ((q1.2 96 6) - (1 : Int32)).toNatClampNeg then none else if (((50 : Int32) * ((q1.2 96 6) - (1 : Int32))) + ((5 : Int32) * (q1.2 103 ((q1.2 96 6) - (1 : Int32)).toNatClampNeg))) < 0 ∨ 300 ≤ (((50 : Int32) * ((q1.2 96 6) - (1 : Int32))) + ((5 : Int32) * (q1.2 103 ((q1.2 96 6) - (1 : Int32)).toNatClampNeg))).toNatClampNeg then none else if ((((50 : Int32) * ((q1.2 96 6) - (1 : Int32))) + ((5 : Int32) * (q1.2 103 ((q1.2 96 6) - (1 : Int32)).toNatClampNeg))) + (1 : Int32)) < 0 ∨ 300 ≤ ((((50 : Int32) * ((q1.2 96 6) - (1 : Int32))) + ((5 : Int32) * (q1.2 103 ((q1.2 96 6) - (1 : Int32)).toNatClampNeg))) + (1 : Int32)).toNatClampNeg then none else if ((((50 : Int32) * ((q1.2 96 6) - (1 : Int32))) + ((5 : Int32) * (q1.2 103 ((q1.2 96 6) - (1 : Int32)).toNatClampNeg))) + (2 : Int32)) < 0 ∨ 300 ≤ ((((50 : Int32) * ((q1.2 96 6) - (1 : Int32))) + ((5 : Int32) * (q1.2 103 ((q1.2 96 6) - (1 : Int32)).toNatClampNeg))) + (2 : Int32)).toNatClampNeg then none else if ((((50 : Int32) * ((q1.2 96 6) - (1 : Int32))) + ((5 : Int32) * (q1.2 103 ((q1.2 96 6) - (1 : Int32)).toNatClampNeg))) + (3 : Int32)) < 0 ∨ 300 ≤ ((((50 : Int32) * ((q1.2 96 6) - (1 : Int32))) + ((5 : Int32) * (q1.2 103 ((q1.2 96 6) - (1 : Int32)).toNatClampNeg))) + (3 : Int32)).toNatClampNeg then none else if ((((50 : Int32) * ((q1.2 96 6) - (1 : Int32))) + ((5 : Int32) * (q1.2 103 ((q1.2 96 6) - (1 : Int32)).toNatClampNeg))) + (4 : Int32)) < 0 ∨ 300 ≤ ((((50 : Int32) * ((q1.2 96 6) - (1 : Int32))) + ((5 : Int32) * (q1.2 103 ((q1.2 96 6) - (1 : Int32)).toNatClampNeg))) + (4 : Int32)).toNatClampNeg then none else if ((q1.2 96 6) - (1 : Int32)) < 0 ∨ 6 ≤ ((q1.2 96 6) - (1 : Int32)).toNatClampNeg then none else if ((q1.2 96 6) - (1 : Int32)) < 0 ∨ 6 ≤ ((q1.2 96 6) - (1 : Int32)).toNatClampNeg then none else some ((0 : Int32), (ds_w (ds_w (ds_w (ds_w (ds_w (ds_w q1.2 104 (((50 : Int32) * ((q1.2 96 6) - (1 : Int32))) + ((5 : Int32) * (q1.2 103 ((q1.2 96 6) - (1 : Int32)).toNatClampNeg))).toNatClampNeg a1) 104 ((((50 : Int32) * ((q1.2 96 6) - (1 : Int32))) + ((5 : Int32) * (q1.2 103 ((q1.2 96 6) - (1 : Int32)).toNatClampNeg))) + (1 : Int32)).toNatClampNeg a2) 104 ((((50 : Int32) * ((q1.2 96 6) - (1 : Int32))) + ((5 : Int32) * (q1.2 103 ((q1.2 96 6) - (1 : Int32)).toNatClampNeg))) + (2 : Int32)).toNatClampNeg a3) 104 ((((50 : Int32) * ((q1.2 96 6) - (1 : Int32))) + ((5 : Int32) * (q1.2 103 ((q1.2 96 6) - (1 : Int32)).toNatClampNeg))) + (3 : Int32)).toNatClampNeg a4) 104 ((((50 : Int32) * ((q1.2 96 6) - (1 : Int32))) + ((5 : Int32) * (q1.2 103 ((q1.2 96 6) - (1 : Int32)).toNatClampNeg))) + (4 : Int32)).toNatClampNeg a5) 103 ((q1.2 96 6) - (1 : Int32)).toNatClampNeg ((q1.2 103 ((q1.2 96 6) - (1 : Int32)).toNatClampNeg) + (1 : Int32))))) else (some (q1.1, q1.2))
def fd_153 (a1 : Int32) (M : am_M) : Option (Int32 × am_M) := if (M 96 7) = (0 : Int32) then (some ((-1 : Int32), M)) else ((fd_148 a1 (6 : Int32) M).bind fun q2 => if q2.1 = (0 : Int32) then (some ((-1 : Int32), q2.2)) else ((fd_135 q2.2).bind fun q5 => if a1 < 0 ∨ 6 ≤ a1.toNatClampNeg then none else if (q5 106 a1.toNatClampNeg) = (0 : Int32) then (if a1 < 0 ∨ 6 ≤ a1.toNatClampNeg then none else some ((q5 105 a1.toNatClampNeg), q5)) else (some ((-2 : Int32), q5))))
def fd_155 (a1 : Int32) (a2 : Int32) (a3 : Int32) (a4 : Int32) (M : am_M) : Option (am_M) := if (M 96 15) < 0 ∨ 20 ≤ (M 96 15).toNatClampNeg then none else if (M 96 15) < 0 ∨ 20 ≤ (M 96 15).toNatClampNeg then none else if (M 96 15) < 0 ∨ 20 ≤ (M 96 15).toNatClampNeg then none else if (M 96 15) < 0 ∨ 20 ≤ (M 96 15).toNatClampNeg then none else some (ds_w (ds_w (ds_w (ds_w (ds_w M 108 (M 96 15).toNatClampNeg a1) 109 (M 96 15).toNatClampNeg a2) 110 (M 96 15).toNatClampNeg a3) 111 (M 96 15).toNatClampNeg a4) 96 15 ((M 96 15) + (1 : Int32)))
def fd_154_32 (x1 : Int32) (x2 : Int32) (y0 : Int32) (y1 : Int32) (M : am_M) : Option (Int32 × am_M) := (fd_148 y0 y1 M).bind fun q1 => if q1.1 = (0 : Int32) then (some ((0 : Int32), q1.2)) else (if (q1.2 96 15) = (20 : Int32) then (some ((0 : Int32), q1.2)) else ((fd_155 (0 : Int32) x1 x2 (-1 : Int32) q1.2).bind fun q5 => some ((1 : Int32), q5)))
def fd_154 (a1 : Int32) (a2 : Int32) (M : am_M) : Option (Int32 × am_M) := (fd_148 a1 (M 96 0) M).bind fun q1 => if q1.1 = (0 : Int32) then (some ((0 : Int32), q1.2)) else (if (q1.2 96 7) = (0 : Int32) then (fd_154_32 a1 a2 a2 (q1.2 96 6) q1.2) else (fd_154_32 a1 a2 a2 ((q1.2 96 6) - (1 : Int32)) q1.2))
def fd_157_2 (f : Nat) : Int32 → am_M → Option (am_M) := Nat.rec (motive := fun _ => Int32 → am_M → Option (am_M)) (fun _ _ => none) (fun _ k2 => fun x2 M => if (M 96 15) ≤ (x2 + (1 : Int32)) then (some (ds_w M 96 15 ((M 96 15) - (1 : Int32)))) else (if (x2 + (1 : Int32)) < 0 ∨ 20 ≤ (x2 + (1 : Int32)).toNatClampNeg then none else if x2 < 0 ∨ 20 ≤ x2.toNatClampNeg then none else if (x2 + (1 : Int32)) < 0 ∨ 20 ≤ (x2 + (1 : Int32)).toNatClampNeg then none else if x2 < 0 ∨ 20 ≤ x2.toNatClampNeg then none else if (x2 + (1 : Int32)) < 0 ∨ 20 ≤ (x2 + (1 : Int32)).toNatClampNeg then none else if x2 < 0 ∨ 20 ≤ x2.toNatClampNeg then none else if (x2 + (1 : Int32)) < 0 ∨ 20 ≤ (x2 + (1 : Int32)).toNatClampNeg then none else if x2 < 0 ∨ 20 ≤ x2.toNatClampNeg then none else k2 (x2 + (1 : Int32)) (ds_w (ds_w (ds_w (ds_w M 108 x2.toNatClampNeg (M 108 (x2 + (1 : Int32)).toNatClampNeg)) 109 x2.toNatClampNeg (M 109 (x2 + (1 : Int32)).toNatClampNeg)) 110 x2.toNatClampNeg (M 110 (x2 + (1 : Int32)).toNatClampNeg)) 111 x2.toNatClampNeg (M 111 (x2 + (1 : Int32)).toNatClampNeg)))) f
def fd_157 (a1 : Int32) (M : am_M) : Option (am_M) := fd_157_2 1000 a1 M
def fd_158_2 (f : Nat) : Int32 → am_M → Option (am_M) := Nat.rec (motive := fun _ => Int32 → am_M → Option (am_M)) (fun _ _ => none) (fun _ k2 => fun x1 M => if (16 : Int32) ≤ x1 then (some M) else (if x1 < 0 ∨ 16 ≤ x1.toNatClampNeg then none else if x1 < 0 ∨ 16 ≤ x1.toNatClampNeg then none else k2 (x1 + (1 : Int32)) (ds_w (ds_w M 112 x1.toNatClampNeg ((0 : Int32) &&& 1)) 113 x1.toNatClampNeg ((0 : Int32) &&& 1)))) f
def fd_158 (M : am_M) : Option (am_M) := fd_158_2 1000 (0 : Int32) M
def fd_159_37 (y1 : Int32) (y2 : Int32) (M : am_M) : Option (am_M) := if y1 < 0 ∨ 16 ≤ y1.toNatClampNeg then none else some (ds_w M 113 y1.toNatClampNeg (y2 &&& 1))
def fd_159_32 (y1 : Int32) (M : am_M) : Option (am_M) := fd_159_37 y1 (1 : Int32) M
def fd_159 (a1 : Int32) (a2 : Int32) (M : am_M) : Option (am_M) := if a1 = (-1 : Int32) then (some M) else (if a1 < 0 ∨ 16 ≤ a1.toNatClampNeg then none else if a1 < 0 ∨ 16 ≤ a1.toNatClampNeg then none else if (M 113 a1.toNatClampNeg) = (0 : Int32) then (if a2 = (5 : Int32) then (fd_159_37 a1 (0 : Int32) (ds_w M 112 a1.toNatClampNeg ((1 : Int32) &&& 1))) else (fd_159_32 a1 (ds_w M 112 a1.toNatClampNeg ((1 : Int32) &&& 1)))) else (fd_159_32 a1 (ds_w M 112 a1.toNatClampNeg ((1 : Int32) &&& 1))))
def fd_160_42 (k10 : Int32 → Int32 → am_M → Option (am_M)) (x1 : Int32) (x2 : Int32) (M : am_M) : Option (am_M) := k10 x1 (x2 + (1 : Int32)) M
def fd_160_10 (k2 : Int32 → am_M → Option (am_M)) (f : Nat) : Int32 → Int32 → am_M → Option (am_M) := Nat.rec (motive := fun _ => Int32 → Int32 → am_M → Option (am_M)) (fun _ _ _ => none) (fun _ k10 => fun x1 x2 M => if (96 : Int32) ≤ x2 then (k2 (x1 + (1 : Int32)) M) else (if (x2 / (6 : Int32)) < 0 ∨ 16 ≤ (x2 / (6 : Int32)).toNatClampNeg then none else if (M 113 (x2 / (6 : Int32)).toNatClampNeg) = (0 : Int32) then (fd_160_42 k10 x1 x2 M) else (if x2 < 0 ∨ 96 ≤ x2.toNatClampNeg then none else (fd_159 (M 99 x2.toNatClampNeg) (x2 - x2 / (6 : Int32) * (6 : Int32)) M).bind fun q5 => fd_160_42 k10 x1 x2 q5))) f
def fd_160_2 (f : Nat) : Int32 → am_M → Option (am_M) := Nat.rec (motive := fun _ => Int32 → am_M → Option (am_M)) (fun _ _ => none) (fun _ k2 => fun x1 M => if (17 : Int32) ≤ x1 then (some M) else (fd_160_10 k2 1000 x1 (0 : Int32) M)) f
def fd_160 (M : am_M) : Option (am_M) := fd_160_2 1000 (0 : Int32) M
def fd_162_84 (f : Nat) : Int32 → Int32 → am_M → Option (Int32 × am_M) := Nat.rec (motive := fun _ => Int32 → Int32 → am_M → Option (Int32 × am_M)) (fun _ _ _ => none) (fun _ k84 => fun x2 x3 M => if (4 : Int32) ≤ x3 then (some (x2, M)) else (if (((16 : Int32) * x3) + x2) < 0 ∨ 64 ≤ (((16 : Int32) * x3) + x2).toNatClampNeg then none else k84 x2 (x3 + (1 : Int32)) (ds_w M 100 (((16 : Int32) * x3) + x2).toNatClampNeg (0 : Int32)))) f
def fd_162_58 (f : Nat) : Int32 → Int32 → am_M → Option (Int32 × am_M) := Nat.rec (motive := fun _ => Int32 → Int32 → am_M → Option (Int32 × am_M)) (fun _ _ _ => none) (fun _ k58 => fun x2 x3 M => if (6 : Int32) ≤ x3 then (fd_162_84 1000 x2 (0 : Int32) M) else (if (((6 : Int32) * x2) + x3) < 0 ∨ 96 ≤ (((6 : Int32) * x2) + x3).toNatClampNeg then none else k58 x2 (x3 + (1 : Int32)) (ds_w M 99 (((6 : Int32) * x2) + x3).toNatClampNeg (-1 : Int32)))) f
def fd_162_24 (x1 : Int32) (x2 : Int32) (M : am_M) : Option (Int32 × am_M) := if x2 = (16 : Int32) then (some ((-1 : Int32), (ds_w M 96 24 ((M 96 24) + (1 : Int32))))) else (if x2 < 0 ∨ 16 ≤ x2.toNatClampNeg then none else if x2 < 0 ∨ 16 ≤ x2.toNatClampNeg then none else fd_162_58 1000 x2 (0 : Int32) (ds_w (ds_w M 97 x2.toNatClampNeg x1) 98 x2.toNatClampNeg (0 : Int32)))
def fd_162_2 (f : Nat) : Int32 → Int32 → am_M → Option (Int32 × am_M) := Nat.rec (motive := fun _ => Int32 → Int32 → am_M → Option (Int32 × am_M)) (fun _ _ _ => none) (fun _ k2 => fun x1 x2 M => if (16 : Int32) ≤ x2 then (fd_162_24 x1 x2 M) else (if x2 < 0 ∨ 16 ≤ x2.toNatClampNeg then none else if (M 97 x2.toNatClampNeg) = (-1 : Int32) then (fd_162_24 x1 x2 M) else (k2 x1 (x2 + (1 : Int32)) M))) f
def fd_162 (a1 : Int32) (M : am_M) : Option (Int32 × am_M) := fd_162_2 1000 a1 (0 : Int32) M
def fd_163 (a1 : Int32) (a2 : Int32) (a3 : Int32) (M : am_M) : Option (Int32 × am_M) := if a2 = (6 : Int32) then (if (((6 : Int32) * a1) + a3) < 0 ∨ 24 ≤ (((6 : Int32) * a1) + a3).toNatClampNeg then none else some ((M 101 (((6 : Int32) * a1) + a3).toNatClampNeg), M)) else (if a2 < 0 ∨ 6 ≤ a2.toNatClampNeg then none else if (M 115 a2.toNatClampNeg) = (-1 : Int32) then (some ((-1 : Int32), M)) else (if a2 < 0 ∨ 6 ≤ a2.toNatClampNeg then none else if (((6 : Int32) * (M 115 a2.toNatClampNeg)) + a3) < 0 ∨ 96 ≤ (((6 : Int32) * (M 115 a2.toNatClampNeg)) + a3).toNatClampNeg then none else some ((M 99 (((6 : Int32) * (M 115 a2.toNatClampNeg)) + a3).toNatClampNeg), M)))
def fd_164 (a1 : Int32) (a2 : Int32) (a3 : Int32) (a4 : Int32) (M : am_M) : Option (am_M) := if a2 = (6 : Int32) then (if (((6 : Int32) * a1) + a3) < 0 ∨ 24 ≤ (((6 : Int32) * a1) + a3).toNatClampNeg then none else some (ds_w M 101 (((6 : Int32) * a1) + a3).toNatClampNeg a4)) else (if a2 < 0 ∨ 6 ≤ a2.toNatClampNeg then none else if (M 115 a2.toNatClampNeg) = (-1 : Int32) then (some M) else (if a2 < 0 ∨ 6 ≤ a2.toNatClampNeg then none else if (((6 : Int32) * (M 115 a2.toNatClampNeg)) + a3) < 0 ∨ 96 ≤ (((6 : Int32) * (M 115 a2.toNatClampNeg)) + a3).toNatClampNeg then none else some (ds_w M 99 (((6 : Int32) * (M 115 a2.toNatClampNeg)) + a3).toNatClampNeg a4)))
def fd_165_3 (f : Nat) : Int32 → Int32 → am_M → Option (am_M) := Nat.rec (motive := fun _ => Int32 → Int32 → am_M → Option (am_M)) (fun _ _ _ => none) (fun _ k3 => fun x1 x2 M => if x2 ≤ (0 : Int32) then (if (0 : Int32) < 0 ∨ 16 ≤ (0 : Int32).toNatClampNeg then none else some (ds_w (ds_w M 116 (0 : Int32).toNatClampNeg x1) 96 25 ((M 96 25) + (1 : Int32)))) else (if (x2 - (1 : Int32)) < 0 ∨ 16 ≤ (x2 - (1 : Int32)).toNatClampNeg then none else if x2 < 0 ∨ 16 ≤ x2.toNatClampNeg then none else k3 x1 (x2 + (-1 : Int32)) (ds_w M 116 x2.toNatClampNeg (M 116 (x2 - (1 : Int32)).toNatClampNeg)))) f
def fd_165 (a1 : Int32) (M : am_M) : Option (am_M) := fd_165_3 1000 a1 (15 : Int32) M
def fd_167 (a1 : Int32) (a2 : Int32) (M : am_M) : Option (am_M) := if a2 < 0 ∨ 16 ≤ a2.toNatClampNeg then none else if (M 97 a2.toNatClampNeg) = a1 then (if (((16 : Int32) * a1) + a2) < 0 ∨ 64 ≤ (((16 : Int32) * a1) + a2).toNatClampNeg then none else if (((16 : Int32) * a1) + a2) < 0 ∨ 64 ≤ (((16 : Int32) * a1) + a2).toNatClampNeg then none else some (ds_w M 100 (((16 : Int32) * a1) + a2).toNatClampNeg ((M 100 (((16 : Int32) * a1) + a2).toNatClampNeg) + (1 : Int32)))) else (if (((16 : Int32) * a1) + a2) < 0 ∨ 64 ≤ (((16 : Int32) * a1) + a2).toNatClampNeg then none else if (M 100 (((16 : Int32) * a1) + a2).toNatClampNeg) < (2 : Int32) then (if a2 < 0 ∨ 16 ≤ a2.toNatClampNeg then none else (fd_155 (1 : Int32) (M 97 a2.toNatClampNeg) a2 (8 : Int32) M).bind fun q6 => if (((16 : Int32) * a1) + a2) < 0 ∨ 64 ≤ (((16 : Int32) * a1) + a2).toNatClampNeg then none else if (((16 : Int32) * a1) + a2) < 0 ∨ 64 ≤ (((16 : Int32) * a1) + a2).toNatClampNeg then none else some (ds_w q6 100 (((16 : Int32) * a1) + a2).toNatClampNeg ((q6 100 (((16 : Int32) * a1) + a2).toNatClampNeg) + (7 : Int32)))) else (if (((16 : Int32) * a1) + a2) < 0 ∨ 64 ≤ (((16 : Int32) * a1) + a2).toNatClampNeg then none else if (((16 : Int32) * a1) + a2) < 0 ∨ 64 ≤ (((16 : Int32) * a1) + a2).toNatClampNeg then none else some (ds_w M 100 (((16 : Int32) * a1) + a2).toNatClampNeg ((M 100 (((16 : Int32) * a1) + a2).toNatClampNeg) - (1 : Int32)))))
def fd_166_131 (k107 : Int32 → Int32 → Int32 → Int32 → Int32 → am_M → Option (am_M)) (x1 : Int32) (x2 : Int32) (x3 : Int32) (x4 : Int32) (x6 : Int32) (M : am_M) : Option (am_M) := k107 x1 x2 x3 x4 (x6 + (1 : Int32)) M
def fd_166_107 (f : Nat) : Int32 → Int32 → Int32 → Int32 → Int32 → am_M → Option (am_M) := Nat.rec (motive := fun _ => Int32 → Int32 → Int32 → Int32 → Int32 → am_M → Option (am_M)) (fun _ _ _ _ _ _ => none) (fun _ k107 => fun x1 x2 x3 x4 x6 M => if (16 : Int32) ≤ x6 then ((fd_155 (0 : Int32) x2 x3 x4 M).bind fun q2 => some q2) else (if x6 < 0 ∨ 16 ≤ x6.toNatClampNeg then none else if (M 112 x6.toNatClampNeg) = (0 : Int32) then (fd_166_131 k107 x1 x2 x3 x4 x6 M) else ((fd_167 x1 x6 M).bind fun q6 => fd_166_131 k107 x1 x2 x3 x4 x6 q6))) f
def fd_166_73 (k26 : Int32 → Int32 → Int32 → Int32 → Int32 → Int32 → am_M → Option (am_M)) (x1 : Int32) (x2 : Int32) (x3 : Int32) (x4 : Int32) (x5 : Int32) (x6 : Int32) (M : am_M) : Option (am_M) := k26 x1 x2 x3 x4 x5 (x6 + (1 : Int32)) M
def fd_166_26 (f : Nat) : Int32 → Int32 → Int32 → Int32 → Int32 → Int32 → am_M → Option (am_M) := Nat.rec (motive := fun _ => Int32 → Int32 → Int32 → Int32 → Int32 → Int32 → am_M → Option (am_M)) (fun _ _ _ _ _ _ _ => none) (fun _ k26 => fun x1 x2 x3 x4 x5 x6 M => if (16 : Int32) ≤ x6 then (if (((M 96 15) + x5) + (1 : Int32)) ≤ (20 : Int32) then (fd_166_107 1000 x1 x2 x3 x4 (0 : Int32) M) else (some (ds_w M 96 24 ((M 96 24) + (1 : Int32))))) else (if x6 < 0 ∨ 16 ≤ x6.toNatClampNeg then none else if (M 112 x6.toNatClampNeg) = (0 : Int32) then (fd_166_73 k26 x1 x2 x3 x4 x5 x6 M) else (if x6 < 0 ∨ 16 ≤ x6.toNatClampNeg then none else if (M 97 x6.toNatClampNeg) = x1 then (fd_166_73 k26 x1 x2 x3 x4 x5 x6 M) else (if (((16 : Int32) * x1) + x6) < 0 ∨ 64 ≤ (((16 : Int32) * x1) + x6).toNatClampNeg then none else if (2 : Int32) ≤ (M 100 (((16 : Int32) * x1) + x6).toNatClampNeg) then (fd_166_73 k26 x1 x2 x3 x4 x5 x6 M) else (fd_166_73 k26 x1 x2 x3 x4 (x5 + (1 : Int32)) x6 M))))) f
def fd_166 (a1 : Int32) (a2 : Int32) (a3 : Int32) (a4 : Int32) (M : am_M) : Option (am_M) := (fd_158 M).bind fun q1 => if a3 < 0 ∨ 6 ≤ a3.toNatClampNeg then none else (fd_159 a4 (q1 102 a3.toNatClampNeg) q1).bind fun q4 => (fd_160 q4).bind fun q6 => fd_166_26 1000 a1 a2 a3 a4 (0 : Int32) (0 : Int32) q6
def fd_161_82 (x4 : Int32) (x5 : Int32) (M : am_M) : Option (am_M) := if x5 < 0 ∨ 6 ≤ x5.toNatClampNeg then none else if x4 < 0 ∨ 6 ≤ x4.toNatClampNeg then none else some (ds_w M 115 x4.toNatClampNeg (M 115 x5.toNatClampNeg))
def fd_161 (a1 : Int32) (a2 : Int32) (M : am_M) : Option (am_M) := if a2 < 0 ∨ 300 ≤ a2.toNatClampNeg then none else if (a2 + (1 : Int32)) < 0 ∨ 300 ≤ (a2 + (1 : Int32)).toNatClampNeg then none else if (a2 + (2 : Int32)) < 0 ∨ 300 ≤ (a2 + (2 : Int32)).toNatClampNeg then none else if (a2 + (3 : Int32)) < 0 ∨ 300 ≤ (a2 + (3 : Int32)).toNatClampNeg then none else if (a2 + (4 : Int32)) < 0 ∨ 300 ≤ (a2 + (4 : Int32)).toNatClampNeg then none else if (M 104 a2.toNatClampNeg) = (0 : Int32) then ((fd_162 a1 M).bind fun q43 => if (M 104 (a2 + (1 : Int32)).toNatClampNeg) < 0 ∨ 6 ≤ (M 104 (a2 + (1 : Int32)).toNatClampNeg).toNatClampNeg then none else some (ds_w q43.2 115 (M 104 (a2 + (1 : Int32)).toNatClampNeg).toNatClampNeg q43.1)) else (if (M 104 a2.toNatClampNeg) = (1 : Int32) then (fd_161_82 (M 104 (a2 + (1 : Int32)).toNatClampNeg) (M 104 (a2 + (2 : Int32)).toNatClampNeg) M) else (if (M 104 a2.toNatClampNeg) = (2 : Int32) then (fd_161_82 (M 104 (a2 + (1 : Int32)).toNatClampNeg) (M 104 (a2 + (2 : Int32)).toNatClampNeg) M) else (if (M 104 a2.toNatClampNeg) = (10 : Int32) then (fd_161_82 (M 104 (a2 + (1 : Int32)).toNatClampNeg) (M 104 (a2 + (2 : Int32)).toNatClampNeg) M) else (if (M 104 a2.toNatClampNeg) = (3 : Int32) then ((fd_163 a1 (M 104 (a2 + (2 : Int32)).toNatClampNeg) (M 104 (a2 + (3 : Int32)).toNatClampNeg) M).bind fun q40 => if (M 104 (a2 + (1 : Int32)).toNatClampNeg) < 0 ∨ 6 ≤ (M 104 (a2 + (1 : Int32)).toNatClampNeg).toNatClampNeg then none else some (ds_w q40.2 115 (M 104 (a2 + (1 : Int32)).toNatClampNeg).toNatClampNeg q40.1)) else (if (M 104 a2.toNatClampNeg) = (4 : Int32) then (if (M 104 (a2 + (4 : Int32)).toNatClampNeg) < 0 ∨ 6 ≤ (M 104 (a2 + (4 : Int32)).toNatClampNeg).toNatClampNeg then none else (fd_164 a1 (M 104 (a2 + (2 : Int32)).toNatClampNeg) (M 104 (a2 + (3 : Int32)).toNatClampNeg) (M 115 (M 104 (a2 + (4 : Int32)).toNatClampNeg).toNatClampNeg) M).bind fun q38 => some q38) else (if (M 104 a2.toNatClampNeg) = (5 : Int32) then ((fd_163 a1 (M 104 (a2 + (2 : Int32)).toNatClampNeg) (M 104 (a2 + (3 : Int32)).toNatClampNeg) M).bind fun q31 => if (M 104 (a2 + (4 : Int32)).toNatClampNeg) < 0 ∨ 6 ≤ (M 104 (a2 + (4 : Int32)).toNatClampNeg).toNatClampNeg then none else (fd_164 a1 (M 104 (a2 + (2 : Int32)).toNatClampNeg) (M 104 (a2 + (3 : Int32)).toNatClampNeg) (q31.2 115 (M 104 (a2 + (4 : Int32)).toNatClampNeg).toNatClampNeg) q31.2).bind fun q34 => if (M 104 (a2 + (1 : Int32)).toNatClampNeg) < 0 ∨ 6 ≤ (M 104 (a2 + (1 : Int32)).toNatClampNeg).toNatClampNeg then none else some (ds_w q34 115 (M 104 (a2 + (1 : Int32)).toNatClampNeg).toNatClampNeg q31.1)) else (if (M 104 a2.toNatClampNeg) = (6 : Int32) then (if (M 104 (a2 + (2 : Int32)).toNatClampNeg) < 0 ∨ 6 ≤ (M 104 (a2 + (2 : Int32)).toNatClampNeg).toNatClampNeg then none else if (M 115 (M 104 (a2 + (2 : Int32)).toNatClampNeg).toNatClampNeg) = (-1 : Int32) then (some M) else (if (M 104 (a2 + (2 : Int32)).toNatClampNeg) < 0 ∨ 6 ≤ (M 104 (a2 + (2 : Int32)).toNatClampNeg).toNatClampNeg then none else if (M 115 (M 104 (a2 + (2 : Int32)).toNatClampNeg).toNatClampNeg) < 0 ∨ 16 ≤ (M 115 (M 104 (a2 + (2 : Int32)).toNatClampNeg).toNatClampNeg).toNatClampNeg then none else if (M 115 (M 104 (a2 + (2 : Int32)).toNatClampNeg).toNatClampNeg) < 0 ∨ 16 ≤ (M 115 (M 104 (a2 + (2 : Int32)).toNatClampNeg).toNatClampNeg).toNatClampNeg then none else some (ds_w M 98 (M 115 (M 104 (a2 + (2 : Int32)).toNatClampNeg).toNatClampNeg).toNatClampNeg ((M 98 (M 115 (M 104 (a2 + (2 : Int32)).toNatClampNeg).toNatClampNeg).toNatClampNeg) + (M 104 (a2 + (4 : Int32)).toNatClampNeg))))) else (if (M 104 a2.toNatClampNeg) = (7 : Int32) then (if (M 104 (a2 + (2 : Int32)).toNatClampNeg) < 0 ∨ 6 ≤ (M 104 (a2 + (2 : Int32)).toNatClampNeg).toNatClampNeg then none else if (M 115 (M 104 (a2 + (2 : Int32)).toNatClampNeg).toNatClampNeg) = (-1 : Int32) then (some M) else (if (M 104 (a2 + (2 : Int32)).toNatClampNeg) < 0 ∨ 6 ≤ (M 104 (a2 + (2 : Int32)).toNatClampNeg).toNatClampNeg then none else if (M 115 (M 104 (a2 + (2 : Int32)).toNatClampNeg).toNatClampNeg) < 0 ∨ 16 ≤ (M 115 (M 104 (a2 + (2 : Int32)).toNatClampNeg).toNatClampNeg).toNatClampNeg then none else (fd_165 (M 98 (M 115 (M 104 (a2 + (2 : Int32)).toNatClampNeg).toNatClampNeg).toNatClampNeg) M).bind fun q24 => some q24)) else (if (M 104 a2.toNatClampNeg) = (8 : Int32) then (if (M 96 0) = 0 then none else if (M 104 (a2 + (4 : Int32)).toNatClampNeg) < 0 ∨ 6 ≤ (M 104 (a2 + (4 : Int32)).toNatClampNeg).toNatClampNeg then none else (fd_166 a1 ((a1 + (M 104 (a2 + (1 : Int32)).toNatClampNeg)) - (a1 + (M 104 (a2 + (1 : Int32)).toNatClampNeg)) / (M 96 0) * (M 96 0)) (M 104 (a2 + (2 : Int32)).toNatClampNeg) (M 115 (M 104 (a2 + (4 : Int32)).toNatClampNeg).toNatClampNeg) M).bind fun q18 => some q18) else (some M))))))))))
def fd_156_227 (f : Nat) : Int32 → Int32 → Int32 → am_M → Option (Int32 × am_M) := Nat.rec (motive := fun _ => Int32 → Int32 → Int32 → am_M → Option (Int32 × am_M)) (fun _ _ _ _ => none) (fun _ k227 => fun x1 x4 x6 M => if x4 < 0 ∨ 6 ≤ x4.toNatClampNeg then none else if (M 103 x4.toNatClampNeg) ≤ x6 then (some ((0 : Int32), M)) else ((fd_161 x1 (((50 : Int32) * x4) + ((5 : Int32) * x6)) M).bind fun q3 => k227 x1 x4 (x6 + (1 : Int32)) q3)) f
def fd_156_195 (f : Nat) : Int32 → Int32 → Int32 → Int32 → am_M → Option (Int32 × am_M) := Nat.rec (motive := fun _ => Int32 → Int32 → Int32 → Int32 → am_M → Option (Int32 × am_M)) (fun _ _ _ _ _ => none) (fun _ k195 => fun x1 x4 x5 x6 M => if (6 : Int32) ≤ x6 then (if (0 : Int32) < 0 ∨ 6 ≤ (0 : Int32).toNatClampNeg then none else fd_156_227 1000 x1 x4 (0 : Int32) (ds_w M 115 (0 : Int32).toNatClampNeg x5)) else (if x6 < 0 ∨ 6 ≤ x6.toNatClampNeg then none else k195 x1 x4 x5 (x6 + (1 : Int32)) (ds_w M 115 x6.toNatClampNeg (-1 : Int32)))) f
def fd_156_186 (k138 : Int32 → Int32 → Int32 → Int32 → am_M → Option (Int32 × am_M)) (x1 : Int32) (x4 : Int32) (x5 : Int32) (x6 : Int32) (M : am_M) : Option (Int32 × am_M) := k138 x1 x4 x5 (x6 + (1 : Int32)) M
def fd_156_184 (k138 : Int32 → Int32 → Int32 → Int32 → am_M → Option (Int32 × am_M)) (x1 : Int32) (x4 : Int32) (x5 : Int32) (x6 : Int32) (y1 : Int32) (y2 : Int32) (y3 : Int32) (M : am_M) : Option (Int32 × am_M) := if y1 < 0 ∨ 64 ≤ y1.toNatClampNeg then none else fd_156_186 k138 x1 x4 x5 x6 (ds_w M 100 y1.toNatClampNeg (y2 + y3))
def fd_156_138 (f : Nat) : Int32 → Int32 → Int32 → Int32 → am_M → Option (Int32 × am_M) := Nat.rec (motive := fun _ => Int32 → Int32 → Int32 → Int32 → am_M → Option (Int32 × am_M)) (fun _ _ _ _ _ => none) (fun _ k138 => fun x1 x4 x5 x6 M => if (16 : Int32) ≤ x6 then (fd_156_195 1000 x1 x4 x5 (0 : Int32) M) else (if x6 < 0 ∨ 16 ≤ x6.toNatClampNeg then none else if (M 112 x6.toNatClampNeg) = (0 : Int32) then (fd_156_186 k138 x1 x4 x5 x6 M) else (if (((16 : Int32) * x1) + x6) < 0 ∨ 64 ≤ (((16 : Int32) * x1) + x6).toNatClampNeg then none else if x6 < 0 ∨ 16 ≤ x6.toNatClampNeg then none else if (M 97 x6.toNatClampNeg) = x1 then (fd_156_184 k138 x1 x4 x5 x6 (((16 : Int32) * x1) + x6) (M 100 (((16 : Int32) * x1) + x6).toNatClampNeg) (-1 : Int32) M) else (fd_156_184 k138 x1 x4 x5 x6 (((16 : Int32) * x1) + x6) (M 100 (((16 : Int32) * x1) + x6).toNatClampNeg) (1 : Int32) M)))) f
def fd_156_108 (x1 : Int32) (x3 : Int32) (x4 : Int32) (x5 : Int32) (M : am_M) : Option (Int32 × am_M) := if x3 = (0 : Int32) then ((fd_158 M).bind fun q2 => if x4 < 0 ∨ 6 ≤ x4.toNatClampNeg then none else (fd_159 x5 (q2 102 x4.toNatClampNeg) q2).bind fun q5 => (fd_160 q5).bind fun q7 => fd_156_138 1000 x1 x4 x5 (0 : Int32) q7) else (some (x3, M))
def fd_156_86 (x1 : Int32) (x3 : Int32) (x4 : Int32) (x5 : Int32) (M : am_M) : Option (Int32 × am_M) := if x3 = (2 : Int32) then (if (((16 : Int32) * x1) + x4) < 0 ∨ 64 ≤ (((16 : Int32) * x1) + x4).toNatClampNeg then none else if (((16 : Int32) * x1) + x4) < 0 ∨ 64 ≤ (((16 : Int32) * x1) + x4).toNatClampNeg then none else fd_156_108 x1 x3 x4 x5 (ds_w M 100 (((16 : Int32) * x1) + x4).toNatClampNeg ((M 100 (((16 : Int32) * x1) + x4).toNatClampNeg) - x5))) else (fd_156_108 x1 x3 x4 x5 M)
def fd_156_26 (x1 : Int32) (x2 : Int32) (M : am_M) : Option (Int32 × am_M) := if x2 = (M 96 15) then (some ((-1 : Int32), M)) else (if x2 < 0 ∨ 20 ≤ x2.toNatClampNeg then none else if x2 < 0 ∨ 20 ≤ x2.toNatClampNeg then none else if x2 < 0 ∨ 20 ≤ x2.toNatClampNeg then none else (fd_157 x2 M).bind fun q5 => if (M 108 x2.toNatClampNeg) = (1 : Int32) then (if (((16 : Int32) * x1) + (M 110 x2.toNatClampNeg)) < 0 ∨ 64 ≤ (((16 : Int32) * x1) + (M 110 x2.toNatClampNeg)).toNatClampNeg then none else if (((16 : Int32) * x1) + (M 110 x2.toNatClampNeg)) < 0 ∨ 64 ≤ (((16 : Int32) * x1) + (M 110 x2.toNatClampNeg)).toNatClampNeg then none else fd_156_86 x1 (M 108 x2.toNatClampNeg) (M 110 x2.toNatClampNeg) (M 111 x2.toNatClampNeg) (ds_w q5 100 (((16 : Int32) * x1) + (M 110 x2.toNatClampNeg)).toNatClampNeg ((q5 100 (((16 : Int32) * x1) + (M 110 x2.toNatClampNeg)).toNatClampNeg) + (M 111 x2.toNatClampNeg)))) else (fd_156_86 x1 (M 108 x2.toNatClampNeg) (M 110 x2.toNatClampNeg) (M 111 x2.toNatClampNeg) q5))
def fd_156_2 (f : Nat) : Int32 → Int32 → am_M → Option (Int32 × am_M) := Nat.rec (motive := fun _ => Int32 → Int32 → am_M → Option (Int32 × am_M)) (fun _ _ _ => none) (fun _ k2 => fun x1 x2 M => if (M 96 15) ≤ x2 then (fd_156_26 x1 x2 M) else (if x2 < 0 ∨ 20 ≤ x2.toNatClampNeg then none else if (M 109 x2.toNatClampNeg) = x1 then (fd_156_26 x1 x2 M) else (k2 x1 (x2 + (1 : Int32)) M))) f
def fd_156 (a1 : Int32) (M : am_M) : Option (Int32 × am_M) := fd_156_2 1000 a1 (0 : Int32) M
def fd_169_2 (f : Nat) : Int32 → Int32 → am_M → Option (am_M) := Nat.rec (motive := fun _ => Int32 → Int32 → am_M → Option (am_M)) (fun _ _ _ => none) (fun _ k2 => fun x1 x2 M => if (6 : Int32) ≤ x2 then (some M) else (if (((6 : Int32) * x1) + x2) < 0 ∨ 24 ≤ (((6 : Int32) * x1) + x2).toNatClampNeg then none else (fd_159 (M 101 (((6 : Int32) * x1) + x2).toNatClampNeg) x2 M).bind fun q3 => k2 x1 (x2 + (1 : Int32)) q3)) f
def fd_169 (a1 : Int32) (M : am_M) : Option (am_M) := fd_169_2 1000 a1 (0 : Int32) M
def fd_170_40 (k9 : Int32 → Int32 → am_M → Option (am_M)) (x1 : Int32) (x2 : Int32) (M : am_M) : Option (am_M) := k9 x1 (x2 + (1 : Int32)) M
def fd_170_33 (k9 : Int32 → Int32 → am_M → Option (am_M)) (x1 : Int32) (x2 : Int32) (M : am_M) : Option (am_M) := if x2 < 0 ∨ 96 ≤ x2.toNatClampNeg then none else fd_170_40 k9 x1 x2 (ds_w M 99 x2.toNatClampNeg (-1 : Int32))
def fd_170_9 (f : Nat) : Int32 → Int32 → am_M → Option (am_M) := Nat.rec (motive := fun _ => Int32 → Int32 → am_M → Option (am_M)) (fun _ _ _ => none) (fun _ k9 => fun x1 x2 M => if (96 : Int32) ≤ x2 then (some M) else (if x2 < 0 ∨ 96 ≤ x2.toNatClampNeg then none else if (M 99 x2.toNatClampNeg) = x1 then (fd_170_33 k9 x1 x2 M) else (if (x2 / (6 : Int32)) = x1 then (fd_170_33 k9 x1 x2 M) else (fd_170_40 k9 x1 x2 M)))) f
def fd_170 (a1 : Int32) (M : am_M) : Option (am_M) := if a1 < 0 ∨ 16 ≤ a1.toNatClampNeg then none else fd_170_9 1000 a1 (0 : Int32) (ds_w M 97 a1.toNatClampNeg (-1 : Int32))
def fd_168_173 (k85 : Int32 → Int32 → Int32 → am_M → Option (Int32 × am_M)) (x1 : Int32) (x2 : Int32) (x3 : Int32) (M : am_M) : Option (Int32 × am_M) := k85 x1 x2 (x3 + (1 : Int32)) M
def fd_168_85 (f : Nat) : Int32 → Int32 → Int32 → am_M → Option (Int32 × am_M) := Nat.rec (motive := fun _ => Int32 → Int32 → Int32 → am_M → Option (Int32 × am_M)) (fun _ _ _ _ => none) (fun _ k85 => fun x1 x2 x3 M => if (16 : Int32) ≤ x3 then (some (x2, M)) else (if (((16 : Int32) * x1) + x3) < 0 ∨ 64 ≤ (((16 : Int32) * x1) + x3).toNatClampNeg then none else if x3 < 0 ∨ 16 ≤ x3.toNatClampNeg then none else if (M 97 x3.toNatClampNeg) = (-1 : Int32) then (fd_168_173 k85 x1 x2 x3 M) else (if x3 < 0 ∨ 16 ≤ x3.toNatClampNeg then none else if (M 97 x3.toNatClampNeg) = x1 then (fd_168_173 k85 x1 x2 x3 M) else (if x3 < 0 ∨ 16 ≤ x3.toNatClampNeg then none else if (M 112 x3.toNatClampNeg) = (0 : Int32) then (if (M 100 (((16 : Int32) * x1) + x3).toNatClampNeg) = (0 : Int32) then (fd_168_173 k85 x1 x2 x3 M) else (if (20 : Int32) ≤ (M 96 15) then (fd_168_173 k85 x1 x2 x3 M) else (if x3 < 0 ∨ 16 ≤ x3.toNatClampNeg then none else (fd_155 (2 : Int32) (M 97 x3.toNatClampNeg) x3 (M 100 (((16 : Int32) * x1) + x3).toNatClampNeg) M).bind fun q12 => if (((16 : Int32) * x1) + x3) < 0 ∨ 64 ≤ (((16 : Int32) * x1) + x3).toNatClampNeg then none else fd_168_173 k85 x1 x2 x3 (ds_w q12 100 (((16 : Int32) * x1) + x3).toNatClampNeg (0 : Int32))))) else (fd_168_173 k85 x1 x2 x3 M))))) f
def fd_168_77 (k30 : Int32 → Int32 → Int32 → am_M → Option (Int32 × am_M)) (x1 : Int32) (x2 : Int32) (x3 : Int32) (M : am_M) : Option (Int32 × am_M) := k30 x1 x2 (x3 + (1 : Int32)) M
def fd_168_30 (f : Nat) : Int32 → Int32 → Int32 → am_M → Option (Int32 × am_M) := Nat.rec (motive := fun _ => Int32 → Int32 → Int32 → am_M → Option (Int32 × am_M)) (fun _ _ _ _ => none) (fun _ k30 => fun x1 x2 x3 M => if (16 : Int32) ≤ x3 then (fd_168_85 1000 x1 x2 (0 : Int32) M) else (if x3 < 0 ∨ 16 ≤ x3.toNatClampNeg then none else if (M 97 x3.toNatClampNeg) = x1 then (if x3 < 0 ∨ 16 ≤ x3.toNatClampNeg then none else if (M 112 x3.toNatClampNeg) = (0 : Int32) then (if (((16 : Int32) * x1) + x3) < 0 ∨ 64 ≤ (((16 : Int32) * x1) + x3).toNatClampNeg then none else if (M 100 (((16 : Int32) * x1) + x3).toNatClampNeg) = (0 : Int32) then ((fd_170 x3 M).bind fun q8 => fd_168_77 k30 x1 (x2 + (1 : Int32)) x3 q8) else (fd_168_77 k30 x1 x2 x3 M)) else (fd_168_77 k30 x1 x2 x3 M)) else (fd_168_77 k30 x1 x2 x3 M))) f
def fd_168 (a1 : Int32) (M : am_M) : Option (Int32 × am_M) := (fd_148 a1 (M 96 0) M).bind fun q1 => if q1.1 = (0 : Int32) then (some ((-1 : Int32), q1.2)) else ((fd_158 q1.2).bind fun q4 => (fd_169 a1 q4).bind fun q6 => (fd_160 q6).bind fun q8 => fd_168_30 1000 a1 (0 : Int32) (0 : Int32) q8)
def fd_171_38 (k17 : Int32 → Int32 → Int32 → am_M → Option (Int32 × am_M)) (x1 : Int32) (x2 : Int32) (x3 : Int32) (M : am_M) : Option (Int32 × am_M) := k17 x1 x2 (x3 + (1 : Int32)) M
def fd_171_17 (f : Nat) : Int32 → Int32 → Int32 → am_M → Option (Int32 × am_M) := Nat.rec (motive := fun _ => Int32 → Int32 → Int32 → am_M → Option (Int32 × am_M)) (fun _ _ _ _ => none) (fun _ k17 => fun x1 x2 x3 M => if (M 96 15) ≤ x3 then (some (x2, M)) else (if x3 < 0 ∨ 20 ≤ x3.toNatClampNeg then none else if (M 109 x3.toNatClampNeg) = x1 then (fd_171_38 k17 x1 (x2 + (1 : Int32)) x3 M) else (fd_171_38 k17 x1 x2 x3 M))) f
def fd_171 (a1 : Int32) (M : am_M) : Option (Int32 × am_M) := (fd_148 a1 (M 96 0) M).bind fun q1 => if q1.1 = (0 : Int32) then (some ((-1 : Int32), q1.2)) else (fd_171_17 1000 a1 (0 : Int32) (0 : Int32) q1.2)
def fd_173 (a1 : Int32) (M : am_M) : Option (Int32 × am_M) := (fd_148 a1 (16 : Int32) M).bind fun q1 => if q1.1 = (0 : Int32) then (some ((0 : Int32), q1.2)) else (if a1 < 0 ∨ 16 ≤ a1.toNatClampNeg then none else if (q1.2 97 a1.toNatClampNeg) = (-1 : Int32) then (some ((0 : Int32), q1.2)) else (some ((1 : Int32), q1.2)))
def fd_172 (a1 : Int32) (M : am_M) : Option (Int32 × am_M) := (fd_173 a1 M).bind fun q1 => if q1.1 = (0 : Int32) then (some ((-1 : Int32), q1.2)) else (if a1 < 0 ∨ 16 ≤ a1.toNatClampNeg then none else some ((q1.2 97 a1.toNatClampNeg), q1.2))
def fd_174 (a1 : Int32) (M : am_M) : Option (Int32 × am_M) := (fd_173 a1 M).bind fun q1 => if q1.1 = (0 : Int32) then (some ((0 : Int32), q1.2)) else (if a1 < 0 ∨ 16 ≤ a1.toNatClampNeg then none else some ((q1.2 98 a1.toNatClampNeg), q1.2))
def fd_175 (a1 : Int32) (a2 : Int32) (M : am_M) : Option (Int32 × am_M) := (fd_148 a1 (M 96 0) M).bind fun q1 => if q1.1 = (0 : Int32) then (some ((-1 : Int32), q1.2)) else ((fd_173 a2 q1.2).bind fun q4 => if q4.1 = (0 : Int32) then (some ((-1 : Int32), q4.2)) else (if (((16 : Int32) * a1) + a2) < 0 ∨ 64 ≤ (((16 : Int32) * a1) + a2).toNatClampNeg then none else some ((q4.2 100 (((16 : Int32) * a1) + a2).toNatClampNeg), q4.2)))
def fd_176 (a1 : Int32) (a2 : Int32) (M : am_M) : Option (Int32 × am_M) := (fd_148 a1 (M 96 0) M).bind fun q1 => if q1.1 = (0 : Int32) then (some ((-1 : Int32), q1.2)) else ((fd_148 a2 (6 : Int32) q1.2).bind fun q4 => if q4.1 = (0 : Int32) then (some ((-1 : Int32), q4.2)) else (if (((6 : Int32) * a1) + a2) < 0 ∨ 24 ≤ (((6 : Int32) * a1) + a2).toNatClampNeg then none else some ((q4.2 101 (((6 : Int32) * a1) + a2).toNatClampNeg), q4.2)))
def fd_177 (a1 : Int32) (a2 : Int32) (M : am_M) : Option (Int32 × am_M) := (fd_173 a1 M).bind fun q1 => if q1.1 = (0 : Int32) then (some ((-1 : Int32), q1.2)) else ((fd_148 a2 (6 : Int32) q1.2).bind fun q4 => if q4.1 = (0 : Int32) then (some ((-1 : Int32), q4.2)) else (if (((6 : Int32) * a1) + a2) < 0 ∨ 96 ≤ (((6 : Int32) * a1) + a2).toNatClampNeg then none else some ((q4.2 99 (((6 : Int32) * a1) + a2).toNatClampNeg), q4.2)))
def fd_179_79 (k2 : Int32 → am_M → Option (am_M)) (x1 : Int32) (M : am_M) : Option (am_M) := k2 (x1 + (1 : Int32)) M
def fd_179_73 (k32 : Int32 → Int32 → Int32 → am_M → Option (am_M)) (x1 : Int32) (x2 : Int32) (x3 : Int32) (M : am_M) : Option (am_M) := k32 x1 x2 (x3 + (1 : Int32)) M
def fd_179_32 (k2 : Int32 → am_M → Option (am_M)) (f : Nat) : Int32 → Int32 → Int32 → am_M → Option (am_M) := Nat.rec (motive := fun _ => Int32 → Int32 → Int32 → am_M → Option (am_M)) (fun _ _ _ _ => none) (fun _ k32 => fun x1 x2 x3 M => if (6 : Int32) ≤ x3 then (fd_179_79 k2 x1 M) else (if ((x1 - x2) + x3) < 0 ∨ 96 ≤ ((x1 - x2) + x3).toNatClampNeg then none else if (M 99 ((x1 - x2) + x3).toNatClampNeg) = (-1 : Int32) then (fd_179_73 k32 x1 x2 x3 M) else ((fd_140 x2 x3 M).bind fun q4 => if (((6 : Int32) * (M 99 ((x1 - x2) + x3).toNatClampNeg)) + q4.1) < 0 ∨ 96 ≤ (((6 : Int32) * (M 99 ((x1 - x2) + x3).toNatClampNeg)) + q4.1).toNatClampNeg then none else fd_179_73 k32 x1 x2 x3 (ds_w q4.2 114 (((6 : Int32) * (M 99 ((x1 - x2) + x3).toNatClampNeg)) + q4.1).toNatClampNeg ((1 : Int32) &&& 1))))) f
def fd_179_2 (f : Nat) : Int32 → am_M → Option (am_M) := Nat.rec (motive := fun _ => Int32 → am_M → Option (am_M)) (fun _ _ => none) (fun _ k2 => fun x1 M => if (96 : Int32) ≤ x1 then (some M) else (if x1 < 0 ∨ 96 ≤ x1.toNatClampNeg then none else if (M 114 x1.toNatClampNeg) = (0 : Int32) then (fd_179_79 k2 x1 M) else (if (x1 - x1 / (6 : Int32) * (6 : Int32)) = (5 : Int32) then (fd_179_79 k2 x1 M) else (fd_179_32 k2 1000 x1 (x1 - x1 / (6 : Int32) * (6 : Int32)) (0 : Int32) M)))) f
def fd_179 (M : am_M) : Option (am_M) := fd_179_2 1000 (0 : Int32) M
def fd_178_313 (y0 : Int32) (y1 : Int32) (M : am_M) : Option (Int32 × am_M) := some ((y0 + y1), M)
def fd_178_302 (x5 : Int32) (y0 : Int32) (y1 : Int32) (M : am_M) : Option (Int32 × am_M) := if x5 = (0 : Int32) then (fd_178_313 (y0 + y1) (0 : Int32) M) else (fd_178_313 (y0 + y1) (4 : Int32) M)
def fd_178_292 (x4 : Int32) (x5 : Int32) (y0 : Int32) (M : am_M) : Option (Int32 × am_M) := if x4 = (0 : Int32) then (fd_178_302 x5 y0 (0 : Int32) M) else (fd_178_302 x5 y0 (2 : Int32) M)
def fd_178_287 (x4 : Int32) (x5 : Int32) (M : am_M) : Option (Int32 × am_M) := fd_178_292 x4 x5 (1 : Int32) M
def fd_178_270 (k204 : Int32 → Int32 → Int32 → Int32 → Int32 → am_M → Option (Int32 × am_M)) (x2 : Int32) (x3 : Int32) (x4 : Int32) (x6 : Int32) (y0 : Int32) (M : am_M) : Option (Int32 × am_M) := k204 x2 x3 x4 y0 (x6 + (1 : Int32)) M
def fd_178_269 (k204 : Int32 → Int32 → Int32 → Int32 → Int32 → am_M → Option (Int32 × am_M)) (x2 : Int32) (x3 : Int32) (x4 : Int32) (x6 : Int32) (M : am_M) : Option (Int32 × am_M) := fd_178_270 k204 x2 x3 x4 x6 (0 : Int32) M
def fd_178_265 (k204 : Int32 → Int32 → Int32 → Int32 → Int32 → am_M → Option (Int32 × am_M)) (x2 : Int32) (x3 : Int32) (x4 : Int32) (x6 : Int32) (M : am_M) : Option (Int32 × am_M) := fd_178_270 k204 x2 x3 x4 x6 (1 : Int32) M
def fd_178_235 (k204 : Int32 → Int32 → Int32 → Int32 → Int32 → am_M → Option (Int32 × am_M)) (x2 : Int32) (x3 : Int32) (x5 : Int32) (x6 : Int32) (y0 : Int32) (M : am_M) : Option (Int32 × am_M) := if x5 = (0 : Int32) then (if (((6 : Int32) * x2) + x6) < 0 ∨ 96 ≤ (((6 : Int32) * x2) + x6).toNatClampNeg then none else if (M 114 (((6 : Int32) * x2) + x6).toNatClampNeg) = (0 : Int32) then (fd_178_269 k204 x2 x3 y0 x6 M) else ((fd_144 x6 M).bind fun q4 => if q4.1 = (0 : Int32) then (fd_178_269 k204 x2 x3 y0 x6 q4.2) else (fd_178_265 k204 x2 x3 y0 x6 q4.2))) else (fd_178_265 k204 x2 x3 y0 x6 M)
def fd_178_230 (k204 : Int32 → Int32 → Int32 → Int32 → Int32 → am_M → Option (Int32 × am_M)) (x2 : Int32) (x3 : Int32) (x5 : Int32) (x6 : Int32) (M : am_M) : Option (Int32 × am_M) := fd_178_235 k204 x2 x3 x5 x6 (1 : Int32) M
def fd_178_204 (f : Nat) : Int32 → Int32 → Int32 → Int32 → Int32 → am_M → Option (Int32 × am_M) := Nat.rec (motive := fun _ => Int32 → Int32 → Int32 → Int32 → Int32 → am_M → Option (Int32 × am_M)) (fun _ _ _ _ _ _ => none) (fun _ k204 => fun x2 x3 x4 x5 x6 M => if (5 : Int32) ≤ x6 then (if x3 = (0 : Int32) then (if x4 = (0 : Int32) then (fd_178_292 x4 x5 (0 : Int32) M) else (fd_178_287 x4 x5 M)) else (fd_178_287 x4 x5 M)) else (if x4 = (0 : Int32) then (if (((6 : Int32) * x2) + x6) < 0 ∨ 96 ≤ (((6 : Int32) * x2) + x6).toNatClampNeg then none else if (M 114 (((6 : Int32) * x2) + x6).toNatClampNeg) = (0 : Int32) then (fd_178_235 k204 x2 x3 x5 x6 (0 : Int32) M) else (fd_178_230 k204 x2 x3 x5 x6 M)) else (fd_178_230 k204 x2 x3 x5 x6 M))) f
def fd_178_167 (f : Nat) : Int32 → Int32 → am_M → Option (Int32 × am_M) := Nat.rec (motive := fun _ => Int32 → Int32 → am_M → Option (Int32 × am_M)) (fun _ _ _ => none) (fun _ k167 => fun x2 x3 M => if (96 : Int32) ≤ x3 then (if (((6 : Int32) * x2) + (5 : Int32)) < 0 ∨ 96 ≤ (((6 : Int32) * x2) + (5 : Int32)).toNatClampNeg then none else fd_178_204 1000 x2 (M 114 (((6 : Int32) * x2) + (5 : Int32)).toNatClampNeg) (0 : Int32) (0 : Int32) (0 : Int32) M) else ((fd_179 M).bind fun q3 => k167 x2 (x3 + (1 : Int32)) q3)) f
def fd_178_159 (k95 : Int32 → Int32 → Int32 → am_M → Option (Int32 × am_M)) (x1 : Int32) (x2 : Int32) (x3 : Int32) (M : am_M) : Option (Int32 × am_M) := k95 x1 x2 (x3 + (1 : Int32)) M
def fd_178_95 (f : Nat) : Int32 → Int32 → Int32 → am_M → Option (Int32 × am_M) := Nat.rec (motive := fun _ => Int32 → Int32 → Int32 → am_M → Option (Int32 × am_M)) (fun _ _ _ _ => none) (fun _ k95 => fun x1 x2 x3 M => if (M 96 15) ≤ x3 then (fd_178_167 1000 x2 (0 : Int32) M) else (if x3 < 0 ∨ 20 ≤ x3.toNatClampNeg then none else if (M 108 x3.toNatClampNeg) = (0 : Int32) then (if x3 < 0 ∨ 20 ≤ x3.toNatClampNeg then none else if (M 109 x3.toNatClampNeg) = x1 then (if x3 < 0 ∨ 20 ≤ x3.toNatClampNeg then none else if (M 111 x3.toNatClampNeg) = (-1 : Int32) then (fd_178_159 k95 x1 x2 x3 M) else (if x3 < 0 ∨ 20 ≤ x3.toNatClampNeg then none else if x3 < 0 ∨ 20 ≤ x3.toNatClampNeg then none else if (M 110 x3.toNatClampNeg) < 0 ∨ 6 ≤ (M 110 x3.toNatClampNeg).toNatClampNeg then none else if (((6 : Int32) * (M 111 x3.toNatClampNeg)) + (M 102 (M 110 x3.toNatClampNeg).toNatClampNeg)) < 0 ∨ 96 ≤ (((6 : Int32) * (M 111 x3.toNatClampNeg)) + (M 102 (M 110 x3.toNatClampNeg).toNatClampNeg)).toNatClampNeg then none else fd_178_159 k95 x1 x2 x3 (ds_w M 114 (((6 : Int32) * (M 111 x3.toNatClampNeg)) + (M 102 (M 110 x3.toNatClampNeg).toNatClampNeg)).toNatClampNeg ((1 : Int32) &&& 1)))) else (fd_178_159 k95 x1 x2 x3 M)) else (fd_178_159 k95 x1 x2 x3 M))) f
def fd_178_87 (k44 : Int32 → Int32 → Int32 → am_M → Option (Int32 × am_M)) (x1 : Int32) (x2 : Int32) (x3 : Int32) (M : am_M) : Option (Int32 × am_M) := k44 x1 x2 (x3 + (1 : Int32)) M
def fd_178_44 (f : Nat) : Int32 → Int32 → Int32 → am_M → Option (Int32 × am_M) := Nat.rec (motive := fun _ => Int32 → Int32 → Int32 → am_M → Option (Int32 × am_M)) (fun _ _ _ _ => none) (fun _ k44 => fun x1 x2 x3 M => if (6 : Int32) ≤ x3 then (fd_178_95 1000 x1 x2 (0 : Int32) M) else (if (((6 : Int32) * x1) + x3) < 0 ∨ 24 ≤ (((6 : Int32) * x1) + x3).toNatClampNeg then none else if (M 101 (((6 : Int32) * x1) + x3).toNatClampNeg) = (-1 : Int32) then (fd_178_87 k44 x1 x2 x3 M) else (if (((6 : Int32) * x1) + x3) < 0 ∨ 24 ≤ (((6 : Int32) * x1) + x3).toNatClampNeg then none else if (((6 : Int32) * (M 101 (((6 : Int32) * x1) + x3).toNatClampNeg)) + x3) < 0 ∨ 96 ≤ (((6 : Int32) * (M 101 (((6 : Int32) * x1) + x3).toNatClampNeg)) + x3).toNatClampNeg then none else fd_178_87 k44 x1 x2 x3 (ds_w M 114 (((6 : Int32) * (M 101 (((6 : Int32) * x1) + x3).toNatClampNeg)) + x3).toNatClampNeg ((1 : Int32) &&& 1))))) f
def fd_178_23 (f : Nat) : Int32 → Int32 → Int32 → am_M → Option (Int32 × am_M) := Nat.rec (motive := fun _ => Int32 → Int32 → Int32 → am_M → Option (Int32 × am_M)) (fun _ _ _ _ => none) (fun _ k23 => fun x1 x2 x3 M => if (96 : Int32) ≤ x3 then (fd_178_44 1000 x1 x2 (0 : Int32) M) else (if x3 < 0 ∨ 96 ≤ x3.toNatClampNeg then none else k23 x1 x2 (x3 + (1 : Int32)) (ds_w M 114 x3.toNatClampNeg ((0 : Int32) &&& 1)))) f
def fd_178 (a1 : Int32) (a2 : Int32) (M : am_M) : Option (Int32 × am_M) := (fd_148 a1 (M 96 0) M).bind fun q1 => if q1.1 = (0 : Int32) then (some ((0 : Int32), q1.2)) else ((fd_173 a2 q1.2).bind fun q4 => if q4.1 = (0 : Int32) then (some ((0 : Int32), q4.2)) else (fd_178_23 1000 a1 a2 (0 : Int32) q4.2))
def fd_180 (a1 : Int32) (M : am_M) : Option (Int32 × am_M) := if a1 = (-1 : Int32) then (some ((M 96 25), M)) else ((fd_148 a1 (16 : Int32) M).bind fun q2 => if q2.1 = (0 : Int32) then (some ((0 : Int32), q2.2)) else (if (q2.2 96 25) ≤ a1 then (some ((0 : Int32), q2.2)) else (if a1 < 0 ∨ 16 ≤ a1.toNatClampNeg then none else some ((q2.2 116 a1.toNatClampNeg), q2.2))))
def fd_181_107 (k79 : Int32 → Int32 → am_M → Option (Int32 × am_M)) (x1 : Int32) (x2 : Int32) (M : am_M) : Option (Int32 × am_M) := k79 x1 (x2 + (1 : Int32)) M
def fd_181_79 (f : Nat) : Int32 → Int32 → am_M → Option (Int32 × am_M) := Nat.rec (motive := fun _ => Int32 → Int32 → am_M → Option (Int32 × am_M)) (fun _ _ _ => none) (fun _ k79 => fun x1 x2 M => if (16 : Int32) ≤ x2 then (some (x1, M)) else (if x2 < 0 ∨ 16 ≤ x2.toNatClampNeg then none else if (M 97 x2.toNatClampNeg) = (-1 : Int32) then (fd_181_107 k79 x1 x2 M) else (if x2 < 0 ∨ 16 ≤ x2.toNatClampNeg then none else if (M 112 x2.toNatClampNeg) = (0 : Int32) then (fd_181_107 k79 (x1 + (1 : Int32)) x2 M) else (fd_181_107 k79 x1 x2 M)))) f
def fd_181_65 (k27 : Int32 → am_M → Option (Int32 × am_M)) (x1 : Int32) (M : am_M) : Option (Int32 × am_M) := k27 (x1 + (1 : Int32)) M
def fd_181_27 (f : Nat) : Int32 → am_M → Option (Int32 × am_M) := Nat.rec (motive := fun _ => Int32 → am_M → Option (Int32 × am_M)) (fun _ _ => none) (fun _ k27 => fun x1 M => if (M 96 15) ≤ x1 then ((fd_160 M).bind fun q2 => fd_181_79 1000 (0 : Int32) (0 : Int32) q2) else (if x1 < 0 ∨ 20 ≤ x1.toNatClampNeg then none else if (M 108 x1.toNatClampNeg) = (0 : Int32) then (if x1 < 0 ∨ 20 ≤ x1.toNatClampNeg then none else if x1 < 0 ∨ 20 ≤ x1.toNatClampNeg then none else if (M 110 x1.toNatClampNeg) < 0 ∨ 6 ≤ (M 110 x1.toNatClampNeg).toNatClampNeg then none else (fd_159 (M 111 x1.toNatClampNeg) (M 102 (M 110 x1.toNatClampNeg).toNatClampNeg) M).bind fun q9 => fd_181_65 k27 x1 q9) else (fd_181_65 k27 x1 M))) f
def fd_181_6 (f : Nat) : Int32 → am_M → Option (Int32 × am_M) := Nat.rec (motive := fun _ => Int32 → am_M → Option (Int32 × am_M)) (fun _ _ => none) (fun _ k6 => fun x1 M => if (M 96 0) ≤ x1 then (fd_181_27 1000 (0 : Int32) M) else ((fd_169 x1 M).bind fun q2 => k6 (x1 + (1 : Int32)) q2)) f
def fd_181 (M : am_M) : Option (Int32 × am_M) := (fd_158 M).bind fun q1 => fd_181_6 1000 (0 : Int32) q1
def fd_182 (M : am_M) : Option (Int32 × am_M) := some ((M 96 24), M)
def fd_130_232 (f : Nat) : Int32 → am_M → Option (am_M) := Nat.rec (motive := fun _ => Int32 → am_M → Option (am_M)) (fun _ _ => none) (fun _ k232 => fun x2 M => if (24 : Int32) ≤ x2 then (some M) else (if x2 < 0 ∨ 24 ≤ x2.toNatClampNeg then none else k232 (x2 + (1 : Int32)) (ds_w M 101 x2.toNatClampNeg (-1 : Int32)))) f
def fd_130_211 (f : Nat) : Int32 → am_M → Option (am_M) := Nat.rec (motive := fun _ => Int32 → am_M → Option (am_M)) (fun _ _ => none) (fun _ k211 => fun x2 M => if (96 : Int32) ≤ x2 then (fd_130_232 1000 (0 : Int32) M) else (if x2 < 0 ∨ 96 ≤ x2.toNatClampNeg then none else k211 (x2 + (1 : Int32)) (ds_w M 99 x2.toNatClampNeg (-1 : Int32)))) f
def fd_130_190 (f : Nat) : Int32 → am_M → Option (am_M) := Nat.rec (motive := fun _ => Int32 → am_M → Option (am_M)) (fun _ _ => none) (fun _ k190 => fun x2 M => if (16 : Int32) ≤ x2 then (fd_130_211 1000 (0 : Int32) M) else (if x2 < 0 ∨ 16 ≤ x2.toNatClampNeg then none else k190 (x2 + (1 : Int32)) (ds_w M 97 x2.toNatClampNeg (-1 : Int32)))) f
def fd_130_185 (y1 : Int32) (M : am_M) : Option (am_M) := fd_130_190 1000 (0 : Int32) (ds_w M 96 0 y1)
def fd_130 (a1 : Int32) (M : am_M) : Option (am_M) := if (1 : Int32) ≤ a1 then (if a1 ≤ (4 : Int32) then (fd_130_185 a1 M) else (fd_130_185 (4 : Int32) M)) else (fd_130_185 (1 : Int32) M)
def fd_0_592 (L : Nat) (xs : Nat → Int32) (k28 : Int32 → am_M → Option (Int32 × am_M)) (x3 : Int32) (M : am_M) : Option (Int32 × am_M) := k28 (x3 + (6 : Int32)) M
def fd_0_28 (L : Nat) (xs : Nat → Int32) (f : Nat) : Int32 → am_M → Option (Int32 × am_M) := Nat.rec (motive := fun _ => Int32 → am_M → Option (Int32 × am_M)) (fun _ _ => none) (fun _ k28 => fun x3 M => if ((Int32.ofNat L) - (6 : Int32)) < x3 then (some ((1 : Int32), M)) else (if x3 < 0 ∨ L ≤ x3.toNatClampNeg then none else if ((xs x3.toNatClampNeg) &&& (31 : Int32)) = (0 : Int32) then (if (x3 + (1 : Int32)) < 0 ∨ L ≤ (x3 + (1 : Int32)).toNatClampNeg then none else (fd_12 (xs (x3 + (1 : Int32)).toNatClampNeg) M).bind fun q5 => if (x3 + (1 : Int32)) < 0 ∨ L ≤ (x3 + (1 : Int32)).toNatClampNeg then none else (fd_131 (xs (x3 + (1 : Int32)).toNatClampNeg) q5.2).bind fun q8 => if q5.1 = q8.1 then (fd_0_592 L xs k28 x3 q8.2) else (some ((0 : Int32), q8.2))) else if ((xs x3.toNatClampNeg) &&& (31 : Int32)) = (1 : Int32) then (if (x3 + (1 : Int32)) < 0 ∨ L ≤ (x3 + (1 : Int32)).toNatClampNeg then none else if (x3 + (2 : Int32)) < 0 ∨ L ≤ (x3 + (2 : Int32)).toNatClampNeg then none else if (x3 + (3 : Int32)) < 0 ∨ L ≤ (x3 + (3 : Int32)).toNatClampNeg then none else if (x3 + (4 : Int32)) < 0 ∨ L ≤ (x3 + (4 : Int32)).toNatClampNeg then none else if (x3 + (5 : Int32)) < 0 ∨ L ≤ (x3 + (5 : Int32)).toNatClampNeg then none else (fd_21 (xs (x3 + (1 : Int32)).toNatClampNeg) (xs (x3 + (2 : Int32)).toNatClampNeg) (xs (x3 + (3 : Int32)).toNatClampNeg) (xs (x3 + (4 : Int32)).toNatClampNeg) (xs (x3 + (5 : Int32)).toNatClampNeg) M).bind fun q17 => if (x3 + (1 : Int32)) < 0 ∨ L ≤ (x3 + (1 : Int32)).toNatClampNeg then none else if (x3 + (2 : Int32)) < 0 ∨ L ≤ (x3 + (2 : Int32)).toNatClampNeg then none else if (x3 + (3 : Int32)) < 0 ∨ L ≤ (x3 + (3 : Int32)).toNatClampNeg then none else if (x3 + (4 : Int32)) < 0 ∨ L ≤ (x3 + (4 : Int32)).toNatClampNeg then none else if (x3 + (5 : Int32)) < 0 ∨ L ≤ (x3 + (5 : Int32)).toNatClampNeg then none else (fd_145 (xs (x3 + (1 : Int32)).toNatClampNeg) (xs (x3 + (2 : Int32)).toNatClampNeg) (xs (x3 + (3 : Int32)).toNatClampNeg) (xs (x3 + (4 : Int32)).toNatClampNeg) (xs (x3 + (5 : Int32)).toNatClampNeg) q17.2).bind fun q24 => if q17.1 = q24.1 then (fd_0_592 L xs k28 x3 q24.2) else (some ((0 : Int32), q24.2))) else if ((xs x3.toNatClampNeg) &&& (31 : Int32)) = (2 : Int32) then ((fd_54 M).bind fun q28 => (fd_134 q28.2).bind fun q30 => if q28.1 = q30.1 then (fd_0_592 L xs k28 x3 q30.2) else (some ((0 : Int32), q30.2))) else if ((xs x3.toNatClampNeg) &&& (31 : Int32)) = (3 : Int32) then ((fd_57 M).bind fun q34 => (fd_133 q34.2).bind fun q36 => if q34.1 = q36.1 then (fd_0_592 L xs k28 x3 q36.2) else (some ((0 : Int32), q36.2))) else if ((xs x3.toNatClampNeg) &&& (31 : Int32)) = (4 : Int32) then (if (x3 + (1 : Int32)) < 0 ∨ L ≤ (x3 + (1 : Int32)).toNatClampNeg then none else (fd_59 (xs (x3 + (1 : Int32)).toNatClampNeg) M).bind fun q41 => if (x3 + (1 : Int32)) < 0 ∨ L ≤ (x3 + (1 : Int32)).toNatClampNeg then none else (fd_153 (xs (x3 + (1 : Int32)).toNatClampNeg) q41.2).bind fun q44 => if q41.1 = q44.1 then (fd_0_592 L xs k28 x3 q44.2) else (some ((0 : Int32), q44.2))) else if ((xs x3.toNatClampNeg) &&& (31 : Int32)) = (5 : Int32) then (if (x3 + (1 : Int32)) < 0 ∨ L ≤ (x3 + (1 : Int32)).toNatClampNeg then none else if (x3 + (2 : Int32)) < 0 ∨ L ≤ (x3 + (2 : Int32)).toNatClampNeg then none else (fd_62 (xs (x3 + (1 : Int32)).toNatClampNeg) (xs (x3 + (2 : Int32)).toNatClampNeg) M).bind fun q50 => if (x3 + (1 : Int32)) < 0 ∨ L ≤ (x3 + (1 : Int32)).toNatClampNeg then none else if (x3 + (2 : Int32)) < 0 ∨ L ≤ (x3 + (2 : Int32)).toNatClampNeg then none else (fd_154 (xs (x3 + (1 : Int32)).toNatClampNeg) (xs (x3 + (2 : Int32)).toNatClampNeg) q50.2).bind fun q54 => if q50.1 = q54.1 then (fd_0_592 L xs k28 x3 q54.2) else (some ((0 : Int32), q54.2))) else if ((xs x3.toNatClampNeg) &&& (31 : Int32)) = (6 : Int32) then (if (x3 + (1 : Int32)) < 0 ∨ L ≤ (x3 + (1 : Int32)).toNatClampNeg then none else (fd_67 (xs (x3 + (1 : Int32)).toNatClampNeg) M).bind fun q59 => if (x3 + (1 : Int32)) < 0 ∨ L ≤ (x3 + (1 : Int32)).toNatClampNeg then none else (fd_156 (xs (x3 + (1 : Int32)).toNatClampNeg) q59.2).bind fun q62 => if q59.1 = q62.1 then (fd_0_592 L xs k28 x3 q62.2) else (some ((0 : Int32), q62.2))) else if ((xs x3.toNatClampNeg) &&& (31 : Int32)) = (7 : Int32) then (if (x3 + (1 : Int32)) < 0 ∨ L ≤ (x3 + (1 : Int32)).toNatClampNeg then none else (fd_103 (xs (x3 + (1 : Int32)).toNatClampNeg) M).bind fun q67 => if (x3 + (1 : Int32)) < 0 ∨ L ≤ (x3 + (1 : Int32)).toNatClampNeg then none else (fd_168 (xs (x3 + (1 : Int32)).toNatClampNeg) q67.2).bind fun q70 => if q67.1 = q70.1 then (fd_0_592 L xs k28 x3 q70.2) else (some ((0 : Int32), q70.2))) else if ((xs x3.toNatClampNeg) &&& (31 : Int32)) = (8 : Int32) then (if (x3 + (1 : Int32)) < 0 ∨ L ≤ (x3 + (1 : Int32)).toNatClampNeg then none else (fd_110 (xs (x3 + (1 : Int32)).toNatClampNeg) M).bind fun q75 => if (x3 + (1 : Int32)) < 0 ∨ L ≤ (x3 + (1 : Int32)).toNatClampNeg then none else (fd_171 (xs (x3 + (1 : Int32)).toNatClampNeg) q75.2).bind fun q78 => if q75.1 = q78.1 then (fd_0_592 L xs k28 x3 q78.2) else (some ((0 : Int32), q78.2))) else if ((xs x3.toNatClampNeg) &&& (31 : Int32)) = (9 : Int32) then (if (x3 + (1 : Int32)) < 0 ∨ L ≤ (x3 + (1 : Int32)).toNatClampNeg then none else (fd_112 (xs (x3 + (1 : Int32)).toNatClampNeg) M).bind fun q83 => if (x3 + (1 : Int32)) < 0 ∨ L ≤ (x3 + (1 : Int32)).toNatClampNeg then none else (fd_172 (xs (x3 + (1 : Int32)).toNatClampNeg) q83.2).bind fun q86 => if q83.1 = q86.1 then (fd_0_592 L xs k28 x3 q86.2) else (some ((0 : Int32), q86.2))) else if ((xs x3.toNatClampNeg) &&& (31 : Int32)) = (10 : Int32) then (if (x3 + (1 : Int32)) < 0 ∨ L ≤ (x3 + (1 : Int32)).toNatClampNeg then none else (fd_113 (xs (x3 + (1 : Int32)).toNatClampNeg) M).bind fun q91 => if (x3 + (1 : Int32)) < 0 ∨ L ≤ (x3 + (1 : Int32)).toNatClampNeg then none else (fd_174 (xs (x3 + (1 : Int32)).toNatClampNeg) q91.2).bind fun q94 => if q91.1 = q94.1 then (fd_0_592 L xs k28 x3 q94.2) else (some ((0 : Int32), q94.2))) else if ((xs x3.toNatClampNeg) &&& (31 : Int32)) = (11 : Int32) then (if (x3 + (1 : Int32)) < 0 ∨ L ≤ (x3 + (1 : Int32)).toNatClampNeg then none else if (x3 + (2 : Int32)) < 0 ∨ L ≤ (x3 + (2 : Int32)).toNatClampNeg then none else (fd_114 (xs (x3 + (1 : Int32)).toNatClampNeg) (xs (x3 + (2 : Int32)).toNatClampNeg) M).bind fun q100 => if (x3 + (1 : Int32)) < 0 ∨ L ≤ (x3 + (1 : Int32)).toNatClampNeg then none else if (x3 + (2 : Int32)) < 0 ∨ L ≤ (x3 + (2 : Int32)).toNatClampNeg then none else (fd_175 (xs (x3 + (1 : Int32)).toNatClampNeg) (xs (x3 + (2 : Int32)).toNatClampNeg) q100.2).bind fun q104 => if q100.1 = q104.1 then (fd_0_592 L xs k28 x3 q104.2) else (some ((0 : Int32), q104.2))) else if ((xs x3.toNatClampNeg) &&& (31 : Int32)) = (12 : Int32) then (if (x3 + (1 : Int32)) < 0 ∨ L ≤ (x3 + (1 : Int32)).toNatClampNeg then none else if (x3 + (2 : Int32)) < 0 ∨ L ≤ (x3 + (2 : Int32)).toNatClampNeg then none else (fd_115 (xs (x3 + (1 : Int32)).toNatClampNeg) (xs (x3 + (2 : Int32)).toNatClampNeg) M).bind fun q110 => if (x3 + (1 : Int32)) < 0 ∨ L ≤ (x3 + (1 : Int32)).toNatClampNeg then none else if (x3 + (2 : Int32)) < 0 ∨ L ≤ (x3 + (2 : Int32)).toNatClampNeg then none else (fd_176 (xs (x3 + (1 : Int32)).toNatClampNeg) (xs (x3 + (2 : Int32)).toNatClampNeg) q110.2).bind fun q114 => if q110.1 = q114.1 then (fd_0_592 L xs k28 x3 q114.2) else (some ((0 : Int32), q114.2))) else if ((xs x3.toNatClampNeg) &&& (31 : Int32)) = (13 : Int32) then (if (x3 + (1 : Int32)) < 0 ∨ L ≤ (x3 + (1 : Int32)).toNatClampNeg then none else if (x3 + (2 : Int32)) < 0 ∨ L ≤ (x3 + (2 : Int32)).toNatClampNeg then none else (fd_116 (xs (x3 + (1 : Int32)).toNatClampNeg) (xs (x3 + (2 : Int32)).toNatClampNeg) M).bind fun q120 => if (x3 + (1 : Int32)) < 0 ∨ L ≤ (x3 + (1 : Int32)).toNatClampNeg then none else if (x3 + (2 : Int32)) < 0 ∨ L ≤ (x3 + (2 : Int32)).toNatClampNeg then none else (fd_177 (xs (x3 + (1 : Int32)).toNatClampNeg) (xs (x3 + (2 : Int32)).toNatClampNeg) q120.2).bind fun q124 => if q120.1 = q124.1 then (fd_0_592 L xs k28 x3 q124.2) else (some ((0 : Int32), q124.2))) else if ((xs x3.toNatClampNeg) &&& (31 : Int32)) = (14 : Int32) then (if (x3 + (1 : Int32)) < 0 ∨ L ≤ (x3 + (1 : Int32)).toNatClampNeg then none else if (x3 + (2 : Int32)) < 0 ∨ L ≤ (x3 + (2 : Int32)).toNatClampNeg then none else (fd_117 (xs (x3 + (1 : Int32)).toNatClampNeg) (xs (x3 + (2 : Int32)).toNatClampNeg) M).bind fun q130 => if (x3 + (1 : Int32)) < 0 ∨ L ≤ (x3 + (1 : Int32)).toNatClampNeg then none else if (x3 + (2 : Int32)) < 0 ∨ L ≤ (x3 + (2 : Int32)).toNatClampNeg then none else (fd_178 (xs (x3 + (1 : Int32)).toNatClampNeg) (xs (x3 + (2 : Int32)).toNatClampNeg) q130.2).bind fun q134 => if q130.1 = q134.1 then (fd_0_592 L xs k28 x3 q134.2) else (some ((0 : Int32), q134.2))) else if ((xs x3.toNatClampNeg) &&& (31 : Int32)) = (15 : Int32) then (if (x3 + (1 : Int32)) < 0 ∨ L ≤ (x3 + (1 : Int32)).toNatClampNeg then none else (fd_123 (xs (x3 + (1 : Int32)).toNatClampNeg) M).bind fun q139 => if (x3 + (1 : Int32)) < 0 ∨ L ≤ (x3 + (1 : Int32)).toNatClampNeg then none else (fd_180 (xs (x3 + (1 : Int32)).toNatClampNeg) q139.2).bind fun q142 => if q139.1 = q142.1 then (fd_0_592 L xs k28 x3 q142.2) else (some ((0 : Int32), q142.2))) else if ((xs x3.toNatClampNeg) &&& (31 : Int32)) = (16 : Int32) then ((fd_126 M).bind fun q146 => (fd_181 q146.2).bind fun q148 => if q146.1 = q148.1 then (fd_0_592 L xs k28 x3 q148.2) else (some ((0 : Int32), q148.2))) else if ((xs x3.toNatClampNeg) &&& (31 : Int32)) = (17 : Int32) then ((fd_127 M).bind fun q152 => (fd_182 q152.2).bind fun q154 => if q152.1 = q154.1 then (fd_0_592 L xs k28 x3 q154.2) else (some ((0 : Int32), q154.2))) else (fd_0_592 L xs k28 x3 M))) f
def pf_M (n : Int32) : am_M := (ds_w (am_set (am_set (ds_w (fun _ _ => 0) (0 + 0) 0 (if (1 : Int32) < (if n < (4 : Int32) then n else (4 : Int32)) then (if n < (4 : Int32) then n else (4 : Int32)) else (1 : Int32))) (0 + 80) (fun i => if i < 16 then (-1 : Int32) else (ds_w (fun _ _ => 0) (0 + 0) 0 (if (1 : Int32) < (if n < (4 : Int32) then n else (4 : Int32)) then (if n < (4 : Int32) then n else (4 : Int32)) else (1 : Int32))) (0 + 80) i)) (0 + 82) (fun i => if i < 120 then (-1 : Int32) else (am_set (ds_w (fun _ _ => 0) (0 + 0) 0 (if (1 : Int32) < (if n < (4 : Int32) then n else (4 : Int32)) then (if n < (4 : Int32) then n else (4 : Int32)) else (1 : Int32))) (0 + 80) (fun i => if i < 16 then (-1 : Int32) else (ds_w (fun _ _ => 0) (0 + 0) 0 (if (1 : Int32) < (if n < (4 : Int32) then n else (4 : Int32)) then (if n < (4 : Int32) then n else (4 : Int32)) else (1 : Int32))) (0 + 80) i)) (0 + 82) i)) (0 + 94) 0 ((am_set (am_set (ds_w (fun _ _ => 0) (0 + 0) 0 (if (1 : Int32) < (if n < (4 : Int32) then n else (4 : Int32)) then (if n < (4 : Int32) then n else (4 : Int32)) else (1 : Int32))) (0 + 80) (fun i => if i < 16 then (-1 : Int32) else (ds_w (fun _ _ => 0) (0 + 0) 0 (if (1 : Int32) < (if n < (4 : Int32) then n else (4 : Int32)) then (if n < (4 : Int32) then n else (4 : Int32)) else (1 : Int32))) (0 + 80) i)) (0 + 82) (fun i => if i < 120 then (-1 : Int32) else (am_set (ds_w (fun _ _ => 0) (0 + 0) 0 (if (1 : Int32) < (if n < (4 : Int32) then n else (4 : Int32)) then (if n < (4 : Int32) then n else (4 : Int32)) else (1 : Int32))) (0 + 80) (fun i => if i < 16 then (-1 : Int32) else (ds_w (fun _ _ => 0) (0 + 0) 0 (if (1 : Int32) < (if n < (4 : Int32) then n else (4 : Int32)) then (if n < (4 : Int32) then n else (4 : Int32)) else (1 : Int32))) (0 + 80) i)) (0 + 82) i)) (0 + 0) 0))
end
section
/-! Pure: what the small functions answer -/
theorem pu_in {j n : Nat} (h : j < n) (hn : n < 1000) : ¬ (nI j < 0 ∨ n ≤ (nI j).toNatClampNeg) := nI_in h (by omega)
theorem pu_cl {j : Nat} (h : j < 1000) : (nI j).toNatClampNeg = j := nI_clamp (by omega)
theorem pu_lit (n : Nat) : (OfNat.ofNat n : Int32) = nI n := rfl
/-- a is the number of something of which there are n -/
def pu_is (a : Int32) (n : Nat) : Prop := ∃ j, j < n ∧ a = nI j
theorem pu_no {a : Int32} {n : Nat} (hn : n < 1000) (h : ¬ pu_is a n) : a < 0 ∨ nI n ≤ a := by
  rcases pk_ix a (n := n) (by omega) with q | q | q
  · exact Or.inl q
  · exact Or.inr q
  · exact absurd q h
theorem pu_ge {j n : Nat} (h : j < n) (hn : n < 1000) : ¬ nI n ≤ nI j := nI_ge h (by omega)
theorem pu_pos {j : Nat} (h : j < 1000) : ¬ nI j < 0 := nI_pos (by omega)
/-- Heap.exists -/
theorem sp_107 {j : Nat} (hj : j < 16) (M : am_M) : fd_107 (nI j) M = some (if M 80 j = -1 then 0 else 1, M) := by
  unfold fd_107
  rw [if_neg (pu_pos (by omega)), if_neg (show ¬ (16 : Int32) ≤ nI j from pu_ge (n := 16) hj (by decide)), if_neg (pu_in hj (by decide)), pu_cl (by omega)]
  split <;> rfl
theorem sp_107_no {a : Int32} (h : ¬ pu_is a 16) (M : am_M) : fd_107 a M = some (0, M) := by
  unfold fd_107
  rcases pu_no (by decide) h with q | q
  · rw [if_pos q]
  · by_cases h0 : a < 0
    · rw [if_pos h0]
    · rw [if_neg h0]
      exact if_pos q
/-- Heap.ownerOf, cellOf, countOf, heldBy -/
theorem sp_81 {j : Nat} (hj : j < 16) (M : am_M) : fd_81 (nI j) M = some (M 80 j, M) := by
  unfold fd_81
  rw [if_neg (pu_in hj (by decide)), pu_cl (by omega)]
theorem sp_97 {j : Nat} (hj : j < 16) (M : am_M) : fd_97 (nI j) M = some (M 81 j, M) := by
  unfold fd_97
  rw [if_neg (pu_in hj (by decide)), pu_cl (by omega)]
theorem pu_ma (a b c : Nat) : nI a * nI b + nI c = nI (a * b + c) := by rw [pk_mul, nI_add]
theorem sp_101 {a j : Nat} (ha : a < 4) (hj : j < 16) (M : am_M) : fd_101 (nI a) (nI j) M = some (M 83 (a * 16 + j), M) := by
  unfold fd_101
  rw [show (nI a * (16 : Int32) + nI j) = nI (a * 16 + j) from pu_ma a 16 j, if_neg (pu_in (n := 64) (by omega) (by decide)), pu_cl (by omega)]
theorem sp_79 {a j : Nat} (ha : a < 20) (hj : j < 6) (M : am_M) : fd_79 (nI a) (nI j) M = some (M 82 (a * 6 + j), M) := by
  unfold fd_79
  rw [show (nI a * (6 : Int32) + nI j) = nI (a * 6 + j) from pu_ma a 6 j, if_neg (pu_in (n := 120) (by omega) (by decide)), pu_cl (by omega)]
/-- isActor, of n actors -/
theorem sp_63 {a n : Nat} (hn : n ≤ 4) (ha : a < n) {M : am_M} (hM : M 0 0 = nI n) : fd_63 (nI a) M = some (1, M) := by
  unfold fd_63
  rw [if_neg (pu_pos (by omega)), hM, if_neg (pu_ge ha (by omega))]
theorem sp_63_no {a : Int32} {n : Nat} (hn : n ≤ 4) (h : ¬ pu_is a n) {M : am_M} (hM : M 0 0 = nI n) : fd_63 a M = some (0, M) := by
  unfold fd_63
  rw [hM]
  by_cases h0 : a < 0
  · rw [if_pos h0]
  · rw [if_neg h0, if_pos ((pu_no (by omega) h).resolve_left h0)]
/-- waiting's loop: how many of the places i .. n are a's -/
def pu_cnt (f : Nat → Int32) (a : Int32) : Nat → Nat → Nat
  | _, 0 => 0
  | i, k + 1 => (if f i = a then 1 else 0) + pu_cnt f a (i + 1) k
/-- Mail.sizeFor -/
theorem sp_111_4 {n : Nat} (hn : n ≤ 20) {M : am_M} (hM : M 84 4 = nI n) (a : Int32) : ∀ (k i c f : Nat), i + k = n → k < f → fd_111_4 f a (nI c) (nI i) M = some (nI (c + pu_cnt (M 86) a i k), M)
  | 0, i, c, 0, h, hf => by omega
  | 0, i, c, f + 1, h, hf => by
    show (if (M 84 4) ≤ nI i then _ else _) = _
    rw [hM, if_pos (nI_le (by omega) (by omega))]
    rfl
  | k + 1, i, c, 0, h, hf => by omega
  | k + 1, i, c, f + 1, h, hf => by
    have ih := fun c' => sp_111_4 hn hM a k (i + 1) c' f (by omega) (by omega)
    show (if (M 84 4) ≤ nI i then _ else (if nI i < 0 ∨ 20 ≤ (nI i).toNatClampNeg then none else if (M 86 (nI i).toNatClampNeg) = a then fd_111_4 f a (nI c + 1) (nI i + 1) M else fd_111_4 f a (nI c) (nI i + 1) M)) = _
    rw [hM, if_neg (nI_ge (by omega) (by omega)), if_neg (pu_in (by omega) (by decide)), pu_cl (by omega), nI_1, nI_1, ih, ih]
    by_cases hc : M 86 i = a
    · rw [if_pos hc, pu_cnt, if_pos hc]
      congr 3
      omega
    · rw [if_neg hc, pu_cnt, if_neg hc, Nat.zero_add]
theorem sp_111 {n : Nat} (hn : n ≤ 20) {M : am_M} (hM : M 84 4 = nI n) (a : Int32) : fd_111 a M = some (nI (pu_cnt (M 86) a 0 n), M) := by
  unfold fd_111
  have := sp_111_4 hn hM a n 0 0 1000 (by omega) (by omega)
  rw [Nat.zero_add] at this
  exact this
end
section
/-! The relation between the class's memory and the reference's -/
/-- numbers of both: n actors; owners -/
def rl_A (M : am_M) (n : Nat) : Prop := 1 ≤ n ∧ n ≤ 4 ∧ M 0 0 = nI n ∧ M 94 0 = nI n ∧ M 96 0 = nI n
def rl_O (M : am_M) (n : Nat) : Prop := ∀ j, j < 16 → M 80 j = M 97 j ∧ (M 97 j = -1 ∨ ∃ a, a < n ∧ M 97 j = nI a)
def rl_C (M : am_M) : Prop := ∀ j, j < 16 → M 97 j ≠ -1 → M 81 j = M 98 j
def rl_N (M : am_M) : Prop := ∀ i, i < 64 → M 83 i = M 100 i
def rl_H (M : am_M) : Prop := (∀ j k, j < 16 → k < 6 → M 97 j ≠ -1 → M 82 (j * 6 + k) = M 99 (6 * j + k)) ∧ ∀ a k, a < 4 → k < 6 → M 82 ((16 + a) * 6 + k) = M 101 (6 * a + k)
theorem pu_10 : ¬ (1 : Int32) = 0 := by decide
/-- the reference's below -/
theorem sp_148 {a n : Nat} (ha : a < n) (hn : n < 1000) (M : am_M) : fd_148 (nI a) (nI n) M = some (1, M) := by
  unfold fd_148
  rw [if_neg (pu_pos (by omega)), if_neg (pu_ge ha hn)]
theorem sp_148_no {a : Int32} {n : Nat} (hn : n < 1000) (h : ¬ pu_is a n) (M : am_M) : fd_148 a (nI n) M = some (0, M) := by
  unfold fd_148
  by_cases h0 : a < 0
  · rw [if_pos h0]
  · rw [if_neg h0, if_pos ((pu_no hn h).resolve_left h0)]
/-- there -/
theorem sp_173 {j : Nat} (hj : j < 16) (M : am_M) : fd_173 (nI j) M = some (if M 97 j = -1 then 0 else 1, M) := by
  unfold fd_173
  rw [show fd_148 (nI j) (16 : Int32) M = some (1, M) from sp_148 (n := 16) hj (by decide) M]
  simp only [Option.bind_some]
  rw [if_neg pu_10, if_neg (pu_in hj (by decide)), pu_cl (by omega)]
  split <;> rfl
theorem sp_173_no {a : Int32} (h : ¬ pu_is a 16) (M : am_M) : fd_173 a M = some (0, M) := by
  unfold fd_173
  rw [show fd_148 a (16 : Int32) M = some (0, M) from sp_148_no (n := 16) (by decide) h M]
  rfl
/-- owner: class and reference answer alike -/
theorem op_owner {M : am_M} {n : Nat} (hO : rl_O M n) (a : Int32) : ∃ r, fd_112 a M = some (r, M) ∧ fd_172 a M = some (r, M) := by
  by_cases h : pu_is a 16
  · obtain ⟨j, hj, rfl⟩ := h
    refine ⟨if M 97 j = -1 then -1 else M 97 j, ?_, ?_⟩
    · unfold fd_112
      rw [sp_107 hj, (hO j hj).1]
      by_cases hd : M 97 j = -1
      · rw [if_pos hd, if_pos hd]; rfl
      · rw [if_neg hd, if_neg hd]
        simp only [Option.bind_some]
        rw [if_neg pu_10, sp_81 hj, (hO j hj).1]
        rfl
    · unfold fd_172
      rw [sp_173 hj]
      by_cases hd : M 97 j = -1
      · rw [if_pos hd, if_pos hd]; rfl
      · rw [if_neg hd, if_neg hd]
        simp only [Option.bind_some]
        rw [if_neg pu_10, if_neg (pu_in hj (by decide)), pu_cl (by omega)]
  · refine ⟨-1, ?_, ?_⟩
    · unfold fd_112
      rw [sp_107_no h]
      rfl
    · unfold fd_172
      rw [sp_173_no h]
      rfl
/-- cell -/
theorem op_cell {M : am_M} {n : Nat} (hO : rl_O M n) (hC : rl_C M) (a : Int32) : ∃ r, fd_113 a M = some (r, M) ∧ fd_174 a M = some (r, M) := by
  by_cases h : pu_is a 16
  · obtain ⟨j, hj, rfl⟩ := h
    refine ⟨if M 97 j = -1 then 0 else M 98 j, ?_, ?_⟩
    · unfold fd_113
      rw [sp_107 hj, (hO j hj).1]
      by_cases hd : M 97 j = -1
      · rw [if_pos hd, if_pos hd]; rfl
      · rw [if_neg hd, if_neg hd]
        simp only [Option.bind_some]
        rw [if_neg pu_10, sp_97 hj, hC j hj hd]
        rfl
    · unfold fd_174
      rw [sp_173 hj]
      by_cases hd : M 97 j = -1
      · rw [if_pos hd, if_pos hd]; rfl
      · rw [if_neg hd, if_neg hd]
        simp only [Option.bind_some]
        rw [if_neg pu_10, if_neg (pu_in hj (by decide)), pu_cl (by omega)]
  · exact ⟨0, by unfold fd_113; rw [sp_107_no h]; rfl, by unfold fd_174; rw [sp_173_no h]; rfl⟩
/-- count -/
theorem op_count {M : am_M} {n : Nat} (hA : rl_A M n) (hO : rl_O M n) (hN : rl_N M) (a b : Int32) : ∃ r, fd_114 a b M = some (r, M) ∧ fd_175 a b M = some (r, M) := by
  obtain ⟨h1, h4, hA0, hA1, hA2⟩ := hA
  by_cases ha : pu_is a n
  · obtain ⟨i, hi, rfl⟩ := ha
    by_cases h : pu_is b 16
    · obtain ⟨j, hj, rfl⟩ := h
      refine ⟨if M 97 j = -1 then -1 else M 100 (i * 16 + j), ?_, ?_⟩
      · unfold fd_114
        rw [sp_63 h4 hi hA0]
        simp only [Option.bind_some]
        rw [if_neg pu_10, sp_107 hj, (hO j hj).1]
        by_cases hd : M 97 j = -1
        · rw [if_pos hd, if_pos hd]; rfl
        · rw [if_neg hd, if_neg hd]
          simp only [Option.bind_some]
          rw [if_neg pu_10, sp_101 (by omega) hj, hN _ (by omega)]
          rfl
      · unfold fd_175
        rw [hA2, sp_148 hi (by omega)]
        simp only [Option.bind_some]
        rw [if_neg pu_10, sp_173 hj]
        by_cases hd : M 97 j = -1
        · rw [if_pos hd, if_pos hd]; rfl
        · rw [if_neg hd, if_neg hd]
          simp only [Option.bind_some]
          rw [if_neg pu_10, show ((16 : Int32) * nI i + nI j) = nI (16 * i + j) from pu_ma 16 i j, if_neg (pu_in (n := 64) (by omega) (by decide)), pu_cl (by omega), Nat.mul_comm]
    · refine ⟨-1, ?_, ?_⟩
      · unfold fd_114
        rw [sp_63 h4 hi hA0]
        simp only [Option.bind_some]
        rw [if_neg pu_10, sp_107_no h]
        rfl
      · unfold fd_175
        rw [hA2, sp_148 hi (by omega)]
        simp only [Option.bind_some]
        rw [if_neg pu_10, sp_173_no h]
        rfl
  · refine ⟨-1, ?_, ?_⟩
    · unfold fd_114
      rw [sp_63_no h4 ha hA0]
      rfl
    · unfold fd_175
      rw [hA2, sp_148_no (by omega) ha]
      rfl
theorem sp_31 {k : Nat} (hk : k < 6) (M : am_M) : fd_31 (nI k) M = some (1, M) := by
  unfold fd_31
  rw [if_neg (pu_pos (by omega)), if_neg (show ¬ (6 : Int32) ≤ nI k from pu_ge (n := 6) hk (by decide))]
theorem sp_31_no {a : Int32} (h : ¬ pu_is a 6) (M : am_M) : fd_31 a M = some (0, M) := by
  unfold fd_31
  by_cases h0 : a < 0
  · rw [if_pos h0]
  · rw [if_neg h0]
    exact if_pos ((pu_no (by decide) h).resolve_left h0)
/-- field -/
theorem op_field {M : am_M} {n : Nat} (hA : rl_A M n) (hH : rl_H M) (a b : Int32) : ∃ r, fd_115 a b M = some (r, M) ∧ fd_176 a b M = some (r, M) := by
  obtain ⟨h1, h4, hA0, hA1, hA2⟩ := hA
  by_cases ha : pu_is a n
  · obtain ⟨i, hi, rfl⟩ := ha
    by_cases h : pu_is b 6
    · obtain ⟨k, hk, rfl⟩ := h
      refine ⟨M 101 (6 * i + k), ?_, ?_⟩
      · unfold fd_115
        rw [sp_63 h4 hi hA0]
        simp only [Option.bind_some]
        rw [if_neg pu_10, sp_31 hk]
        simp only [Option.bind_some]
        rw [if_neg pu_10]
        unfold fd_91
        simp only [Option.bind_some]
        rw [show ((16 : Int32) + nI i) = nI (16 + i) from nI_add 16 i, sp_79 (by omega) hk, hH.2 i k (by omega) hk]
        rfl
      · unfold fd_176
        rw [hA2, sp_148 hi (by omega)]
        simp only [Option.bind_some]
        rw [if_neg pu_10, show fd_148 (nI k) (6 : Int32) M = some (1, M) from sp_148 (n := 6) hk (by decide) M]
        simp only [Option.bind_some]
        rw [if_neg pu_10, show ((6 : Int32) * nI i + nI k) = nI (6 * i + k) from pu_ma 6 i k, if_neg (pu_in (n := 24) (by omega) (by decide)), pu_cl (by omega)]
    · refine ⟨-1, ?_, ?_⟩
      · unfold fd_115
        rw [sp_63 h4 hi hA0]
        simp only [Option.bind_some]
        rw [if_neg pu_10, sp_31_no h]
        rfl
      · unfold fd_176
        rw [hA2, sp_148 hi (by omega)]
        simp only [Option.bind_some]
        rw [if_neg pu_10, show fd_148 b (6 : Int32) M = some (0, M) from sp_148_no (n := 6) (by decide) h M]
        rfl
  · refine ⟨-1, ?_, ?_⟩
    · unfold fd_115
      rw [sp_63_no h4 ha hA0]
      rfl
    · unfold fd_176
      rw [hA2, sp_148_no (by omega) ha]
      rfl
/-- inner -/
theorem op_inner {M : am_M} {n : Nat} (hO : rl_O M n) (hH : rl_H M) (a b : Int32) : ∃ r, fd_116 a b M = some (r, M) ∧ fd_177 a b M = some (r, M) := by
  by_cases ha : pu_is a 16
  · obtain ⟨j, hj, rfl⟩ := ha
    by_cases hd : M 97 j = -1
    · refine ⟨-1, ?_, ?_⟩
      · unfold fd_116
        rw [sp_107 hj, (hO j hj).1, if_pos hd]
        rfl
      · unfold fd_177
        rw [sp_173 hj, if_pos hd]
        rfl
    by_cases h : pu_is b 6
    · obtain ⟨k, hk, rfl⟩ := h
      refine ⟨M 99 (6 * j + k), ?_, ?_⟩
      · unfold fd_116
        rw [sp_107 hj, (hO j hj).1, if_neg hd]
        simp only [Option.bind_some]
        rw [if_neg pu_10, sp_31 hk]
        simp only [Option.bind_some]
        rw [if_neg pu_10, sp_79 (by omega) hk, hH.1 j k hj hk hd]
        rfl
      · unfold fd_177
        rw [sp_173 hj, if_neg hd]
        simp only [Option.bind_some]
        rw [if_neg pu_10, show fd_148 (nI k) (6 : Int32) M = some (1, M) from sp_148 (n := 6) hk (by decide) M]
        simp only [Option.bind_some]
        rw [if_neg pu_10, show ((6 : Int32) * nI j + nI k) = nI (6 * j + k) from pu_ma 6 j k, if_neg (pu_in (n := 96) (by omega) (by decide)), pu_cl (by omega)]
    · refine ⟨-1, ?_, ?_⟩
      · unfold fd_116
        rw [sp_107 hj, (hO j hj).1, if_neg hd]
        simp only [Option.bind_some]
        rw [if_neg pu_10, sp_31_no h]
        rfl
      · unfold fd_177
        rw [sp_173 hj, if_neg hd]
        simp only [Option.bind_some]
        rw [if_neg pu_10, show fd_148 b (6 : Int32) M = some (0, M) from sp_148_no (n := 6) (by decide) h M]
        rfl
  · exact ⟨-1, by unfold fd_116; rw [sp_107_no ha]; rfl, by unfold fd_177; rw [sp_173_no ha]; rfl⟩
end
section
/-! waiting, lost, shown -/
/-- one row of mail, and the losses -/
def rl_M (M : am_M) (m : Nat) : Prop := m ≤ 20 ∧ M 84 4 = nI m ∧ M 96 15 = nI m ∧ ∀ i, i < m → M 85 i = M 108 i ∧ M 86 i = M 109 i
def rl_L (M : am_M) : Prop := M 94 7 = M 96 24
/-- what was shown: t times; the class's ring, the reference's row -/
def rl_D (M : am_M) (t : Nat) : Prop := t < 100000 ∧ M 92 1 = nI t ∧ M 96 25 = nI t ∧ ∀ k, k < 16 → k < t → M 93 ((t - 1 - k) % 16) = M 116 k
theorem pu_cnt_eq {f g : Nat → Int32} {a : Int32} : ∀ (k i : Nat), (∀ j, i ≤ j → j < i + k → f j = g j) → pu_cnt f a i k = pu_cnt g a i k
  | 0, _, _ => rfl
  | k + 1, i, h => by
    rw [pu_cnt, pu_cnt, h i (by omega) (by omega), pu_cnt_eq k (i + 1) (fun j h1 h2 => h j (by omega) (by omega))]
theorem sp_171_17 {n : Nat} (hn : n ≤ 20) {M : am_M} (hM : M 96 15 = nI n) (a : Int32) : ∀ (k i c f : Nat), i + k = n → k < f → fd_171_17 f a (nI c) (nI i) M = some (nI (c + pu_cnt (M 109) a i k), M)
  | 0, i, c, 0, h, hf => by omega
  | 0, i, c, f + 1, h, hf => by
    show (if (M 96 15) ≤ nI i then _ else _) = _
    rw [hM, if_pos (nI_le (by omega) (by omega))]
    rfl
  | k + 1, i, c, 0, h, hf => by omega
  | k + 1, i, c, f + 1, h, hf => by
    have ih := fun c' => sp_171_17 hn hM a k (i + 1) c' f (by omega) (by omega)
    show (if (M 96 15) ≤ nI i then _ else (if nI i < 0 ∨ 20 ≤ (nI i).toNatClampNeg then none else if (M 109 (nI i).toNatClampNeg) = a then fd_171_17 f a (nI c + 1) (nI i + 1) M else fd_171_17 f a (nI c) (nI i + 1) M)) = _
    rw [hM, if_neg (nI_ge (by omega) (by omega)), if_neg (pu_in (by omega) (by decide)), pu_cl (by omega), nI_1, nI_1, ih, ih]
    by_cases hc : M 109 i = a
    · rw [if_pos hc, pu_cnt, if_pos hc]
      congr 3
      omega
    · rw [if_neg hc, pu_cnt, if_neg hc, Nat.zero_add]
theorem op_waiting {M : am_M} {n m : Nat} (hA : rl_A M n) (hM : rl_M M m) (a : Int32) : ∃ r, fd_110 a M = some (r, M) ∧ fd_171 a M = some (r, M) := by
  obtain ⟨h1, h4, hA0, hA1, hA2⟩ := hA
  obtain ⟨hm, hM0, hM1, hM2⟩ := hM
  by_cases ha : pu_is a n
  · obtain ⟨i, hi, rfl⟩ := ha
    refine ⟨nI (pu_cnt (M 109) (nI i) 0 m), ?_, ?_⟩
    · unfold fd_110
      rw [sp_63 h4 hi hA0]
      simp only [Option.bind_some]
      rw [if_neg pu_10, sp_111 hm hM0, pu_cnt_eq (g := M 109) m 0 (fun j _ h => (hM2 j (by omega)).2)]
      rfl
    · unfold fd_171
      rw [hA2, sp_148 hi (by omega)]
      simp only [Option.bind_some]
      rw [if_neg pu_10]
      have := sp_171_17 hm hM1 (nI i) m 0 0 1000 (by omega) (by omega)
      rw [Nat.zero_add] at this
      exact this
  · refine ⟨-1, ?_, ?_⟩
    · unfold fd_110
      rw [sp_63_no h4 ha hA0]
      rfl
    · unfold fd_171
      rw [hA2, sp_148_no (by omega) ha]
      rfl
theorem op_lost {M : am_M} (hL : rl_L M) : ∃ r, fd_127 M = some (r, M) ∧ fd_182 M = some (r, M) := by
  refine ⟨M 96 24, ?_, rfl⟩
  unfold fd_127 fd_128
  simp only [Option.bind_some]
  rw [show M 94 7 = M 96 24 from hL]
theorem op_shown {M : am_M} {t : Nat} (hD : rl_D M t) (a : Int32) : ∃ r, fd_123 a M = some (r, M) ∧ fd_180 a M = some (r, M) := by
  obtain ⟨ht, h0, h1, h2⟩ := hD
  by_cases hm : a = -1
  · refine ⟨nI t, ?_, ?_⟩
    · unfold fd_123 fd_124
      rw [if_pos hm, h0]
      rfl
    · unfold fd_180
      rw [if_pos hm, h1]
  by_cases ha : pu_is a 16
  · obtain ⟨k, hk, rfl⟩ := ha
    by_cases hkt : k < t
    · refine ⟨M 116 k, ?_, ?_⟩
      · unfold fd_123 fd_125
        rw [if_neg hm, if_neg (pu_pos (by omega)), if_neg (show ¬ (16 : Int32) ≤ nI k from pu_ge (n := 16) hk (by decide)), h0, if_pos (nI_lt hkt (by omega))]
        rw [show nI t - (1 : Int32) = nI (t - 1) from pk_sub (a := t) (b := 1) (by omega), pk_sub (a := t - 1) (b := k) (by omega), if_neg (nI_pos (by omega))]
        rw [show nI (t - 1 - k) - nI (t - 1 - k) / 16 * 16 = nI ((t - 1 - k) % 16) from pk_rem (a := t - 1 - k) (d := 16) (by omega) (by decide) (by decide)]
        rw [if_neg (pu_in (n := 16) (Nat.mod_lt _ (by decide)) (by decide)), pu_cl (by omega), h2 k hk hkt]
        rfl
      · unfold fd_180
        rw [if_neg hm, show fd_148 (nI k) (16 : Int32) M = some (1, M) from sp_148 (n := 16) hk (by decide) M]
        simp only [Option.bind_some]
        rw [if_neg pu_10, h1, if_neg (nI_ge hkt (by omega)), if_neg (pu_in hk (by decide)), pu_cl (by omega)]
    · refine ⟨0, ?_, ?_⟩
      · unfold fd_123 fd_125
        rw [if_neg hm, if_neg (pu_pos (by omega)), if_neg (show ¬ (16 : Int32) ≤ nI k from pu_ge (n := 16) hk (by decide)), h0, if_neg (nI_nlt (by omega) (by omega))]
        rfl
      · unfold fd_180
        rw [if_neg hm, show fd_148 (nI k) (16 : Int32) M = some (1, M) from sp_148 (n := 16) hk (by decide) M]
        simp only [Option.bind_some]
        rw [if_neg pu_10, h1, if_pos (nI_le (by omega) (by omega))]
  · refine ⟨0, ?_, ?_⟩
    · unfold fd_123 fd_125
      rw [if_neg hm]
      by_cases hz : a < 0
      · rw [if_pos hz]; rfl
      · rw [if_neg hz, if_pos (show (16 : Int32) ≤ a from (pu_no (n := 16) (by decide) ha).resolve_left hz)]; rfl
    · unfold fd_180
      rw [if_neg hm, show fd_148 a (16 : Int32) M = some (0, M) from sp_148_no (n := 16) (by decide) ha M]
      rfl
end
section
/-! The start: what both constructors leave -/
theorem it_set {M : am_M} {h i N : Nat} (hi : i < N) : am_set (ds_w M h i (-1)) h (fun j => if i + 1 ≤ j ∧ j < N then (-1 : Int32) else ds_w M h i (-1) h j) = am_set M h (fun j => if i ≤ j ∧ j < N then (-1 : Int32) else M h j) := by
  funext b j
  by_cases hb : b = h
  · subst hb
    rw [am_set_s, am_set_s]
    unfold ds_w
    rw [am_set_s]
    unfold upd
    by_cases h1 : i + 1 ≤ j ∧ j < N
    · rw [if_pos h1, if_pos (by omega)]
    · rw [if_neg h1]
      by_cases h2 : j = i
      · rw [if_pos h2, if_pos (by omega)]
      · rw [if_neg h2, if_neg (by omega)]
  · rw [am_set_n _ _ hb, am_set_n _ _ hb]
    unfold ds_w
    rw [am_set_n _ _ hb]
theorem it_end {M : am_M} {h i N : Nat} (hi : N ≤ i) : am_set M h (fun j => if i ≤ j ∧ j < N then (-1 : Int32) else M h j) = M := by
  funext b j
  by_cases hb : b = h
  · subst hb
    rw [am_set_s, if_neg (by omega)]
  · rw [am_set_n _ _ hb]
theorem it_232 : ∀ (k i f : Nat) (M : am_M), i + k = 24 → k < f → fd_130_232 f (nI i) M = some (am_set M 101 (fun j => if i ≤ j ∧ j < 24 then (-1 : Int32) else M 101 j))
  | 0, i, 0, M, h, hf => by omega
  | 0, i, f + 1, M, h, hf => by
    show (if (24 : Int32) ≤ nI i then some M else (if nI i < 0 ∨ 24 ≤ (nI i).toNatClampNeg then none else fd_130_232 f (nI i + 1) (ds_w M 101 (nI i).toNatClampNeg (-1)))) = _
    rw [if_pos (show (24 : Int32) ≤ nI i from nI_le (a := 24) (by omega) (by omega)), it_end (by omega)]
  | k + 1, i, 0, M, h, hf => by omega
  | k + 1, i, f + 1, M, h, hf => by
    show (if (24 : Int32) ≤ nI i then some M else (if nI i < 0 ∨ 24 ≤ (nI i).toNatClampNeg then none else fd_130_232 f (nI i + 1) (ds_w M 101 (nI i).toNatClampNeg (-1)))) = _
    rw [if_neg (show ¬ (24 : Int32) ≤ nI i from pu_ge (n := 24) (by omega) (by decide)), if_neg (pu_in (by omega) (by decide)), pu_cl (by omega), nI_1, it_232 k (i + 1) f _ (by omega) (by omega), it_set (by omega)]
theorem it_211 : ∀ (k i f : Nat) (M : am_M), i + k = 96 → k < f → fd_130_211 f (nI i) M = fd_130_232 1000 0 (am_set M 99 (fun j => if i ≤ j ∧ j < 96 then (-1 : Int32) else M 99 j))
  | 0, i, 0, M, h, hf => by omega
  | 0, i, f + 1, M, h, hf => by
    show (if (96 : Int32) ≤ nI i then fd_130_232 1000 0 M else (if nI i < 0 ∨ 96 ≤ (nI i).toNatClampNeg then none else fd_130_211 f (nI i + 1) (ds_w M 99 (nI i).toNatClampNeg (-1)))) = _
    rw [if_pos (show (96 : Int32) ≤ nI i from nI_le (a := 96) (by omega) (by omega)), it_end (by omega)]
  | k + 1, i, 0, M, h, hf => by omega
  | k + 1, i, f + 1, M, h, hf => by
    show (if (96 : Int32) ≤ nI i then fd_130_232 1000 0 M else (if nI i < 0 ∨ 96 ≤ (nI i).toNatClampNeg then none else fd_130_211 f (nI i + 1) (ds_w M 99 (nI i).toNatClampNeg (-1)))) = _
    rw [if_neg (show ¬ (96 : Int32) ≤ nI i from pu_ge (n := 96) (by omega) (by decide)), if_neg (pu_in (by omega) (by decide)), pu_cl (by omega), nI_1, it_211 k (i + 1) f _ (by omega) (by omega), it_set (by omega)]
theorem it_190 : ∀ (k i f : Nat) (M : am_M), i + k = 16 → k < f → fd_130_190 f (nI i) M = fd_130_211 1000 0 (am_set M 97 (fun j => if i ≤ j ∧ j < 16 then (-1 : Int32) else M 97 j))
  | 0, i, 0, M, h, hf => by omega
  | 0, i, f + 1, M, h, hf => by
    show (if (16 : Int32) ≤ nI i then fd_130_211 1000 0 M else (if nI i < 0 ∨ 16 ≤ (nI i).toNatClampNeg then none else fd_130_190 f (nI i + 1) (ds_w M 97 (nI i).toNatClampNeg (-1)))) = _
    rw [if_pos (show (16 : Int32) ≤ nI i from nI_le (a := 16) (by omega) (by omega)), it_end (by omega)]
  | k + 1, i, 0, M, h, hf => by omega
  | k + 1, i, f + 1, M, h, hf => by
    show (if (16 : Int32) ≤ nI i then fd_130_211 1000 0 M else (if nI i < 0 ∨ 16 ≤ (nI i).toNatClampNeg then none else fd_130_190 f (nI i + 1) (ds_w M 97 (nI i).toNatClampNeg (-1)))) = _
    rw [if_neg (show ¬ (16 : Int32) ≤ nI i from pu_ge (n := 16) (by omega) (by decide)), if_neg (pu_in (by omega) (by decide)), pu_cl (by omega), nI_1, it_190 k (i + 1) f _ (by omega) (by omega), it_set (by omega)]
/-- the memory behind the reference's constructor -/
theorem it_185 (y : Int32) (M : am_M) : ∃ M2, fd_130_185 y M = some M2 ∧ M2 96 = upd (M 96) 0 y ∧ (∀ j, j < 16 → M2 97 j = -1) ∧ (∀ j, j < 96 → M2 99 j = -1) ∧ (∀ j, j < 24 → M2 101 j = -1) ∧ ∀ k, k ≠ 96 → k ≠ 97 → k ≠ 99 → k ≠ 101 → M2 k = M k := by
  unfold fd_130_185
  rw [show (0 : Int32) = nI 0 from rfl, it_190 16 0 1000 _ rfl (by decide), show (0 : Int32) = nI 0 from rfl, it_211 96 0 1000 _ rfl (by decide), show (0 : Int32) = nI 0 from rfl, it_232 24 0 1000 _ rfl (by decide)]
  refine ⟨_, rfl, ?_, ?_, ?_, ?_, ?_⟩
  · rw [am_set_n _ _ (by decide), am_set_n _ _ (by decide), am_set_n _ _ (by decide), ds_w, am_set_s]
  · intro j hj
    rw [am_set_n _ _ (by decide), am_set_n _ _ (by decide), am_set_s, if_pos (by omega)]
  · intro j hj
    rw [am_set_n _ _ (by decide), am_set_s, if_pos (by omega)]
  · intro j hj
    rw [am_set_s, if_pos (by omega)]
  · intro k h1 h2 h3 h4
    rw [am_set_n _ _ h4, am_set_n _ _ h3, am_set_n _ _ h2, ds_w, am_set_n _ _ h1]
end
section
/-- the number of actors: both clamp alike -/
theorem it_clamp (n : Int32) : ∃ c : Nat, 1 ≤ c ∧ c ≤ 4 ∧ (if (1 : Int32) < (if n < (4 : Int32) then n else (4 : Int32)) then (if n < (4 : Int32) then n else (4 : Int32)) else (1 : Int32)) = nI c ∧ (if (1 : Int32) ≤ n then (if n ≤ (4 : Int32) then n else (4 : Int32)) else (1 : Int32)) = nI c := by
  rcases pk_ix n (n := 5) (by omega) with q | q | ⟨j, hj, rfl⟩
  · have h1 : n < 4 := Int32.lt_trans q (by decide)
    have h2 : ¬ (1 : Int32) < n := fun z => absurd (Int32.lt_trans z q) (by decide)
    have h3 : ¬ (1 : Int32) ≤ n := fun z => absurd (Int32.lt_of_le_of_lt z q) (by decide)
    refine ⟨1, by omega, by omega, ?_, ?_⟩
    · rw [if_pos h1, if_neg h2]; rfl
    · rw [if_neg h3]; rfl
  · have h1 : ¬ n < 4 := fun z => absurd (Int32.lt_of_le_of_lt q z) (by decide)
    have h2 : (1 : Int32) ≤ n := Int32.le_trans (by decide) q
    have h3 : ¬ n ≤ 4 := fun z => absurd (Int32.le_trans q z) (by decide)
    refine ⟨4, by omega, by omega, ?_, ?_⟩
    · rw [if_neg h1, if_pos (by decide)]; rfl
    · rw [if_pos h2, if_neg h3]; rfl
  · rcases (show j = 0 ∨ j = 1 ∨ j = 2 ∨ j = 3 ∨ j = 4 by omega) with rfl | rfl | rfl | rfl | rfl
    · exact ⟨1, by omega, by omega, by decide, by decide⟩
    · exact ⟨1, by omega, by omega, by decide, by decide⟩
    · exact ⟨2, by omega, by omega, by decide, by decide⟩
    · exact ⟨3, by omega, by omega, by decide, by decide⟩
    · exact ⟨4, by omega, by omega, by decide, by decide⟩
theorem it_130 (n : Int32) (M : am_M) : fd_130 n M = fd_130_185 (if (1 : Int32) ≤ n then (if n ≤ (4 : Int32) then n else (4 : Int32)) else (1 : Int32)) M := by
  unfold fd_130
  by_cases h : (1 : Int32) ≤ n
  · rw [if_pos h, if_pos h]
    by_cases h2 : n ≤ 4
    · rw [if_pos h2, if_pos h2]
    · rw [if_neg h2, if_neg h2]
  · rw [if_neg h, if_neg h]
/-- the class's memory at the start -/
theorem it_M {n : Int32} {c : Nat} (hc : (if (1 : Int32) < (if n < (4 : Int32) then n else (4 : Int32)) then (if n < (4 : Int32) then n else (4 : Int32)) else (1 : Int32)) = nI c) : pf_M n 0 0 = nI c ∧ pf_M n 94 0 = nI c ∧ (∀ j, j < 16 → pf_M n 80 j = -1) ∧ (∀ j, j < 120 → pf_M n 82 j = -1) ∧ (∀ k, k ≠ 0 → k ≠ 80 → k ≠ 82 → k ≠ 94 → pf_M n k = fun _ => 0) ∧ ∀ j, j ≠ 0 → pf_M n 94 j = 0 := by
  unfold pf_M
  rw [hc]
  refine ⟨?_, ?_, fun j hj => ?_, fun j hj => ?_, fun k h1 h2 h3 h4 => ?_, fun j hj => ?_⟩
  · rw [ds_w, am_set_n _ _ (by decide), am_set_n _ _ (by decide), am_set_n _ _ (by decide), ds_w, am_set_s]
    rfl
  · rw [ds_w, am_set_s, upd, if_pos rfl, am_set_n _ _ (by decide), am_set_n _ _ (by decide), ds_w, am_set_s]
    rfl
  · rw [ds_w, am_set_n _ _ (by decide), am_set_n _ _ (by decide), am_set_s, if_pos hj]
  · rw [ds_w, am_set_n _ _ (by decide), am_set_s, if_pos hj]
  · rw [ds_w, am_set_n _ _ (by omega), am_set_n _ _ (by omega), am_set_n _ _ (by omega), ds_w, am_set_n _ _ (by omega)]
  · rw [ds_w, am_set_s, upd, if_neg hj, am_set_n _ _ (by decide), am_set_n _ _ (by decide), ds_w, am_set_n _ _ (by decide)]
/-- the relation at the start -/
theorem it_begin (n : Int32) : ∃ (M2 : am_M) (c : Nat), fd_130 n (pf_M n) = some M2 ∧ rl_A M2 c ∧ rl_O M2 c ∧ rl_C M2 ∧ rl_N M2 ∧ rl_H M2 ∧ rl_M M2 0 ∧ rl_L M2 ∧ rl_D M2 0 := by
  obtain ⟨c, h1, h4, hc, hr⟩ := it_clamp n
  obtain ⟨m1, m2, m3, m4, m5, m6⟩ := it_M hc
  obtain ⟨M2, e0, e1, e2, e3, e4, e5⟩ := it_185 (nI c) (pf_M n)
  have z : ∀ k, k ≠ 0 → k ≠ 80 → k ≠ 82 → k ≠ 94 → k ≠ 96 → k ≠ 97 → k ≠ 99 → k ≠ 101 → M2 k = fun _ => 0 := fun k a b c d e f g h => by rw [e5 k e f g h, m5 k a b c d]
  have z96 : ∀ j, j ≠ 0 → M2 96 j = 0 := fun j hj => by
    rw [e1, upd, if_neg hj, m5 96 (by decide) (by decide) (by decide) (by decide)]
  have k80 : ∀ j, j < 16 → M2 80 j = -1 := fun j hj => by rw [e5 80 (by decide) (by decide) (by decide) (by decide), m3 j hj]
  have k82 : ∀ j, j < 120 → M2 82 j = -1 := fun j hj => by rw [e5 82 (by decide) (by decide) (by decide) (by decide), m4 j hj]
  refine ⟨M2, c, by rw [it_130, hr]; exact e0, ⟨h1, h4, ?_, ?_, ?_⟩, fun j hj => ⟨by rw [k80 j hj, e2 j hj], Or.inl (e2 j hj)⟩, fun j hj hd => absurd (e2 j hj) hd, fun i hi => ?_, ⟨fun j k hj hk hd => absurd (e2 j hj) hd, fun a k ha hk => ?_⟩, ⟨by omega, ?_, ?_, fun i hi => by omega⟩, ?_, ⟨by omega, ?_, ?_, fun k _ hk => by omega⟩⟩
  · rw [e5 0 (by decide) (by decide) (by decide) (by decide), m1]
  · rw [e5 94 (by decide) (by decide) (by decide) (by decide), m2]
  · rw [e1, upd, if_pos rfl]
  · rw [z 83 (by decide) (by decide) (by decide) (by decide) (by decide) (by decide) (by decide) (by decide), z 100 (by decide) (by decide) (by decide) (by decide) (by decide) (by decide) (by decide) (by decide)]
  · rw [k82 _ (by omega), e4 _ (by omega)]
  · rw [z 84 (by decide) (by decide) (by decide) (by decide) (by decide) (by decide) (by decide) (by decide)]; rfl
  · rw [z96 15 (by decide)]; rfl
  · show M2 94 7 = M2 96 24
    rw [e5 94 (by decide) (by decide) (by decide) (by decide), m6 7 (by decide), z96 24 (by decide)]
  · rw [z 92 (by decide) (by decide) (by decide) (by decide) (by decide) (by decide) (by decide) (by decide)]; rfl
  · rw [z96 25 (by decide)]; rfl
end
