/-! step -/
section
variable {M M' N N' : am_M} {pl pl' : Nat → Nat → Option Nat} {ow : Nat → Option Nat} {ct ct' : Nat → Nat → Int} {q : ct_Q} {m : Nat} {ce : Nat → Int32} {lo : Nat → Option Nat} {ls : Int32} {sh : Nat → Int32} {tt : Nat} {a b n bg r : Nat} {op : Bool} {pr ln : Nat → Nat} {cd : Nat → Nat → Nat → Int32} {Bd Bd' : Int} {T T' : Nat}
/-- the class up to the message's removal -/
theorem cs_68 (ha : a < 4) (hQ : cl_Q M pl q m) (hto : ∀ i, i < m → (q i).2.1 < 4) (hr : r < m) (hf : ∀ i, i < r → (q i).2.1 ≠ a) (hw : (q r).2.1 = a) (hk : (q r).1 < 3) : fd_68 (nI a) M = (fd_73 (nI r) M).bind fun q10 => if (q r).1 = 0 then ((fd_74 (nI a) (en_o (pl 21 r)) (nI (q r).2.2.1) q10).bind fun q14 => (fd_83 (nI (q r).2.2.1) q14).bind fun q16 => (fd_84 (nI a) (en_o (pl 21 r)) q16.1 q16.2).bind fun q18 => some (nI (q r).1, q18)) else (if (q r).1 = 1 then (fd_68_105 (nI (q r).1) (nI a) (nI (q r).2.2.1) (en_i (q r).2.2.2.1) q10) else (fd_68_105 (nI (q r).1) (nI a) (nI (q r).2.2.1) (-(en_i (q r).2.2.2.1)) q10)) := by
  have m20 := hQ.2.1
  obtain ⟨e1, e2, e3, e4⟩ := hQ.2.2 r hr
  unfold fd_68 fd_69
  rw [show (0 : Int32) = nI 0 from rfl, ((cs_69_2 ha hQ hto m 0 1000 (by omega) (by omega)).1 r (by omega) hr (fun i _ h => hf i h) hw), Option.bind_some]
  dsimp only
  rw [if_neg (en_nI_m1 (by omega))]
  unfold fd_70 fd_71 fd_72
  simp (disch := omega) only [pu_cl, pu_g2]
  simp only [Option.bind_some]
  rw [e1, e3, e4]
  rw [show (1 : Int32) = nI 1 from rfl]
  congr 1
  funext q10
  by_cases k0 : (q r).1 = 0
  · rw [if_pos (by rw [k0]), if_pos k0, if_pos k0, if_pos k0]
  · rw [if_neg (fun g => k0 ((en_nI (by omega) (by omega)).mp g)), if_neg k0, if_neg k0, if_neg k0]
    by_cases k1 : (q r).1 = 1
    · rw [if_pos (by rw [k1]), if_pos k1]
    · rw [if_neg (fun g => k1 ((en_nI (by omega) (by omega)).mp g)), if_neg k1]
/-- the reference up to there -/
theorem rs_156 (ha : a < 4) (hQ : rf_Q N pl q m) (hto : ∀ i, i < m → (q i).2.1 < 4) (hr : r < m) (hf : ∀ i, i < r → (q i).2.1 ≠ a) (hw : (q r).2.1 = a) (hk : (q r).1 < 3) (ho : (q r).1 ≠ 0 → (q r).2.2.1 < 16) : fd_156 (nI a) N = (fd_157 (nI r) N).bind fun q5 => if (q r).1 = 0 then ((fd_158 q5).bind fun q2 => if nI (q r).2.2.1 < 0 ∨ 6 ≤ (nI (q r).2.2.1).toNatClampNeg then none else (fd_159 (en_o (pl 21 r)) (q2 102 (nI (q r).2.2.1).toNatClampNeg) q2).bind fun q5 => (fd_160 q5).bind fun q7 => fd_156_138 1000 (nI a) (nI (q r).2.2.1) (en_o (pl 21 r)) (0 : Int32) q7) else (if (q r).1 = 1 then some (nI (q r).1, ds_w q5 100 (16 * a + (q r).2.2.1) (q5 100 (16 * a + (q r).2.2.1) + en_i (q r).2.2.2.1)) else some (nI (q r).1, ds_w q5 100 (16 * a + (q r).2.2.1) (q5 100 (16 * a + (q r).2.2.1) - en_i (q r).2.2.2.1))) := by
  have m20 := hQ.2.1
  obtain ⟨e1, e2, e3, e4⟩ := hQ.2.2 r hr
  unfold fd_156
  rw [show fd_156_2 1000 (nI a) (0 : Int32) N = _ from ((rs_156_2 ha hQ hto m 0 1000 (by omega) (by omega)).1 r (by omega) hr (fun i _ h => hf i h) hw)]
  unfold fd_156_26
  rw [hQ.1, if_neg (fun g => by have := (en_nI (by omega) (by omega)).mp g; omega)]
  simp (disch := omega) only [pu_cl, pu_g2]
  rw [e1, e3, e4]
  congr 1
  funext q5
  rw [show (1 : Int32) = nI 1 from rfl]
  unfold fd_156_86
  rw [show (2 : Int32) = nI 2 from rfl]
  unfold fd_156_108
  by_cases k0 : (q r).1 = 0
  · rw [k0, if_neg (by decide), if_neg (by decide), if_pos (show nI 0 = (0 : Int32) from rfl), if_pos rfl, if_pos rfl]
  · have o16 := ho k0
    rw [if_neg k0, if_neg k0, if_neg (show ¬ nI (q r).1 = (0 : Int32) from fun g => k0 ((en_nI (t := 0) (by omega) (by omega)).mp g))]
    rw [pu_16]
    simp (disch := omega) only [pu_cl, pu_g2]
    by_cases k1 : (q r).1 = 1
    · rw [k1, if_pos rfl, if_neg (by decide), if_pos rfl]
      rfl
    · have k2 : (q r).1 = 2 := by omega
      rw [k2, if_neg (by decide), if_pos rfl, if_neg (by decide)]
      rfl
end
