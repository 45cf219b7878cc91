/-! SEND keeps the invariant -/
section
variable {pl pl' : Nat → Nat → Option Nat} {ow : Nat → Option Nat} {ct : Nat → Nat → Int} {q : ct_Q} {m : Nat} {lo lo' : Nat → Option Nat} {a b n nf to : Nat} {pr : Nat → Nat} {t t' : ty_T} {Bd : Int} {x y f z c : Nat} {cl : Nat → Bool}
theorem ab_pays_ind (Q : Nat → (Nat → Nat → Int) × ct_Q × Nat → Prop) : ∀ (k u : Nat) (s : (Nat → Nat → Int) × ct_Q × Nat), Q u s → (∀ v s, u ≤ v → v < u + k → Q v s → Q (v + 1) (if cl v = true then ab_pay ow a v s else s)) → Q (u + k) (ab_pays cl ow a k u s)
  | 0, u, s, h0, _ => h0
  | k + 1, u, s, h0, hs => by
    have := ab_pays_ind Q k (u + 1) (if cl u = true then ab_pay ow a u s else s) (hs u s (Nat.le_refl _) (by omega) h0) (fun v s h1 h2 h3 => hs v s (by omega) (by omega) h3)
    rw [show u + (k + 1) = u + 1 + k by omega]; exact this
theorem sy_W_u {ct' : Nat → Nat → Int} {c o : Nat} {d : Int} (hc : c < 4) (h1 : ct' c o = ct c o + d) (h2 : ∀ e, e < 4 → e ≠ c → ct' e o = ct e o) : ct_sum (fun b => ct' b o) 4 = ct_sum (fun b => ct b o) 4 + d := by
  simp only [ct_sum]
  rcases (show c = 0 ∨ c = 1 ∨ c = 2 ∨ c = 3 by omega) with rfl | rfl | rfl | rfl
  · rw [h1, h2 1 (by decide) (by decide), h2 2 (by decide) (by decide), h2 3 (by decide) (by decide)]; omega
  · rw [h1, h2 0 (by decide) (by decide), h2 2 (by decide) (by decide), h2 3 (by decide) (by decide)]; omega
  · rw [h1, h2 0 (by decide) (by decide), h2 1 (by decide) (by decide), h2 3 (by decide) (by decide)]; omega
  · rw [h1, h2 0 (by decide) (by decide), h2 1 (by decide) (by decide), h2 2 (by decide) (by decide)]; omega
theorem sy_W_ct {ct' : Nat → Nat → Int} {c o : Nat} {d : Int} (hc : c < 4) (h1 : ct' c o = ct c o + d) (h2 : ∀ e, e < 4 → e ≠ c → ct' e o = ct e o) : sy_W ct' q m o = sy_W ct q m o + d := by
  unfold sy_W; rw [sy_W_u hc h1 h2]; omega
theorem sy_W_same {ct' : Nat → Nat → Int} {o : Nat} (h : ∀ e, e < 4 → ct' e o = ct e o) : sy_W ct' q m o = sy_W ct q m o := by
  unfold sy_W; rw [ct_sum_eq (f := fun b => ct' b o) (g := fun b => ct b o) h]
theorem sy_W_ap {o : Nat} {x : Nat × Nat × Nat × Int × (Nat → Bool)} : sy_W ct (ct_ap q m x) (m + 1) o = sy_W ct q m o + (if x.1 = 1 ∧ x.2.2.1 = o then x.2.2.2.1 else 0) := by
  unfold sy_W
  have e : ct_sum (fun i => if (ct_ap q m x i).1 = 1 ∧ (ct_ap q m x i).2.2.1 = o then (ct_ap q m x i).2.2.2.1 else 0) (m + 1) = ct_sum (fun i => if (q i).1 = 1 ∧ (q i).2.2.1 = o then (q i).2.2.2.1 else 0) m + (if x.1 = 1 ∧ x.2.2.1 = o then x.2.2.2.1 else 0) := by
    show ct_sum _ m + (if (ct_ap q m x m).1 = 1 ∧ (ct_ap q m x m).2.2.1 = o then (ct_ap q m x m).2.2.2.1 else 0) = _
    rw [ct_ap_s, ct_sum_eq (g := fun i => if (q i).1 = 1 ∧ (q i).2.2.1 = o then (q i).2.2.2.1 else 0) (fun i hi => by rw [ct_ap_n (by omega)])]
  rw [e]; omega
/-- what is asked along the paying -/
def sy_p (ow : Nat → Option Nat) (ct : Nat → Nat → Int) (q : ct_Q) (m n a to : Nat) (cl : Nat → Bool) (v : Nat) (s : (Nat → Nat → Int) × ct_Q × Nat) : Prop :=
  m ≤ s.2.2 ∧ (∀ i, i < m → s.2.1 i = q i) ∧ (∀ i, m ≤ i → i < s.2.2 → (s.2.1 i).1 = 1 ∧ (s.2.1 i).2.1 < n ∧ (s.2.1 i).2.2.2.1 = 8) ∧
  (∀ c o, ¬ (c = a ∧ o < v ∧ cl o = true) → s.1 c o = ct c o) ∧ (∀ o, 1 ≤ ct a o → 1 ≤ s.1 a o) ∧
  ct_I ow s.1 s.2.1 s.2.2 to (fun o => decide (o < v) && cl o) ∧
  (∀ o, o < 16 → sy_W s.1 s.2.1 s.2.2 o ≤ sy_W ct q m o + (if o < v then 15 else 0))
theorem sy_pays (hn : n ≤ 4) (ha : a < n) (ho : ∀ o a, ow o = some a → a < n) (hI : ct_I ow ct q m to (fun _ => false)) (hK : ∀ o, o < 16 → cl o = true → sy_K ow ct a o) : sy_p ow ct q m n a to cl 16 (ab_pays cl ow a 16 0 (ct, q, m)) := by
  refine ab_pays_ind (sy_p ow ct q m n a to cl) 16 0 (ct, q, m) ?_ (fun v s _ hv H => ?_)
  · refine ⟨Nat.le_refl _, fun _ _ => rfl, fun i h1 h2 => by exact absurd h2 (by show ¬ i < m; omega), fun _ _ _ => rfl, fun _ h => h, ?_, fun o _ => by simp⟩
    have : (fun o => decide (o < 0) && cl o) = (fun _ => false) := by funext o; simp
    rw [this]; exact hI
  · obtain ⟨p1, p2, p3, p4, p5, p6, p7⟩ := H
    by_cases h : ¬ cl v = true
    · rw [if_neg h]
      refine ⟨p1, p2, p3, fun c o g => p4 c o (fun e => g ⟨e.1, by have := e.2.1; omega, e.2.2⟩), p5, ?_, fun o h16 => ?_⟩
      · have : (fun o => decide (o < v + 1) && cl o) = (fun o => decide (o < v) && cl o) := by
          funext o
          by_cases e : o = v
          · subst e; simp [h]
          · by_cases e2 : o < v
            · simp [e2, show o < v + 1 by omega]
            · simp [e2, show ¬ o < v + 1 by omega]
        rw [this]; exact p6
      · have := p7 o h16
        split <;> split at this <;> omega
    · have h : cl v = true := Classical.not_not.mp h
      have v16 : v < 16 := by omega
      rw [if_pos h]
      have pdv : (fun o => decide (o < v) && cl o) v = false := by simp
      have pdv' : (fun o => decide (o < v + 1) && cl o) v = true := by simp [h]
      have pdn : ∀ o, o ≠ v → (fun o => decide (o < v + 1) && cl o) o = (fun o => decide (o < v) && cl o) o := by
        intro o e
        by_cases e2 : o < v
        · simp [e2, show o < v + 1 by omega]
        · simp [e2, show ¬ o < v + 1 by omega]
      have sv : s.1 a v = ct a v := p4 a v (fun e => by have := e.2.1; omega)
      have Kv := hK v v16 h
      have Wn : ∀ {s' : (Nat → Nat → Int) × ct_Q × Nat}, (∀ o, o < 16 → o ≠ v → sy_W s'.1 s'.2.1 s'.2.2 o = sy_W s.1 s.2.1 s.2.2 o) → sy_W s'.1 s'.2.1 s'.2.2 v ≤ sy_W s.1 s.2.1 s.2.2 v + 15 → ∀ o, o < 16 → sy_W s'.1 s'.2.1 s'.2.2 o ≤ sy_W ct q m o + (if o < v + 1 then 15 else 0) := by
        intro s' g1 g2 o h16
        have := p7 o h16
        by_cases e : o = v
        · subst e; rw [if_neg (by omega)] at this; rw [if_pos (by omega)]; omega
        · rw [g1 o h16 e]
          by_cases e2 : o < v
          · rw [if_pos e2] at this; rw [if_pos (by omega)]; exact this
          · rw [if_neg e2] at this; rw [if_neg (by omega)]; exact this
      unfold ab_pay
      by_cases h1 : ow v = some a
      · rw [if_pos h1]
        refine ⟨p1, p2, p3, fun c o g => ?_, fun o g => ?_, ct_I_pay (by omega) v16 p6 pdv pdv' pdn (fun c o g => gh_u_n _ _ g) (Or.inl ⟨h1, gh_u_s _ _ _ _⟩), Wn (fun o h16 e => ?_) ?_⟩
        · show gh_u s.1 a v (s.1 a v + 1) c o = ct c o
          rw [gh_u_n _ _ (fun e => g ⟨e.1, by omega, by rw [e.2]; exact h⟩)]; exact p4 c o (fun e => g ⟨e.1, by have := e.2.1; omega, e.2.2⟩)
        · show 1 ≤ gh_u s.1 a v (s.1 a v + 1) a o
          by_cases e : o = v
          · subst e; rw [gh_u_s]; have := p5 o g; omega
          · rw [gh_u_n _ _ (by omega)]; exact p5 o g
        · exact sy_W_same (fun c _ => gh_u_n _ _ (by omega))
        · show sy_W (gh_u s.1 a v (s.1 a v + 1)) s.2.1 s.2.2 v ≤ _
          rw [sy_W_ct (ct := s.1) (c := a) (d := 1) (by omega) (gh_u_s _ _ _ _) (fun e _ he => gh_u_n _ _ (by omega))]; omega
      · rw [if_neg h1]
        have ex1 : ow v ≠ none ∧ 1 ≤ ct a v := by
          rcases Kv with g | g
          · exact absurd g h1
          · exact g
        by_cases h2 : s.1 a v < 2
        · rw [if_pos h2]
          obtain ⟨a0, ha0⟩ : ∃ a0, ow v = some a0 := by
            cases e : ow v with
            | none => exact absurd e ex1.1
            | some a0 => exact ⟨a0, rfl⟩
          have hab : a0 ≠ a := by rintro rfl; exact h1 ha0
          have ea0 : (ow v).getD 0 = a0 := by rw [ha0]; rfl
          rw [ea0]
          refine ⟨by show m ≤ s.2.2 + 1; omega, fun i hi => ?_, fun i i1 i2 => ?_, fun c o g => ?_, fun o g => ?_, ct_I_raise (by omega) v16 p6 pdv pdv' pdn (fun c o g => gh_u_n _ _ g) ha0 hab (by rw [sv]; exact ex1.2) (gh_u_s _ _ _ _) rfl rfl rfl rfl, Wn (fun o h16 e => ?_) ?_⟩
          · show ct_ap s.2.1 s.2.2 _ i = q i
            rw [ct_ap_n (by omega)]; exact p2 i hi
          · show (ct_ap s.2.1 s.2.2 (1, a0, v, 8, fun _ => false) i).1 = 1 ∧ (ct_ap s.2.1 s.2.2 (1, a0, v, 8, fun _ => false) i).2.1 < n ∧ (ct_ap s.2.1 s.2.2 (1, a0, v, 8, fun _ => false) i).2.2.2.1 = 8
            have i2 : i < s.2.2 + 1 := i2
            by_cases e : i = s.2.2
            · rw [e, ct_ap_s]; exact ⟨rfl, ho v a0 ha0, rfl⟩
            · rw [ct_ap_n e]; exact p3 i i1 (by omega)
          · show gh_u s.1 a v (s.1 a v + 7) c o = ct c o
            rw [gh_u_n _ _ (fun e => g ⟨e.1, by omega, by rw [e.2]; exact h⟩)]; exact p4 c o (fun e => g ⟨e.1, by have := e.2.1; omega, e.2.2⟩)
          · show 1 ≤ gh_u s.1 a v (s.1 a v + 7) a o
            by_cases e : o = v
            · subst e; rw [gh_u_s]; have := p5 o g; omega
            · rw [gh_u_n _ _ (by omega)]; exact p5 o g
          · show sy_W (gh_u s.1 a v (s.1 a v + 7)) (ct_ap s.2.1 s.2.2 (1, a0, v, 8, fun _ => false)) (s.2.2 + 1) o = _
            rw [sy_W_ap, sy_W_same (ct := s.1) (fun c _ => gh_u_n _ _ (by omega)), if_neg (fun g => e g.2.symm)]; omega
          · show sy_W (gh_u s.1 a v (s.1 a v + 7)) (ct_ap s.2.1 s.2.2 (1, a0, v, 8, fun _ => false)) (s.2.2 + 1) v ≤ _
            rw [sy_W_ap, sy_W_ct (ct := s.1) (c := a) (d := 7) (by omega) (gh_u_s _ _ _ _) (fun e _ he => gh_u_n _ _ (by omega)), if_pos ⟨rfl, rfl⟩]
            show _ + 7 + (8 : Int) ≤ _
            omega
        · rw [if_neg h2]
          refine ⟨p1, p2, p3, fun c o g => ?_, fun o g => ?_, ct_I_pay (by omega) v16 p6 pdv pdv' pdn (fun c o g => gh_u_n _ _ g) (Or.inr ⟨h1, ex1.1, by omega, gh_u_s _ _ _ _⟩), Wn (fun o h16 e => ?_) ?_⟩
          · show gh_u s.1 a v (s.1 a v - 1) c o = ct c o
            rw [gh_u_n _ _ (fun e => g ⟨e.1, by omega, by rw [e.2]; exact h⟩)]; exact p4 c o (fun e => g ⟨e.1, by have := e.2.1; omega, e.2.2⟩)
          · show 1 ≤ gh_u s.1 a v (s.1 a v - 1) a o
            by_cases e : o = v
            · subst e; rw [gh_u_s]; omega
            · rw [gh_u_n _ _ (by omega)]; exact p5 o g
          · exact sy_W_same (fun c _ => gh_u_n _ _ (by omega))
          · show sy_W (gh_u s.1 a v (s.1 a v - 1)) s.2.1 s.2.2 v ≤ _
            rw [sy_W_ct (ct := s.1) (c := a) (d := -1) (by omega) (by rw [gh_u_s]; omega) (fun e _ he => gh_u_n _ _ (by omega))]; omega
end
