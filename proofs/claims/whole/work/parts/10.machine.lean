/-! A small machine of our own, over handles instead of addresses: what a run of it answers, the real machine answers (am_sound). Tables: P = (code, links, constants, field types, return type, number of locals, read-only arrays). -/
abbrev am_I : Type := Jvm.ClassFile.Instr
/-- a cell: an object (class, fields: none = an int kept in the memory, some v = a reference), or an array (0 int, 1 boolean, n + 2 references to class n; length; references) -/
abbrev am_C : Type := (Nat × List (Option Value)) ⊕ (Nat × Nat × (Nat → Option Nat))
abbrev am_M : Type := Nat → Nat → Int32
abbrev am_R : Type := Option Value × List am_C × am_M
abbrev am_K : Type := Nat → Nat → List (Option Value) → List Value → List am_C → am_M → Option am_R
abbrev am_T : Type := (Nat → Nat → Option (am_I × Nat)) × (Nat → Nat → Option (Nat × Nat × Nat × Nat × Nat)) × (Nat → Nat → Option Int32) × (Nat → List FieldType) × (Nat → Option FieldType) × (Nat → Nat) × (Nat → Option (Nat × (Nat → Int32)))
def am_nth {α : Type} : List α → Nat → Option α
  | [], _ => none
  | a :: _, 0 => some a
  | _ :: r, n + 1 => am_nth r n
theorem am_nth_eq {α : Type} : ∀ (l : List α) (n : Nat), am_nth l n = l[n]?
  | [], n => by simp [am_nth]
  | a :: r, 0 => by simp [am_nth]
  | a :: r, n + 1 => by simp [am_nth, am_nth_eq r n]
def am_get (L : List (Option Value)) (i : Nat) : Option Value := match am_nth L i with
  | some o => o
  | none => none
/-- the memory's row k is f -/
def am_set (M : am_M) (k : Nat) (f : Nat → Int32) : am_M := fun j => if j = k then f else M j
theorem am_set_s (M : am_M) (k : Nat) (f : Nat → Int32) : am_set M k f k = f := by simp [am_set]
theorem am_set_n (M : am_M) {k j : Nat} (f : Nat → Int32) (h : j ≠ k) : am_set M k f j = M j := by simp [am_set, h]
def am_bin : am_I → Option (Int32 → Int32 → Option Int32)
  | .iadd => some fun x y => some (x + y)
  | .isub => some fun x y => some (x - y)
  | .imul => some fun x y => some (x * y)
  | .iand => some fun x y => some (x &&& y)
  | .ior => some fun x y => some (x ||| y)
  | .ixor => some fun x y => some (x ^^^ y)
  | .ishl => some fun x y => some (x <<< (y &&& 31))
  | .ishr => some fun x y => some (x >>> (y &&& 31))
  | .idiv => some fun x y => if y = 0 then none else some (x / y)
  | .irem => some fun x y => if y = 0 then none else some (x - x / y * y)
  | _ => none
def am_psh (cst : Nat → Option Int32) : am_I → Option Value
  | .iconst n => some (.int (Int32.ofInt n))
  | .bipush n => some (.int (Int8.ofInt n).toInt32)
  | .sipush n => some (.int (Int16.ofInt n).toInt32)
  | .ldc ix => (match cst ix with | some z => some (.int z) | none => none)
  | _ => none
def am_ldi : am_I → Option Nat
  | .iload i => some i
  | .iload_n k => some k.val
  | _ => none
def am_lda : am_I → Option Nat
  | .aload i => some i
  | .aload_n k => some k.val
  | _ => none
def am_sti : am_I → Option Nat
  | .istore i => some i
  | .istore_n k => some k.val
  | _ => none
def am_sta : am_I → Option Nat
  | .astore i => some i
  | .astore_n k => some k.val
  | _ => none
def am_len : am_I → Nat
  | .iadd => 1 | .isub => 1 | .imul => 1 | .iand => 1 | .ior => 1 | .ixor => 1 | .ishl => 1 | .ishr => 1 | .idiv => 1 | .irem => 1 | .ineg => 1
  | .iconst _ => 1 | .bipush _ => 2 | .sipush _ => 3 | .ldc _ => 2
  | .iload _ => 2 | .iload_n _ => 1 | .aload _ => 2 | .aload_n _ => 1 | .istore _ => 2 | .istore_n _ => 1 | .astore _ => 2 | .astore_n _ => 1
  | .iinc _ _ => 3 | .dup => 1 | .pop => 1 | .dup_x1 => 1 | .dup_x2 => 1 | .dup2 => 1
  | .ifCond _ _ => 3 | .if_icmp _ _ => 3 | .goto _ => 3
  | .getfield _ => 3 | .putfield _ => 3 | .getstatic _ => 3
  | .iaload => 1 | .iastore => 1 | .baload => 1 | .bastore => 1 | .aaload => 1 | .aastore => 1 | .arraylength => 1
  | .newarray _ => 2 | .anewarray _ => 3 | .new _ => 3
  | .invokespecial _ => 3 | .invokevirtual _ => 3 | .invokestatic _ => 3
  | .ireturn => 1 | .return_ => 1 | .areturn => 1
  | _ => 0
def am_dup : am_I → List Value → Option (List Value)
  | .dup, v :: r => some (v :: v :: r)
  | .pop, _ :: r => some r
  | .dup_x1, v :: w :: r => some (v :: w :: v :: r)
  | .dup_x2, v :: w :: u :: r => some (v :: w :: u :: v :: r)
  | .dup2, v :: w :: r => some (v :: w :: v :: w :: r)
  | _, _ => none
def am_tg (pc : Nat) (off : Int) : Option Nat := match (pc : Int) + off with
  | .ofNat t => some t
  | .negSucc _ => none
def am_br {α : Type} (c : Jvm.ClassFile.Cond) (x y : Int32) (a b : α) : α := match c with
  | .eq => if x = y then a else b
  | .ne => if x = y then b else a
  | .lt => if x < y then a else b
  | .ge => if y ≤ x then a else b
  | .gt => if y < x then a else b
  | .le => if x ≤ y then a else b
/-- where a switch goes -/
def am_sw (pc : Nat) (x : Int32) : am_I → Option Nat
  | .tableswitch dflt lo hi offs => if x.toInt < lo ∨ hi < x.toInt then am_tg pc dflt else (match offs[(x.toInt - lo).toNat]? with | some o => am_tg pc o | none => none)
  | .lookupswitch dflt ps => if (ps.toList.zip (ps.toList.drop 1)).all (fun (a, next) => a.1 < next.1) = true then am_tg pc (Op.lookupswitch.offset ps.toList dflt x.toInt) else none
  | _ => none
/-- may a field, a return of this type take this int as it is? -/
def am_fit (ty : FieldType) (x : Int32) : Bool := match ty with
  | .int => true
  | .boolean => x == 0 || x == 1
  | _ => false
def am_rty (ty : FieldType) : Bool := match ty with
  | .object _ => true
  | .array _ => true
  | _ => false
def am_new (ty : FieldType) : Option Value := match ty with
  | .int => none
  | .boolean => none
  | _ => some .null
/-- the heap's part of a step: what lies on the stack, the cells and the memory behind it -/
def am_hp (P : am_T) (mi : Nat) (i : am_I) (st : List Value) (sh : List am_C) (M : am_M) : Option (List Value × List am_C × am_M) := match i with
  | .getfield ix => (match P.2.1 mi ix, st with
    | some (0, ci, k, _, _), .ref a :: r => (match am_nth sh a with
      | some (.inl (cj, fs)) => if cj = ci then (match am_nth fs k with
        | some none => some (.int (M a k) :: r, sh, M)
        | some (some v) => some (v :: r, sh, M)
        | none => none) else none
      | _ => none)
    | _, _ => none)
  | .putfield ix => (match P.2.1 mi ix, st with
    | some (0, ci, k, _, 0), v :: .ref a :: r => (match am_nth sh a with
      | some (.inl (cj, fs)) => if cj = ci then (match am_nth fs k, v with
        | some none, .int x => (match am_nth (P.2.2.2.1 ci) k with
          | some ty => if am_fit ty x then some (r, sh, am_set M a (upd (M a) k x)) else none
          | none => none)
        | some (some _), .ref b => (match am_nth (P.2.2.2.1 ci) k with
          | some ty => if am_rty ty then some (r, sh.set a (.inl (cj, fs.set k (some (.ref b)))), M) else none
          | none => none)
        | _, _ => none) else none
      | _ => none)
    | _, _ => none)
  | .getstatic ix => (match P.2.1 mi ix with
    | some (1, j, _, _, _) => some (.ref (1048576 + j) :: st, sh, M)
    | _ => none)
  | .iaload => (match st with
    | .int x :: .ref a :: r => (match am_nth sh a with
      | some (.inr (t, n, _)) => if t = 0 then (if x < 0 ∨ n ≤ x.toNatClampNeg then none else some (.int (M a x.toNatClampNeg) :: r, sh, M)) else none
      | some (.inl _) => none
      | none => (match P.2.2.2.2.2.2 a with
        | some (n, f) => if x < 0 ∨ n ≤ x.toNatClampNeg then none else some (.int (f x.toNatClampNeg) :: r, sh, M)
        | none => none))
    | _ => none)
  | .baload => (match st with
    | .int x :: .ref a :: r => (match am_nth sh a with
      | some (.inr (t, n, _)) => if t = 1 then (if x < 0 ∨ n ≤ x.toNatClampNeg then none else some (.int (M a x.toNatClampNeg) :: r, sh, M)) else none
      | _ => none)
    | _ => none)
  | .aaload => (match st with
    | .int x :: .ref a :: r => (match am_nth sh a with
      | some (.inr (t, n, g)) => if 2 ≤ t then (if x < 0 ∨ n ≤ x.toNatClampNeg then none else (match g x.toNatClampNeg with
        | some b => some (.ref b :: r, sh, M)
        | none => none)) else none
      | _ => none)
    | _ => none)
  | .iastore => (match st with
    | .int v :: .int x :: .ref a :: r => (match am_nth sh a with
      | some (.inr (t, n, _)) => if t = 0 then (if x < 0 ∨ n ≤ x.toNatClampNeg then none else some (r, sh, am_set M a (upd (M a) x.toNatClampNeg v))) else none
      | _ => none)
    | _ => none)
  | .bastore => (match st with
    | .int v :: .int x :: .ref a :: r => (match am_nth sh a with
      | some (.inr (t, n, _)) => if t = 1 then (if x < 0 ∨ n ≤ x.toNatClampNeg then none else some (r, sh, am_set M a (upd (M a) x.toNatClampNeg (v &&& 1)))) else none
      | _ => none)
    | _ => none)
  | .aastore => (match st with
    | .ref v :: .int x :: .ref a :: r => (match am_nth sh a, am_nth sh v with
      | some (.inr (t, n, g)), some (.inl (ci, _)) => if t = ci + 2 then (if x < 0 ∨ n ≤ x.toNatClampNeg then none else some (r, sh.set a (.inr (t, n, va_up g x.toNatClampNeg (some v))), M)) else none
      | _, _ => none)
    | _ => none)
  | .arraylength => (match st with
    | .ref a :: r => (match am_nth sh a with
      | some (.inr (_, n, _)) => some (.int (Int32.ofNat n) :: r, sh, M)
      | some (.inl _) => none
      | none => (match P.2.2.2.2.2.2 a with
        | some (n, _) => some (.int (Int32.ofNat n) :: r, sh, M)
        | none => none))
    | _ => none)
  | .newarray at_ => (match st, at_ with
    | .int x :: r, .int => if x < 0 ∨ 100000 ≤ x.toNatClampNeg ∨ 1048576 ≤ sh.length + 1 then none else some (.ref sh.length :: r, sh ++ [.inr (0, x.toNatClampNeg, fun _ => none)], am_set M sh.length (fun _ => 0))
    | .int x :: r, .boolean => if x < 0 ∨ 100000 ≤ x.toNatClampNeg ∨ 1048576 ≤ sh.length + 1 then none else some (.ref sh.length :: r, sh ++ [.inr (1, x.toNatClampNeg, fun _ => none)], am_set M sh.length (fun _ => 0))
    | _, _ => none)
  | .anewarray ix => (match st, P.2.1 mi (ix + 100000) with
    | .int x :: r, some (6, ci, _, _, _) => if x < 0 ∨ 100000 ≤ x.toNatClampNeg ∨ 1048576 ≤ sh.length + 1 then none else some (.ref sh.length :: r, sh ++ [.inr (ci + 2, x.toNatClampNeg, fun _ => none)], am_set M sh.length (fun _ => 0))
    | _, _ => none)
  | .new ix => (match P.2.1 mi ix with
    | some (5, ci, _, _, _) => if 1048576 ≤ sh.length + 1 then none else some (.ref sh.length :: st, sh ++ [.inl (ci, (P.2.2.2.1 ci).map am_new)], am_set M sh.length (fun _ => 0))
    | _ => none)
  | _ => none
def am_ent (n : Nat) (as : List Value) : List (Option Value) := as.map some ++ List.replicate (n - as.length) none
/-- what a step does: the method's end; or it goes on at (pc, locals, stack, cells, memory); or a call: method, arguments, what else lies on the stack -/
abbrev am_N : Type := Nat × List (Option Value) × List Value × List am_C × am_M
abbrev am_A : Type := am_R ⊕ (am_N ⊕ (Nat × List Value × List Value))
def am_nx (pc : Nat) (L : List (Option Value)) (st : List Value) (sh : List am_C) (M : am_M) : Option am_A := some (.inr (.inl (pc, L, st, sh, M)))
/-- a call: the arguments lie on the stack; link (2, method, parameters, kind, class): kind 0 virtual, 1 static, 2 a constructor (3, 4, 5: of a nest mate); (3, ..): Object's constructor; (4, ..): System.arraycopy; (7, ..), (8, ..), (9, ..): Math.max, Math.min, Math.floorMod by 16 -/
def am_cal (P : am_T) (mi pc : Nat) (ix : Nat) (ik : Nat) (L : List (Option Value)) (st : List Value) (sh : List am_C) (M : am_M) : Option am_A := match P.2.1 mi ix with
  | some (2, mj, na, kd, ci) =>
    if st.length < na ∨ ¬ kd % 3 = ik then none else
    (match (if ik = 1 then some ((st.take na).reverse, st.drop na) else (match st.drop na with
      | .ref b :: r => (if ik = 0 then (match am_nth sh b with
        | some (.inl (cj, _)) => if cj = ci then some (.ref b :: (st.take na).reverse, r) else none
        | _ => none) else some (.ref b :: (st.take na).reverse, r))
      | _ => none)) with
    | some (as, r) => if 8 < r.length ∨ P.2.2.2.2.2.1 mj < as.length then none else some (.inr (.inr (mj, as, r)))
    | none => none)
  | some (3, _, _, _, _) => if ¬ ik = 2 then none else (match st with
    | .ref _ :: r => if 8 < r.length then none else am_nx (pc + 3) L r sh M
    | _ => none)
  | some (4, _, _, _, _) => if ¬ ik = 1 then none else (match st with
    | .int n :: .int dp :: .ref a :: .int sp :: .ref b :: r => (match am_nth sh a, am_nth sh b with
      | some (.inr (ta, na, _)), some (.inr (tb, nb, _)) => if 8 < r.length ∨ ¬ ta = 0 ∨ ¬ tb = 0 ∨ sp < 0 ∨ dp < 0 ∨ n < 0 ∨ nb < sp.toNatClampNeg + n.toNatClampNeg ∨ na < dp.toNatClampNeg + n.toNatClampNeg then none
        else am_nx (pc + 3) L r sh (am_set M a (va_cpy (M b) (M a) sp.toNatClampNeg dp.toNatClampNeg n.toNatClampNeg))
      | _, _ => none)
    | _ => none)
  | some (7, _, _, _, _) => if ¬ ik = 1 then none else (match st with
    | .int y :: .int x :: r => if 8 < r.length then none else am_nx (pc + 3) L (.int (if x < y then y else x) :: r) sh M
    | _ => none)
  | some (8, _, _, _, _) => if ¬ ik = 1 then none else (match st with
    | .int y :: .int x :: r => if 8 < r.length then none else am_nx (pc + 3) L (.int (if y < x then y else x) :: r) sh M
    | _ => none)
  | some (9, _, _, _, _) => if ¬ ik = 1 then none else (match st with
    | .int y :: .int x :: r => if 8 < r.length ∨ ¬ y = 16 ∨ x < 0 then none else am_nx (pc + 3) L (.int (x - x / 16 * 16) :: r) sh M
    | _ => none)
  | _ => none
/-- jumps, calls, returns -/
def am_oth (P : am_T) (mi pc : Nat) (i : am_I) (L : List (Option Value)) (st : List Value) (sh : List am_C) (M : am_M) : Option am_A := match i with
  | .ifCond c off => (match st, am_tg pc off with
    | .int x :: r, some t => am_nx (am_br c x 0 t (pc + 3)) L r sh M
    | _, _ => none)
  | .if_icmp c off => (match st, am_tg pc off with
    | .int y :: .int x :: r, some t => am_nx (am_br c x y t (pc + 3)) L r sh M
    | _, _ => none)
  | .goto off => (match am_tg pc off with
    | some t => am_nx t L st sh M
    | none => none)
  | .ineg => (match st with
    | .int x :: r => am_nx (pc + 1) L (.int (-x) :: r) sh M
    | _ => none)
  | .iinc j z => (match am_get L j with
    | some (.int x) => if j < L.length then am_nx (pc + 3) (L.set j (some (.int (x + Int32.ofInt z)))) st sh M else none
    | _ => none)
  | .tableswitch dflt lo hi offs => (match st with
    | .int x :: r => (match am_sw pc x (.tableswitch dflt lo hi offs) with
      | some t => am_nx t L r sh M
      | none => none)
    | _ => none)
  | .lookupswitch dflt ps => (match st with
    | .int x :: r => (match am_sw pc x (.lookupswitch dflt ps) with
      | some t => am_nx t L r sh M
      | none => none)
    | _ => none)
  | .invokevirtual ix => am_cal P mi pc ix 0 L st sh M
  | .invokestatic ix => am_cal P mi pc ix 1 L st sh M
  | .invokespecial ix => am_cal P mi pc ix 2 L st sh M
  | .ireturn => (match st, P.2.2.2.2.1 mi with
    | [.int x], some ty => if am_fit ty x then some (.inl (some (.int x), sh, M)) else none
    | _, _ => none)
  | .areturn => (match st, P.2.2.2.2.1 mi with
    | [.ref a], some (.object _) => some (.inl (some (.ref a), sh, M))
    | _, _ => none)
  | .return_ => (match st, P.2.2.2.2.1 mi with
    | [], none => some (.inl (none, sh, M))
    | _, _ => none)
  | _ => none
/-- one instruction i of n bytes -/
def am_ins (P : am_T) (mi pc : Nat) (i : am_I) (n : Nat) (L : List (Option Value)) (st : List Value) (sh : List am_C) (M : am_M) : Option am_A := match am_bin i with
  | some g => (match st with
    | .int y :: .int x :: r => (match g x y with
      | some z => am_nx (pc + 1) L (.int z :: r) sh M
      | none => none)
    | _ => none)
  | none => (match am_psh (P.2.2.1 mi) i with
  | some v => am_nx (pc + n) L (v :: st) sh M
  | none => (match am_ldi i with
  | some j => (match am_get L j with
    | some (.int x) => am_nx (pc + n) L (.int x :: st) sh M
    | _ => none)
  | none => (match am_lda i with
  | some j => (match am_get L j with
    | some (.ref a) => am_nx (pc + n) L (.ref a :: st) sh M
    | _ => none)
  | none => (match am_sti i with
  | some j => (match st with
    | .int x :: r => if j < L.length then am_nx (pc + n) (L.set j (some (.int x))) r sh M else none
    | _ => none)
  | none => (match am_sta i with
  | some j => (match st with
    | .ref a :: r => if j < L.length then am_nx (pc + n) (L.set j (some (.ref a))) r sh M else none
    | _ => none)
  | none => (match am_dup i st with
  | some st' => am_nx (pc + 1) L st' sh M
  | none => (match am_hp P mi i st sh M with
  | some (st', sh', M') => am_nx (pc + n) L st' sh' M'
  | none => am_oth P mi pc i L st sh M)))))))
def am_act (P : am_T) (mi pc : Nat) (L : List (Option Value)) (st : List Value) (sh : List am_C) (M : am_M) : Option am_A := match P.1 mi pc with
  | some (i, n) => am_ins P mi pc i n L st sh M
  | none => none
/-- one step; K goes on -/
def am_step (P : am_T) (K : am_K) : am_K := fun mi pc L st sh M => match am_act P mi pc L st sh M with
  | some (.inl r) => some r
  | some (.inr (.inl (pc', L', st', sh', M'))) => K mi pc' L' st' sh' M'
  | some (.inr (.inr (mj, as, rest))) => (match K mj 0 (am_ent (P.2.2.2.2.2.1 mj) as) [] sh M with
    | some (rv, sh', M') => K mi (pc + 3) L (rv.toList ++ rest) sh' M'
    | none => none)
  | none => none
def am_run (P : am_T) (f : Nat) : am_K := Nat.rec (fun _ _ _ _ _ _ => none) (fun _ ih => am_step P ih) f
theorem am_run_s (P : am_T) (f : Nat) : am_run P (f + 1) = am_step P (am_run P f) := rfl
theorem am_step_mono (P : am_T) {K K' : am_K} (h : ∀ mi pc L st sh M r, K mi pc L st sh M = some r → K' mi pc L st sh M = some r) (mi pc : Nat) (L : List (Option Value)) (st : List Value) (sh : List am_C) (M : am_M) (r : am_R) (hr : am_step P K mi pc L st sh M = some r) : am_step P K' mi pc L st sh M = some r := by
  unfold am_step at hr ⊢
  cases ha : am_act P mi pc L st sh M with
  | none => rw [ha] at hr; cases hr
  | some a =>
    rw [ha] at hr
    rcases a with r' | ⟨pc', L', st', sh', M'⟩ | ⟨mj, as, rest⟩
    · exact hr
    · exact h _ _ _ _ _ _ _ hr
    · dsimp only at hr ⊢
      cases hk : K mj 0 (am_ent (P.2.2.2.2.2.1 mj) as) [] sh M with
      | none => rw [hk] at hr; cases hr
      | some q =>
        rw [hk] at hr
        rw [h _ _ _ _ _ _ _ hk]
        exact h _ _ _ _ _ _ _ hr
theorem am_run_mono (P : am_T) : ∀ (f : Nat) (mi pc : Nat) (L : List (Option Value)) (st : List Value) (sh : List am_C) (M : am_M) (r : am_R), am_run P f mi pc L st sh M = some r → am_run P (f + 1) mi pc L st sh M = some r
  | 0, _, _, _, _, _, _, _, h => by cases h
  | f + 1, mi, pc, L, st, sh, M, r, h => am_step_mono P (am_run_mono P f) mi pc L st sh M r h
theorem am_run_le (P : am_T) {f f' : Nat} (hf : f ≤ f') {mi pc : Nat} {L : List (Option Value)} {st : List Value} {sh : List am_C} {M : am_M} {r : am_R} (h : am_run P f mi pc L st sh M = some r) : am_run P f' mi pc L st sh M = some r := by
  induction hf with
  | refl => exact h
  | step _ ih => exact am_run_mono P _ _ _ _ _ _ _ _ ih
/-- the small machine comes to the answer r -/
def am_ev (P : am_T) (mi pc : Nat) (L : List (Option Value)) (st : List Value) (sh : List am_C) (M : am_M) (r : am_R) : Prop := ∃ f, am_run P f mi pc L st sh M = some r
theorem am_ev_ret {P : am_T} {mi pc : Nat} {L : List (Option Value)} {st : List Value} {sh : List am_C} {M : am_M} {r : am_R} (h : am_act P mi pc L st sh M = some (.inl r)) : am_ev P mi pc L st sh M r := by
  refine ⟨1, ?_⟩
  show am_step P _ mi pc L st sh M = _
  unfold am_step
  rw [h]
theorem am_ev_nx {P : am_T} {mi pc pc' : Nat} {L L' : List (Option Value)} {st st' : List Value} {sh sh' : List am_C} {M M' : am_M} {r : am_R} (h : am_act P mi pc L st sh M = some (.inr (.inl (pc', L', st', sh', M')))) (k : am_ev P mi pc' L' st' sh' M' r) : am_ev P mi pc L st sh M r := by
  obtain ⟨f, k⟩ := k
  refine ⟨f + 1, ?_⟩
  show am_step P _ mi pc L st sh M = _
  unfold am_step
  rw [h]
  exact k
theorem am_ev_call {P : am_T} {mi pc mj : Nat} {L : List (Option Value)} {st as rest : List Value} {sh sh' : List am_C} {M M' : am_M} {rv : Option Value} {r : am_R} (h : am_act P mi pc L st sh M = some (.inr (.inr (mj, as, rest)))) (k1 : am_ev P mj 0 (am_ent (P.2.2.2.2.2.1 mj) as) [] sh M (rv, sh', M')) (k : am_ev P mi (pc + 3) L (rv.toList ++ rest) sh' M' r) : am_ev P mi pc L st sh M r := by
  obtain ⟨f1, k1⟩ := k1
  obtain ⟨f, k⟩ := k
  refine ⟨max f1 f + 1, ?_⟩
  show am_step P _ mi pc L st sh M = _
  unfold am_step
  rw [h]
  show (match am_run P (max f1 f) mj 0 (am_ent (P.2.2.2.2.2.1 mj) as) [] sh M with
    | some (rv, sh', M') => am_run P (max f1 f) mi (pc + 3) L (rv.toList ++ rest) sh' M'
    | none => none) = some r
  rw [am_run_le P (Nat.le_max_left f1 f) k1]
  exact am_run_le P (Nat.le_max_right f1 f) k
/-- several instructions that go straight on -/
def am_go (P : am_T) (mi : Nat) : Nat → am_N → Option am_N
  | 0, q => some q
  | n + 1, q => (match am_act P mi q.1 q.2.1 q.2.2.1 q.2.2.2.1 q.2.2.2.2 with
    | some (.inr (.inl q')) => am_go P mi n q'
    | _ => none)
theorem am_ev_go {P : am_T} {mi : Nat} : ∀ (n : Nat) {pc pc' : Nat} {L L' : List (Option Value)} {st st' : List Value} {sh sh' : List am_C} {M M' : am_M} {r : am_R}, am_go P mi n (pc, L, st, sh, M) = some (pc', L', st', sh', M') → am_ev P mi pc' L' st' sh' M' r → am_ev P mi pc L st sh M r
  | 0, _, _, _, _, _, _, _, _, _, _, _, h, k => by cases h; exact k
  | n + 1, pc, pc', L, L', st, st', sh, sh', M, M', r, h, k => by
    unfold am_go at h
    dsimp only at h
    split at h
    case h_2 => cases h
    case h_1 q' hq => exact am_ev_nx hq (am_ev_go n h k)
