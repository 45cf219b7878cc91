/-! The small machine's rows: each instruction, out of the kit's row of it -/
/-- names beside the tables: words of the tables, words of nest mates, code, method names, static fields, classes of reference arrays, the frames and the words of the stack that a method wants -/
abbrev am_X : Type := List Cond × List Cond × (Nat → ByteArray) × (Nat → MethodName) × (Nat → String × String × String) × List String × (Nat → Nat) × (Nat → Nat)
def am_gC (P : am_T) (X : am_X) : Prop := ∀ (mi pc : Nat) (i : am_I) (n : Nat), P.1 mi pc = some (i, n) → decode (X.2.2.1 mi) pc = .ok (i, n) ∧ (am_len i = 0 ∨ n = am_len i)
def am_gL (P : am_T) (X : am_X) (cl : List vw_C) : Prop := ∀ (ci : Nat) (C : String) (T : u_T) (N : Nat), cl[ci]? = some (C, T, N) → (P.2.2.2.1 ci).length = N ∧ (∀ k, k < N → parseFieldDescriptor (T k).2.2.1 = some ((P.2.2.2.1 ci).getD k .int)) ∧ (∀ a, a < N → ∀ b, b < N → a ≠ b → (T a).2.1 ≠ (T b).2.1) ∧ (∀ w ∈ u_ws C T N, w ∈ X.1) ∧ ∀ ty ∈ P.2.2.2.1 ci, ty = .int ∨ ty = .boolean ∨ am_rty ty = true
def am_gF (P : am_T) (X : am_X) (cl : List vw_C) : Prop := ∀ (mi ix ci k z u : Nat), P.2.1 mi ix = some (0, ci, k, z, u) → ∃ (C : String) (T : u_T) (N : Nat), cl[ci]? = some (C, T, N) ∧ k < N ∧
  (Cond.fieldLink (X.2.2.2.1 mi).cls ix (T k).1 (T k).2.1 (T k).2.2.1 ∈ X.1 ∨ ∃ host, Cond.fieldLinkNest (X.2.2.2.1 mi).cls ix (T k).1 (T k).2.1 (T k).2.2.1 host ∈ X.2.1) ∧
  (u = 0 → (T k).2.2.2 = false ∨ ((T k).2.2.2 = true ∧ Cond.fieldLink (X.2.2.2.1 mi).cls ix (T k).1 (T k).2.1 (T k).2.2.1 ∈ X.1 ∧ (X.2.2.2.1 mi).name = "<init>" ∧ (T k).1 = (X.2.2.2.1 mi).cls))
def am_gS (P : am_T) (X : am_X) : Prop := ∀ (mi ix j z u v : Nat), P.2.1 mi ix = some (1, j, z, u, v) → P.2.2.2.2.2.2 (1048576 + j) ≠ none ∧ (X.2.2.2.2.1 j).1 ≠ "" ∧
  (Cond.fieldLink (X.2.2.2.1 mi).cls ix (X.2.2.2.2.1 j).1 (X.2.2.2.2.1 j).2.1 (X.2.2.2.2.1 j).2.2 ∈ X.1 ∨ ∃ host, Cond.fieldLinkNest (X.2.2.2.1 mi).cls ix (X.2.2.2.2.1 j).1 (X.2.2.2.2.1 j).2.1 (X.2.2.2.2.1 j).2.2 host ∈ X.2.1)
def am_gN (P : am_T) (X : am_X) (cl : List vw_C) : Prop := (∀ (mi ix ci z u v : Nat), P.2.1 mi ix = some (5, ci, z, u, v) → ∃ (C : String) (T : u_T) (N : Nat), cl[ci]? = some (C, T, N) ∧ Cond.classLink (X.2.2.2.1 mi).cls ix C ∈ X.1 ∧ Cond.instantiable C N ∈ X.1 ∧ Cond.initialized C ∈ X.1) ∧
  (∀ (mi ix ci z u v : Nat), P.2.1 mi (ix + 100000) = some (6, ci, z, u, v) → ∃ (C : String) (T : u_T) (N : Nat), cl[ci]? = some (C, T, N) ∧ Cond.classLink (X.2.2.2.1 mi).cls ix C ∈ X.1 ∧ C ∈ X.2.2.2.2.2.1) ∧ Cond.arrayClass .int ∈ X.1 ∧ Cond.arrayClass .boolean ∈ X.1 ∧
  ∀ (mi ix : Nat) (z : Int32), P.2.2.1 mi ix = some z → Cond.constant (X.2.2.2.1 mi).cls ix z ∈ X.1
def am_gM (P : am_T) (X : am_X) (cl : List vw_C) : Prop := (∀ w ∈ X.1, (w.onTables && w.keeps) = true ∨ ∃ ty, w = .arrayClass ty) ∧
  (∀ w ∈ X.2.1, (∃ a i b n d h, w = Cond.fieldLinkNest a i b n d h) ∨ ∃ a i x h, w = Cond.methodLinkNest a i x h) ∧
  (∀ (mi ix mj na kd ci : Nat), P.2.1 mi ix = some (2, mj, na, kd, ci) → Cond.code (X.2.2.2.1 mj) (X.2.2.1 mj) (P.2.2.2.2.2.1 mj) (P.2.2.2.2.1 mj) ∈ X.1 ∧ plainName (X.2.2.2.1 mj).cls = true ∧ X.2.2.2.2.2.2.1 mj + 1 ≤ X.2.2.2.2.2.2.1 mi ∧ 8 + (P.2.2.2.2.2.1 mj + 11) + X.2.2.2.2.2.2.2 mj ≤ X.2.2.2.2.2.2.2 mi ∧ Cond.initialized (X.2.2.2.1 mj).cls ∈ X.1 ∧
    ((X.2.2.2.1 mj).cls ≠ "java/lang/invoke/MethodHandle" ∧ (X.2.2.2.1 mj).cls ≠ "java/lang/invoke/VarHandle" ∧ (parseMethodDescriptor (X.2.2.2.1 mj).desc).map (fun d => d.parameters.length) = some na) ∧
    (Cond.methodLink (X.2.2.2.1 mi).cls ix (X.2.2.2.1 mj) ∈ X.1 ∨ ∃ host, Cond.methodLinkNest (X.2.2.2.1 mi).cls ix (X.2.2.2.1 mj) host ∈ X.2.1) ∧
    (kd % 3 = 0 → Cond.instanceMethod (X.2.2.2.1 mj) ∈ X.1 ∧ Cond.selects (X.2.2.2.1 mj).cls (X.2.2.2.1 mj) (X.2.2.2.1 mj) ∈ X.1 ∧ ∃ (T : u_T) (N : Nat), cl[ci]? = some ((X.2.2.2.1 mj).cls, T, N)) ∧
    (kd % 3 = 1 → Cond.static (X.2.2.2.1 mj) ∈ X.1) ∧
    (kd % 3 = 2 → Cond.instanceMethod (X.2.2.2.1 mj) ∈ X.1 ∧ (X.2.2.2.1 mj).name = "<init>" ∧ P.2.2.2.2.1 mj = none)) ∧
  (∀ (mi ix z u v w : Nat), P.2.1 mi ix = some (3, z, u, v, w) → Cond.methodLink (X.2.2.2.1 mi).cls ix Lib.objectInit ∈ X.1 ∧ Cond.instanceMethod Lib.objectInit ∈ X.1 ∧ Cond.code Lib.objectInit ⟨#[0xb1]⟩ 1 none ∈ X.1 ∧ 1 ≤ X.2.2.2.2.2.2.1 mi ∧ 20 ≤ X.2.2.2.2.2.2.2 mi) ∧
  (∀ (mi ix z u v w : Nat), P.2.1 mi ix = some (4, z, u, v, w) → Cond.methodLink (X.2.2.2.1 mi).cls ix arraycopyName ∈ X.1 ∧ Cond.native arraycopyName ∈ X.1 ∧ Cond.static arraycopyName ∈ X.1 ∧ Cond.initialized "java/lang/System" ∈ X.1 ∧ 1 ≤ X.2.2.2.2.2.2.1 mi ∧ 8 + (nativeFrameWords "java/lang/System" "arraycopy" 5 + 11) ≤ X.2.2.2.2.2.2.2 mi) ∧
  (∀ (mi ix k z u v w : Nat), P.2.1 mi ix = some (k, z, u, v, w) → 7 ≤ k → k ≤ 9 → Cond.initialized "java/lang/Math" ∈ X.1 ∧ 1 ≤ X.2.2.2.2.2.2.1 mi ∧ 22 ≤ X.2.2.2.2.2.2.2 mi ∧
    (k = 7 → Cond.methodLink (X.2.2.2.1 mi).cls ix Lib.Math.max.name ∈ X.1 ∧ Cond.static Lib.Math.max.name ∈ X.1 ∧ Cond.code Lib.Math.max.name Lib.Math.max.code 2 (some .int) ∈ X.1) ∧
    (k = 8 → Cond.methodLink (X.2.2.2.1 mi).cls ix Lib.Math.min.name ∈ X.1 ∧ Cond.static Lib.Math.min.name ∈ X.1 ∧ Cond.code Lib.Math.min.name Lib.Math.min.code 2 (some .int) ∈ X.1) ∧
    (k = 9 → Cond.methodLink (X.2.2.2.1 mi).cls ix fm_y ∈ X.1 ∧ Cond.static fm_y ∈ X.1 ∧ Cond.code fm_y prog_14_method_50_code 3 (some .int) ∈ X.1))
def am_G (P : am_T) (X : am_X) (cl : List vw_C) : Prop := am_gC P X ∧ am_gL P X cl ∧ am_gF P X cl ∧ am_gS P X ∧ am_gN P X cl ∧ am_gM P X cl
/-- what holds at a method's entry beside its world -/
def am_E (P : am_T) (X : am_X) (ra : Nat → Nat) (A : Nat → Prop) (U : State) (H : Heap) : Prop := (∀ w ∈ X.2.1, va_Nw w U) ∧
  (∀ j, P.2.2.2.2.2.2 (1048576 + j) ≠ none → ∀ C n d, X.2.2.2.2.1 j = (C, n, d) → C ≠ "" → va_Z C n d (.ref (ra (1048576 + j))) A U H) ∧
  (∀ (k n : Nat) (f : Nat → Int32), P.2.2.2.2.2.2 k = some (n, f) → va_T .int (ra k) n (fun j => .int (f j)) A U H) ∧ (∀ C ∈ X.2.2.2.2.2.1, va_AO C U)
/-- what holds in a method's frame -/
def am_F (P : am_T) (X : am_X) (mi : Nat) (p : Program) (R : Room) (s : State) (m : MethodId) (args : Array Value) (meth : Method) (c : Code) : Prop :=
  p.tables.exec = Jvm.exec ∧ c.code = X.2.2.1 mi ∧ c.maxLocals = P.2.2.2.2.2.1 mi ∧ meth.sig.returnType = P.2.2.2.2.1 mi ∧ meth.locks = false ∧ (∀ w ∈ X.1, w.before args s = true) ∧ s.vm.findClass (X.2.2.2.1 mi).cls = some m.cls ∧ ((X.2.2.2.1 mi).name = "<init>" → meth.name = "<init>") ∧ X.2.2.2.2.2.2.1 mi ≤ R.frames ∧ X.2.2.2.2.2.2.2 mi ≤ R.locals
def am_Wo (D : va_G) (cl : List vw_C) (ra : Nat → Nat) (A : Nat → Prop) (s : State) (H : Heap) (locs : List Loc) (ws : va_W) (tys : List (ClassId × FieldType)) (sh : List am_C) (M : am_M) : Prop :=
  am_W cl ra ws tys sh M ∧ va_P D cl ws H ∧ va_D A ws ∧ va_K D cl tys s ∧ va_S A s.heap H locs ∧ ∀ q, s.heap.size ≤ q → A q
section AMR
variable {P : am_T} {X : am_X} {D : va_G} {cl : List vw_C} {ra : Nat → Nat} {A : Nat → Prop}
variable {p : Program} {l : Launch} {e : Env} {R : Room} {s : State} {m : MethodId} {args : Array Value} {below : List Frame} {meth : Method} {c : Code} {H : Heap} {locs : List Loc} {cells slots : Nat} {Q : State → Prop}
variable {mi pc n : Nat} {ls : Array Slot} {rest : List Value} {ws : va_W} {tys : List (ClassId × FieldType)} {sh : List am_C} {M : am_M} {i : am_I}
theorem am_w_bin {cc : ByteArray} {g : Int32 → Int32 → Option Int32} {x y z : Int32} (hx : p.tables.exec = Jvm.exec) (hb : c.code = cc) (hg : am_bin i = some g) (hz : g x y = some z) (hdg : decode cc pc = .ok (i, n)) (hn : am_len i = 0 ∨ n = am_len i)
    (kk : W p l e R s m args below meth c H locs cells slots Q (F0 m (pc + 1) ls (.int z :: rest))) : W p l e R s m args below meth c H locs cells slots Q (F0 m pc ls (.int y :: .int x :: rest)) := by
  cases i <;> simp only [am_bin, reduceCtorEq, Option.some.injEq] at hg <;> subst hg <;> simp only [am_len, Nat.one_ne_zero, false_or] at hn <;> subst hn
  all_goals first
    | (simp only [Option.some.injEq] at hz
       subst hz
       first
       | exact lv_iadd hx hb hdg kk
       | exact lv_isub hx hb hdg kk
       | exact lv_imul hx hb hdg kk
       | exact lv_iand hx hb hdg kk
       | exact lv_ior hx hb hdg kk
       | exact lv_ixor hx hb hdg kk
       | exact lv_ishl hx hb hdg kk
       | exact lv_ishr hx hb hdg kk)
    | (by_cases hy : y = 0
       · simp [hy] at hz
       · simp only [hy, if_false, Option.some.injEq] at hz
         subst hz
         first
         | exact lv_idiv hx hb hdg hy kk
         | exact lv_irem hx hb hdg hy kk)
theorem am_w_psh {cc : ByteArray} {own : String} {cst : Nat → Option Int32} {v : Value} (hx : p.tables.exec = Jvm.exec) (hb : c.code = cc) (hown : s.vm.findClass own = some m.cls) (hc : ∀ ix z, cst ix = some z → (Cond.constant own ix z).before args s = true) (hg : am_psh cst i = some v) (hdg : decode cc pc = .ok (i, n)) (hn : am_len i = 0 ∨ n = am_len i)
    (kk : W p l e R s m args below meth c H locs cells slots Q (F0 m (pc + n) ls (v :: rest))) : (∃ z, v = .int z) ∧ W p l e R s m args below meth c H locs cells slots Q (F0 m pc ls rest) := by
  cases i <;> simp only [am_psh, reduceCtorEq, Option.some.injEq] at hg
  case iconst z =>
    subst hg
    simp only [am_len, Nat.one_ne_zero, false_or] at hn
    subst hn
    exact ⟨⟨_, rfl⟩, lv_iconst hx hb hdg rfl kk⟩
  case bipush z =>
    subst hg
    simp only [am_len, false_or, reduceCtorEq] at hn
    subst hn
    exact ⟨⟨_, rfl⟩, lv_bipush hx hb hdg rfl kk⟩
  case sipush z =>
    subst hg
    simp only [am_len, false_or, reduceCtorEq] at hn
    subst hn
    exact ⟨⟨_, rfl⟩, lv_sipush hx hb hdg rfl kk⟩
  case ldc ix =>
    simp only [am_len, false_or, reduceCtorEq] at hn
    subst hn
    cases hz : cst ix with
    | none => rw [hz] at hg; cases hg
    | some z =>
      rw [hz] at hg
      cases hg
      exact ⟨⟨_, rfl⟩, lv_ldc hx hb hown (hc ix z hz) hdg kk⟩
theorem am_w_ldi {cc : ByteArray} {j : Nat} {x : Int32} (hx : p.tables.exec = Jvm.exec) (hb : c.code = cc) (hg : am_ldi i = some j) (hl : ls[j]? = some (.val (.int x))) (hdg : decode cc pc = .ok (i, n)) (hn : am_len i = 0 ∨ n = am_len i)
    (kk : W p l e R s m args below meth c H locs cells slots Q (F0 m (pc + n) ls (.int x :: rest))) : W p l e R s m args below meth c H locs cells slots Q (F0 m pc ls rest) := by
  cases i <;> simp only [am_ldi, reduceCtorEq, Option.some.injEq] at hg <;> subst hg
  case iload z =>
    simp only [am_len, false_or, reduceCtorEq] at hn
    subst hn
    exact lv_iload hx hb hdg hl kk
  case iload_n z =>
    simp only [am_len, Nat.one_ne_zero, false_or] at hn
    subst hn
    exact lv_iload_n hx hb hdg rfl hl kk
theorem am_w_lda {cc : ByteArray} {j : Nat} {x : Nat} (hx : p.tables.exec = Jvm.exec) (hb : c.code = cc) (hg : am_lda i = some j) (hl : ls[j]? = some (.val (.ref x))) (hdg : decode cc pc = .ok (i, n)) (hn : am_len i = 0 ∨ n = am_len i)
    (kk : W p l e R s m args below meth c H locs cells slots Q (F0 m (pc + n) ls (.ref x :: rest))) : W p l e R s m args below meth c H locs cells slots Q (F0 m pc ls rest) := by
  cases i <;> simp only [am_lda, reduceCtorEq, Option.some.injEq] at hg <;> subst hg
  case aload z =>
    simp only [am_len, false_or, reduceCtorEq] at hn
    subst hn
    exact lv_aload hx hb hdg hl kk
  case aload_n z =>
    simp only [am_len, Nat.one_ne_zero, false_or] at hn
    subst hn
    exact lv_aload_n hx hb hdg rfl hl kk
theorem am_w_sti {cc : ByteArray} {j nL : Nat} {x : Int32} {lv : List (Nat × Value)} (hx : p.tables.exec = Jvm.exec) (hb : c.code = cc) (hg : am_sti i = some j) (h : lv_has ls nL lv) (hj : j < nL) (hdg : decode cc pc = .ok (i, n)) (hn : am_len i = 0 ∨ n = am_len i)
    (kk : ∀ ls' : Array Slot, lv_has ls' nL ((j, Value.int x) :: lv.filter (fun q => !(q.1 == j) && !(q.1 + 1 == j && q.2.category == 2))) → W p l e R s m args below meth c H locs cells slots Q (F0 m (pc + n) ls' rest)) : W p l e R s m args below meth c H locs cells slots Q (F0 m pc ls (.int x :: rest)) := by
  cases i <;> simp only [am_sti, reduceCtorEq, Option.some.injEq] at hg <;> subst hg
  case istore z =>
    simp only [am_len, false_or, reduceCtorEq] at hn
    subst hn
    exact lv_istore hx hb hdg h hj rfl kk
  case istore_n z =>
    simp only [am_len, Nat.one_ne_zero, false_or] at hn
    subst hn
    exact lv_istore_n hx hb hdg rfl h hj rfl kk
theorem am_w_sta {cc : ByteArray} {j nL : Nat} {x : Nat} {lv : List (Nat × Value)} (hx : p.tables.exec = Jvm.exec) (hb : c.code = cc) (hg : am_sta i = some j) (h : lv_has ls nL lv) (hj : j < nL) (hdg : decode cc pc = .ok (i, n)) (hn : am_len i = 0 ∨ n = am_len i)
    (kk : ∀ ls' : Array Slot, lv_has ls' nL ((j, Value.ref x) :: lv.filter (fun q => !(q.1 == j) && !(q.1 + 1 == j && q.2.category == 2))) → W p l e R s m args below meth c H locs cells slots Q (F0 m (pc + n) ls' rest)) : W p l e R s m args below meth c H locs cells slots Q (F0 m pc ls (.ref x :: rest)) := by
  cases i <;> simp only [am_sta, reduceCtorEq, Option.some.injEq] at hg <;> subst hg
  case astore z =>
    simp only [am_len, false_or, reduceCtorEq] at hn
    subst hn
    exact lv_astore hx hb hdg h hj rfl kk
  case astore_n z =>
    simp only [am_len, Nat.one_ne_zero, false_or] at hn
    subst hn
    exact lv_astore_n hx hb hdg rfl h hj rfl kk
theorem am_w_dup {cc : ByteArray} {st st' : List Value} (hx : p.tables.exec = Jvm.exec) (hb : c.code = cc) (hg : am_dup i st = some st') (ho : ∀ v ∈ st, am_ok ws.length v) (hdg : decode cc pc = .ok (i, n)) (hn : am_len i = 0 ∨ n = am_len i)
    (kk : W p l e R s m args below meth c H locs cells slots Q (F0 m (pc + 1) ls (st'.map (am_tv ra ws)))) : (∀ v ∈ st', am_ok ws.length v) ∧ W p l e R s m args below meth c H locs cells slots Q (F0 m pc ls (st.map (am_tv ra ws))) := by
  have hc : ∀ v ∈ st, (am_tv ra ws v).category = 1 := fun v hv => by rw [am_tv_cat]; exact (ho v hv).cat
  cases i <;> simp only [am_dup, reduceCtorEq] at hg
  case dup =>
    simp only [am_len, Nat.one_ne_zero, false_or] at hn
    subst hn
    cases st with
    | nil => simp [am_dup] at hg
    | cons v r =>
      cases hg
      exact ⟨fun w hw => ho w (by simp at hw ⊢; exact hw), lv_dup hx hb hdg (hc v (by simp)) kk⟩
  case pop =>
    simp only [am_len, Nat.one_ne_zero, false_or] at hn
    subst hn
    cases st with
    | nil => simp [am_dup] at hg
    | cons v r =>
      cases hg
      exact ⟨fun w hw => ho w (by simp; exact Or.inr hw), lv_pop hx hb hdg (hc v (by simp)) kk⟩
  case dup_x1 =>
    simp only [am_len, Nat.one_ne_zero, false_or] at hn
    subst hn
    match st, hg with
    | v :: w :: r, hg =>
      cases hg
      exact ⟨fun u hu => ho u (by simp at hu ⊢; rcases hu with h | h | h | h <;> simp [h]), lv_dup_x1 hx hb hdg (hc v (by simp)) (hc w (by simp)) kk⟩
  case dup_x2 =>
    simp only [am_len, Nat.one_ne_zero, false_or] at hn
    subst hn
    match st, hg with
    | v :: w :: x :: r, hg =>
      cases hg
      exact ⟨fun u hu => ho u (by simp at hu ⊢; rcases hu with h | h | h | h | h <;> simp [h]), lv_dup_x2 hx hb hdg (hc v (by simp)) (hc w (by simp)) (hc x (by simp)) kk⟩
  case dup2 =>
    simp only [am_len, Nat.one_ne_zero, false_or] at hn
    subst hn
    match st, hg with
    | v :: w :: r, hg =>
      cases hg
      exact ⟨fun u hu => ho u (by simp at hu ⊢; rcases hu with h | h | h | h | h <;> simp [h]), lv_dup2_11 hx hb hdg (hc v (by simp)) (hc w (by simp)) kk⟩
theorem am_tg_eq {off : Int} {t : Nat} (h : am_tg pc off = some t) : (pc : Int) + off = (t : Int) := by
  unfold am_tg at h
  split at h
  next t' h' => cases h; exact h'
  next => cases h
theorem am_w_if1 {cc : ByteArray} {cn : Jvm.ClassFile.Cond} {off : Int} {t : Nat} {x : Int32} (hx : p.tables.exec = Jvm.exec) (hb : c.code = cc) (ht : am_tg pc off = some t) (hdg : decode cc pc = .ok (.ifCond cn off, 3))
    (kk : am_br cn x 0 (W p l e R s m args below meth c H locs cells slots Q (F0 m t ls rest)) (W p l e R s m args below meth c H locs cells slots Q (F0 m (pc + 3) ls rest))) : W p l e R s m args below meth c H locs cells slots Q (F0 m pc ls (.int x :: rest)) := by
  have ht := am_tg_eq ht
  cases cn <;> simp only [am_br] at kk
  · exact lv_if_eq hx hb hdg ht (fun h => by rwa [if_pos h] at kk) (fun h => by rwa [if_neg h] at kk)
  · exact lv_if_ne hx hb hdg ht (fun h => by rwa [if_neg h] at kk) (fun h => by rwa [if_pos h] at kk)
  · exact lv_if_lt hx hb hdg ht (fun h => by rwa [if_pos h] at kk) (fun h => by rwa [if_neg h] at kk)
  · exact lv_if_ge hx hb hdg ht (fun h => by rwa [if_pos h] at kk) (fun h => by rwa [if_neg h] at kk)
  · exact lv_if_gt hx hb hdg ht (fun h => by rwa [if_pos h] at kk) (fun h => by rwa [if_neg h] at kk)
  · exact lv_if_le hx hb hdg ht (fun h => by rwa [if_pos h] at kk) (fun h => by rwa [if_neg h] at kk)
theorem am_w_if2 {cc : ByteArray} {cn : Jvm.ClassFile.Cond} {off : Int} {t : Nat} {x y : Int32} (hx : p.tables.exec = Jvm.exec) (hb : c.code = cc) (ht : am_tg pc off = some t) (hdg : decode cc pc = .ok (.if_icmp cn off, 3))
    (kk : am_br cn x y (W p l e R s m args below meth c H locs cells slots Q (F0 m t ls rest)) (W p l e R s m args below meth c H locs cells slots Q (F0 m (pc + 3) ls rest))) : W p l e R s m args below meth c H locs cells slots Q (F0 m pc ls (.int y :: .int x :: rest)) := by
  have ht := am_tg_eq ht
  cases cn <;> simp only [am_br] at kk
  · exact lv_icmp_eq hx hb hdg ht (fun h => by rwa [if_pos h] at kk) (fun h => by rwa [if_neg h] at kk)
  · exact lv_icmp_ne hx hb hdg ht (fun h => by rwa [if_neg h] at kk) (fun h => by rwa [if_pos h] at kk)
  · exact lv_icmp_lt hx hb hdg ht (fun h => by rwa [if_pos h] at kk) (fun h => by rwa [if_neg h] at kk)
  · exact lv_icmp_ge hx hb hdg ht (fun h => by rwa [if_pos h] at kk) (fun h => by rwa [if_neg h] at kk)
  · exact lv_icmp_gt hx hb hdg ht (fun h => by rwa [if_pos h] at kk) (fun h => by rwa [if_neg h] at kk)
  · exact lv_icmp_le hx hb hdg ht (fun h => by rwa [if_pos h] at kk) (fun h => by rwa [if_neg h] at kk)
theorem am_w_sw {cc : ByteArray} {t : Nat} {x : Int32} (hx : p.tables.exec = Jvm.exec) (hb : c.code = cc) (ht : am_sw pc x i = some t) (hdg : decode cc pc = .ok (i, n))
    (kk : W p l e R s m args below meth c H locs cells slots Q (F0 m t ls rest)) : W p l e R s m args below meth c H locs cells slots Q (F0 m pc ls (.int x :: rest)) := by
  cases i <;> simp only [am_sw, reduceCtorEq] at ht
  case tableswitch dflt lo hi offs =>
    by_cases h : x.toInt < lo ∨ hi < x.toInt
    · rw [if_pos h] at ht
      exact lv_tableOut hx hb hdg h (am_tg_eq ht) kk
    · rw [if_neg h] at ht
      cases ho : offs[(x.toInt - lo).toNat]? with
      | none => rw [ho] at ht; cases ht
      | some o =>
        rw [ho] at ht
        exact lv_tableIn hx hb hdg (fun z => h (Or.inl z)) (fun z => h (Or.inr z)) ho (am_tg_eq ht) kk
  case lookupswitch dflt ps =>
    by_cases h : (ps.toList.zip (ps.toList.drop 1)).all (fun (a, next) => a.1 < next.1) = true
    · rw [if_pos h] at ht
      exact lv_lookup hx hb hdg h rfl (am_tg_eq ht) kk
    · rw [if_neg h] at ht
      cases ht
end AMR
