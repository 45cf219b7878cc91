/-! The tables keep to the words of the claim: checks by the kernel -/
def tb_w (i : Nat) (w : Cond) : Bool := decide (lw_tbl[i]? = some w) && goodWord w
theorem tb_w_in {i : Nat} {w : Cond} (h : tb_w i w = true) : w ∈ tb_W := by
  simp only [tb_w, Bool.and_eq_true, decide_eq_true_eq] at h
  exact List.mem_filter.mpr ⟨List.mem_of_getElem? h.1, h.2⟩
def tb_inst : List Nat := [64, 801, 106, 234, 86, 171, 247, 193, 78, 113, 215]
def tb_init : List Nat := [48, 60, 52, 58, 51, 54, 59, 56, 50, 53, 57]
def tb_okl (q : tb_T) (e : tb_K) : Bool := match e.2.1 with
  | 0 => (match tb_cl[e.2.2.1]? with
    | some (_, T, N) => decide (e.2.2.2.1 < N) && tb_w e.2.2.2.2.2.2 (.fieldLink q.1.cls e.1 (T e.2.2.2.1).1 (T e.2.2.2.1).2.1 (T e.2.2.2.1).2.2.1) && (!(Nat.beq e.2.2.2.2.2.1 0) || !(T e.2.2.2.1).2.2.2 || (decide (q.1.name = "<init>") && decide ((T e.2.2.2.1).1 = q.1.cls)))
    | none => false)
  | 1 => decide (e.2.2.1 < 6) && (match am_nth tb_S e.2.2.1 with
    | some r => tb_w e.2.2.2.2.2.2 (.fieldLink q.1.cls e.1 r.1 r.2.1 r.2.2) && decide (r.1 ≠ "")
    | none => false)
  | 2 => (match tb_m e.2.2.1 with
    | some z => !(Nat.beq z.2.2.2.2.2.2.2.2.2.1 0) && Nat.ble (z.2.2.2.2.1 + 1) q.2.2.2.2.1 && Nat.ble (8 + (z.2.2.1 + 11) + z.2.2.2.2.2.1) q.2.2.2.2.2.1 && decide ((parseMethodDescriptor z.1.desc).map (fun d => d.parameters.length) = some e.2.2.2.1) &&
      (bif Nat.ble 3 e.2.2.2.2.1 then decide (Cond.methodLinkNest q.1.cls e.1 z.1 "CountedActors" ∈ tb_N) else tb_w e.2.2.2.2.2.2 (.methodLink q.1.cls e.1 z.1)) && Nat.beq (e.2.2.2.2.1 % 3) z.2.2.2.2.2.2.2.2.2.2.2.2.2 &&
      (!(Nat.beq (e.2.2.2.2.1 % 3) 0) || (!(Nat.beq z.2.2.2.2.2.2.2.2.2.2.2.1 0) && (match tb_cl[e.2.2.2.2.2.1]? with | some r => decide (r.1 = z.1.cls) | none => false)))
    | none => false)
  | 3 => tb_w e.2.2.2.2.2.2 (.methodLink q.1.cls e.1 Lib.objectInit) && tb_w 69 (.instanceMethod Lib.objectInit) && tb_w 70 (.code Lib.objectInit ⟨#[0xb1]⟩ 1 none) && decide (1 ≤ q.2.2.2.2.1) && decide (20 ≤ q.2.2.2.2.2.1)
  | 4 => tb_w e.2.2.2.2.2.2 (.methodLink q.1.cls e.1 arraycopyName) && tb_w 550 (.native arraycopyName) && tb_w 549 (.static arraycopyName) && tb_w 62 (.initialized "java/lang/System") && decide (1 ≤ q.2.2.2.2.1) && decide (8 + (nativeFrameWords "java/lang/System" "arraycopy" 5 + 11) ≤ q.2.2.2.2.2.1)
  | 7 => tb_w e.2.2.2.2.2.2 (.methodLink q.1.cls e.1 Lib.Math.max.name) && tb_w 75 (.static Lib.Math.max.name) && tb_w 76 (.code Lib.Math.max.name Lib.Math.max.code 2 (some .int)) && tb_w 49 (.initialized "java/lang/Math") && decide (1 ≤ q.2.2.2.2.1) && decide (22 ≤ q.2.2.2.2.2.1)
  | 8 => tb_w e.2.2.2.2.2.2 (.methodLink q.1.cls e.1 Lib.Math.min.name) && tb_w 72 (.static Lib.Math.min.name) && tb_w 73 (.code Lib.Math.min.name Lib.Math.min.code 2 (some .int)) && tb_w 49 (.initialized "java/lang/Math") && decide (1 ≤ q.2.2.2.2.1) && decide (22 ≤ q.2.2.2.2.2.1)
  | 9 => tb_w e.2.2.2.2.2.2 (.methodLink q.1.cls e.1 fm_y) && tb_w 658 (.static fm_y) && tb_w 659 (.code fm_y prog_14_method_50_code 3 (some .int)) && tb_w 49 (.initialized "java/lang/Math") && decide (1 ≤ q.2.2.2.2.1) && decide (22 ≤ q.2.2.2.2.2.1)
  | 5 => (match tb_cl[e.2.2.1]?, am_nth tb_inst e.2.2.1, am_nth tb_init e.2.2.1 with
    | some r, some a, some b => tb_w e.2.2.2.2.2.2 (.classLink q.1.cls e.1 r.1) && tb_w a (.instantiable r.1 r.2.2) && tb_w b (.initialized r.1)
    | _, _, _ => false)
  | 6 => (match tb_cl[e.2.2.1]? with
    | some r => Nat.ble 100000 e.1 && tb_w e.2.2.2.2.2.2 (.classLink q.1.cls (e.1 - 100000) r.1) && decide (r.1 ∈ tb_AO)
    | none => false)
  | _ => false
def tb_okc (q : tb_T) (e : Nat × am_I × Nat) : Bool := decide (decode q.2.1 e.1 = .ok (e.2.1, e.2.2)) && (Nat.beq (am_len e.2.1) 0 || Nat.beq e.2.2 (am_len e.2.1))
def tb_okk (q : tb_T) (e : Nat × Int32 × Nat) : Bool := tb_w e.2.2 (.constant q.1.cls e.1 e.2.1)
/-- the words of a method that is called -/
def tb_okw (z : tb_T) : Bool := tb_w z.2.2.2.2.2.2.2.2.2.1 (.code z.1 z.2.1 z.2.2.1 z.2.2.2.1) && plainName z.1.cls && tb_w z.2.2.2.2.2.2.2.2.2.2.2.2.1 (.initialized z.1.cls) && decide (z.1.cls ≠ "java/lang/invoke/MethodHandle" ∧ z.1.cls ≠ "java/lang/invoke/VarHandle") &&
  (bif Nat.beq z.2.2.2.2.2.2.2.2.2.2.2.2.2 1 then tb_w z.2.2.2.2.2.2.2.2.2.2.1 (.static z.1) else tb_w z.2.2.2.2.2.2.2.2.2.2.1 (.instanceMethod z.1)) &&
  (Nat.beq z.2.2.2.2.2.2.2.2.2.2.2.1 0 || tb_w (z.2.2.2.2.2.2.2.2.2.2.2.1 - 1) (.selects z.1.cls z.1 z.1)) &&
  (!(Nat.beq z.2.2.2.2.2.2.2.2.2.2.2.2.2 2) || (decide (z.1.name = "<init>") && decide (z.2.2.2.1 = none)))
def tb_okm (q : tb_T) : Prop := (q.2.2.2.2.2.2.2.2.2.1 = 0 ∨ tb_okw q = true) ∧ q.2.2.2.2.2.2.1.all (tb_okc q) = true ∧ q.2.2.2.2.2.2.2.1.all (tb_okl q) = true ∧ q.2.2.2.2.2.2.2.2.1.all (tb_okk q) = true
theorem tb_cut {α : Type} {f : α → Bool} {l : List α} (k : Nat) (h : (l.take k).all f = true) (h' : (l.drop k).all f = true) : l.all f = true := by
  rw [← List.take_append_drop k l, List.all_append, h, h']
  rfl
