/-! THE CLAIM OUT OF ONE WALK OF THE LAW'S BODY. Your part is whole_start (and what it stands on); all else here is the same for every law, but numbers. -/
def R_law : String := "CountedActorsLaw"
def lw_P (b : Addr) (xs : List Int32) (args : Array Value) (s : State) : Prop := args = #[.ref b] ∧ s.IntsAt b xs ∧ xs.length ≤ 3073 ∧ (Jvm.Cond.and given_1 narrow_1).before args s = true
def lw_Q (_ : Array Value) (s : State) (o : Outcome) (t : State) : Prop := o = .returned (some (.int 1)) ∧ Framed s o t [] 600000 7302250
def lw_Z (below : List Frame) (a : Array Value) (s : State) : State → Prop := fun t => ∃ o, t.status = .running ∧ Ended t below o ∧ lw_Q a s o t
/-- the law's own end, with 1 on the stack, nothing written that was there before, its room as the claim has it -/
theorem lw_ret {p : Program} {l : Launch} {e : Env} {s : State} {m : MethodId} {below : List Frame} {meth : Method} {c : Code} {b : Nat} (hx : p.tables.exec = Jvm.exec) (hb : c.code = code) (hr : meth.sig.returnType = ret) (hlocks : meth.locks = false) {pc : Nat} {H : Heap} {ls : Array Slot} (hdg : decode code pc = .ok (.ireturn, 1)) : W p l e room_1 s m #[Value.ref b] below meth c H [] 600000 7302250 (lw_Z below #[Value.ref b] s) (F0 m pc ls [.int 1]) := by
  intro T hT X
  obtain ⟨fs, hret, hrun, hended, hW, hframe⟩ := X.leave (v := some (.int 1)) (hlocks := hlocks) (fun h => by rw [hr] at h; cases h)
  have hmeth' : T.vm.method? m = some meth := X.method'
  refine ⟨T.setFrames fs, ?_, .returned (some (.int 1)), hrun, hended, rfl, ⟨_, rfl⟩, hW, hframe⟩
  jvm_step X.here [X.here.top, hx, hb, hdg, hmeth', hr, ret, narrow_b1]
  (try refine ⟨rfl, ?_⟩); (try refine ⟨rfl, ?_⟩)
  first | (intro acts; rw [hret _ acts rfl rfl rfl]) | rw [hret _ _ rfl rfl rfl]
  exact Steps.refl _
/-- what holds at the law's entry: the machine, the code, the tables' words (any of lw_tbl by 'hts w (by decide +kernel)'), the script of L ints xs at the cell b, what the Statement gives of the start (any of its parts by flat_of_before) -/
def lw_At (p : Program) (s : State) (m : MethodId) (meth : Method) (c : Code) (b L : Nat) (xs : Nat → Int32) : Prop :=
  p.tables.exec = Jvm.exec ∧ c.code = code ∧ meth.sig.returnType = ret ∧ c.maxLocals = 4 ∧ s.vm.findClass R_law = some m.cls ∧ (∀ w ∈ lw_tbl, w.before #[Value.ref b] s = true) ∧ va_X b L xs s s.heap ∧ b < s.heap.size ∧ meth.locks = false ∧ (Jvm.Cond.and given_1 narrow_1).before #[Value.ref b] s = true
/-- THE WHOLE CLAIM OUT OF THE SMALL MACHINE: if it answers 1 on the law, with this script, within the room, so does the real one -/
theorem wh_go {p : Program} {e : Env} {s : State} {m : MethodId} {below : List Frame} {meth : Method} {c : Code} (l : Launch) {b L : Nat} {xs : Nat → Int32} (C0 : lw_At p s m meth c b L xs) {sh' : List am_C} {M' : am_M} (hev : am_ev (tb_P L xs) 0 0 [some (.ref 1048582), none, none, none] [] [] (fun _ _ => 0) (some (.int 1), sh', M')) (hc : sh'.length ≤ 600000) (hs : am_sz sh' ≤ 7302250) :
    W p l e room_1 s m #[Value.ref b] below meth c s.heap [] 0 0 (lw_Z below #[Value.ref b] s) (entryFrame m ([Value.ref b] : List Value).toArray 4) := by
  obtain ⟨hx, hb, hr, hml, hown, hts, hX, hbl, hlocks, hgv⟩ := C0
  have hn : narrow_1.before #[Value.ref b] s = true := by
    rw [Cond.before_and, Bool.and_eq_true] at hgv
    exact hgv.2
  obtain ⟨ra, hE, hra⟩ := st_E hts hn hX
  have hk := st_known hts
  have hK : va_K (fun c => Classical.choose (hk c), fun c => Classical.choose (Classical.choose_spec (hk c))) tb_cl [] s := ⟨fun c q hq => Classical.choose_spec (Classical.choose_spec (hk c)) q hq, fun k q h => by simp at h⟩
  generalize (fun c => Classical.choose (hk c), fun c => Classical.choose (Classical.choose_spec (hk c))) = D at hK
  have hG := am_sound (D := D) (ra := ra) (A := fun q => s.heap.size ≤ q) (l := l) (tb_good L xs) hev
  have hF : am_F (tb_P L xs) tb_X 0 p room_1 s m #[Value.ref b] meth c := ⟨hx, hb, hml, hr, hlocks, fun w hw => hts w (List.mem_filter.mp hw).1, hown, fun h => absurd h (by decide), by decide, by decide⟩
  have hl := lv_entry ([.ref b]) (n := 4) (Nat.le_of_ble_eq_true rfl)
  rw [lg_entry_eq]
  generalize (lg_sl ([.ref b]) ++ List.replicate (4 - (lg_sl ([.ref b])).length) Slot.unset).toArray = ls at hl ⊢
  have had : am_ad ra [] 1048582 = b := by
    rw [am_ad_big (Nat.zero_le _)]
    exact hra
  have hL : am_L ra [] 4 [some (.ref 1048582), none, none, none] ls := am_L.entry (n := 4) (as := [.ref 1048582]) (by decide) (fun v hv => by
    rw [List.mem_singleton.mp hv]
    exact Or.inr (by decide)) (by
    show lv_has ls 4 (lv_args 0 [.ref (am_ad ra [] 1048582)])
    rw [had]
    exact hl)
  have hO : am_Wo D tb_cl ra (fun q => s.heap.size ≤ q) s s.heap [] [] [] [] (fun _ _ => 0) := ⟨⟨rfl, Nat.zero_le _, fun k c h => by simp at h⟩, fun k q h => by simp at h, ⟨fun i j p q h => by simp at h, fun k q h => by simp at h⟩, hK, va_S.rf, fun q h => h⟩
  refine hG.2 p e room_1 s m #[Value.ref b] below meth c s.heap [] 0 0 (lw_Z below #[Value.ref b] s) ls [] [] hF hE hO hL (fun v hv => by cases hv) (by rw [Nat.zero_add]; exact Nat.le_trans (Nat.sub_le _ _) hc) (by rw [Nat.zero_add]; exact Nat.le_trans (Nat.sub_le _ _) hs) (fun ws' tys' H' locs' pc' ls' hO' hx' hok hrt => ?_)
  rcases hrt with ⟨h1, -⟩ | ⟨x, ty, h1, h2, h3, h4⟩ | ⟨a, nm, h1, -⟩
  · cases h1
  · cases h1
    refine va_forget (fun q hq => hO'.2.2.2.2.1.2.2 q hq) ?_
    refine W.widen (k := 600000) (n := 7302250) (by rw [Nat.zero_add]; exact Nat.le_trans (Nat.sub_le _ _) hc) (by rw [Nat.zero_add]; exact Nat.le_trans (Nat.sub_le _ _) hs) ?_
    exact lw_ret hx hb hr hlocks h4
  · cases h1
