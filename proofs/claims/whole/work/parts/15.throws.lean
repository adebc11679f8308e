/-! throwing and catching -/
section EvThrow
/-- the first row of a handler table that takes an object of the class 'thrown' at pc is the one that goes on at n -/
def ev_first (pl : Platform) (s0 : State) (dc : ClassId) (pc : Nat) (thrown : ClassId) : List ExceptionTableEntry → Nat → Prop
  | [], _ => False
  | x :: t, n => (covers x pc = false ∧ ev_first pl s0 dc pc thrown t n) ∨
      (covers x pc = true ∧ x.catchType ≠ 0 ∧ ∃ c, s0.vm.ClassLinks pl dc x.catchType c ∧ ((s0.vm.assignable thrown c = true ∧ x.handlerPc = n) ∨ (s0.vm.assignable thrown c = false ∧ ev_first pl s0 dc pc thrown t n)))
theorem ev_find {e : Env} {s0 : State} {f : JFrame} {q : Addr} {cell : Cell} (hobj : ∀ k, cell.vm ≠ .statics k) (hk0 : ∃ k, s0.vm.classes[cell.cls]? = some k) {n : Nat} :
    ∀ (es : List ExceptionTableEntry) (S : State), s0.WarmedH S.vm → S.heap[q]? = some cell → ev_first e.platform s0 f.method.cls f.pc cell.cls es n →
      ∃ vm', s0.WarmedH vm' ∧ ∀ (Q : Handler → Pre) (E : CtlPost) (dd : Bool) (acts : List Action), wp (findHandler.go f q es) Q E e dd acts S ↔ Q (.found n) dd acts (S.setVm vm') := by
  obtain ⟨k0, hk0⟩ := hk0
  intro es
  induction es with
  | nil => intro S _ _ hf; exact hf.elim
  | cons x t ih =>
    intro S hW hcell hf
    rcases hf with ⟨hx, hf⟩ | ⟨hx, h0, c, hl, hc⟩
    · obtain ⟨vm', hW', hq⟩ := ih S hW hcell hf
      exact ⟨vm', hW', fun Q E dd acts => (W.findHandler_go_skip hx).trans (hq Q E dd acts)⟩
    · have hlS := hW.classLinks hl
      obtain ⟨dk, _, _, kt, hdk, _, _, _, _, hkt, _, hopen⟩ := hl.here
      have hWn : s0.WarmedH (S.vm.noted f.method.cls x.catchType (.cls c)) := hW.noted hdk hopen (State.rightAt_cls hl)
      have hal : S.vm.Alike (S.vm.noted f.method.cls x.catchType (.cls c)) := (Vm.Alike.refl S.vm).noted _ _ _
      obtain ⟨ha, ht⟩ := (resolveClass_links e.toSetting hlS).op (op := VmOp.resolveClass f.method.cls x.catchType) rfl
      obtain ⟨k1, hk1, -⟩ := hWn.alike.2.2 _ _ hk0
      obtain ⟨k2, hk2, -⟩ := hWn.alike.2.2 _ _ hkt
      have hx' := hx
      simp only [covers] at hx'
      rcases hc with ⟨has, rfl⟩ | ⟨has, hf⟩
      · have has' : (S.vm.noted f.method.cls x.catchType (.cls c)).assignable cell.cls c = true := by rw [hWn.alike.assignable]; exact has
        refine ⟨_, hWn, fun Q E dd acts => ?_⟩
        simp [findHandler.go, hx', h0, ha, ht, hcell, hobj, hk1, hk2, has', VmOp.dirties, VmOp.acts]
      · have has' : (S.vm.noted f.method.cls x.catchType (.cls c)).assignable cell.cls c = false := by rw [hWn.alike.assignable]; exact has
        obtain ⟨vm', hW', hq⟩ := ih (S.setVm (S.vm.noted f.method.cls x.catchType (.cls c))) hWn hcell hf
        refine ⟨vm', hW', fun Q E dd acts => ?_⟩
        have h1 : wp (findHandler.go f q (x :: t)) Q E e dd acts S ↔ wp (findHandler.go f q t) Q E e dd acts (S.setVm (S.vm.noted f.method.cls x.catchType (.cls c))) := by
          simp [findHandler.go, hx', h0, ha, ht, hcell, hobj, hk1, hk2, has', VmOp.dirties, VmOp.acts]
        exact h1.trans (hq Q E dd acts)
variable {w : ev_W} {M : ev_M} {d : Nat × Nat} {h0 : ev_H} {Q : ev_R → ev_H → Prop} {pc : Nat} {L : List (Option Value)} {st : List Value} {h : ev_H} {a b : Nat}
/-- does the first row that takes an exception of the class named E at pc go on at n? the rows ahead that cover pc name classes to which E can't be cast -/
def ev_fst (own E : String) (pc n : Nat) : List (Nat × Nat × Nat × Nat) → Bool
  | [] => false
  | q :: t => if (decide (q.1 ≤ pc) && decide (pc < q.2.1)) = true then
      decide (q.2.2.2 ≠ 0) && ev_has (.classLink own q.2.2.2 (ev_cn q.2.2.2)) &&
        (if ev_cn q.2.2.2 = E then ev_has (.castable E E) && decide (q.2.2.1 = n) else decide (Cond.not (.castable E (ev_cn q.2.2.2)) ∈ ev_nots) && ev_fst own E pc n t)
    else ev_fst own E pc n t
theorem ev_fst_of (ok : ev_ok w) (hnots : ∀ x ∈ ev_nots, x.before w.2.2.1 w.2.1 = true) {pl : Platform} (hpl : pl.magicAccessors = ({} : Platform).magicAccessors) {s : State} (hW : w.2.1.WarmedH s.vm) {own E : String} {dc cE : ClassId} (hown : s.vm.findClass own = some dc) (hE : s.vm.findClass E = some cE) {n : Nat} :
    ∀ es : List ExceptionTableEntry, ev_fst own E pc n (es.map (fun h => (h.startPc, h.endPc, h.handlerPc, h.catchType))) = true → ev_first pl s dc pc cE es n := by
  intro es
  induction es with
  | nil => intro hf; cases hf
  | cons x t ih =>
    intro hf
    simp only [List.map_cons, ev_fst] at hf
    by_cases hc : covers x pc = true
    · have hc' : (decide (x.startPc ≤ pc) && decide (pc < x.endPc)) = true := hc
      rw [if_pos hc'] at hf
      simp only [Bool.and_eq_true, decide_eq_true_eq] at hf
      obtain ⟨⟨h0, hl⟩, hr⟩ := hf
      obtain ⟨c', hc1, hcl⟩ := Cond.classLink_spec hown (ev_word ok hW hl #[]) pl hpl
      refine Or.inr ⟨hc, h0, c', hcl, ?_⟩
      by_cases hn : ev_cn x.catchType = E
      · rw [if_pos hn] at hr
        simp only [Bool.and_eq_true, decide_eq_true_eq] at hr
        obtain ⟨c3, c4, hc3, hc4, hasg⟩ := Cond.castable_spec (ev_word ok hW hr.1 #[])
        rw [hn] at hc1
        cases Option.some.inj (hc3.symm.trans hE)
        cases Option.some.inj (hc4.symm.trans hc1)
        exact Or.inl ⟨hasg, hr.2⟩
      · rw [if_neg hn] at hr
        simp only [Bool.and_eq_true, decide_eq_true_eq] at hr
        obtain ⟨c3, c4, hc3, hc4, hasg⟩ := (va_Nc.of (hnots _ hr.1)).moved hW.alike
        cases Option.some.inj (hc3.symm.trans hE)
        cases Option.some.inj (hc4.symm.trans hc1)
        exact Or.inr ⟨hasg, ih hr.2⟩
    · have hc' : covers x pc = false := by simpa using hc
      rw [if_neg hc] at hf
      exact Or.inl ⟨hc', ih hf⟩
theorem ev_caught {tb : Tables} {e : Env} {s target : State} {g : JFrame} {c : Code} {below : List Frame} {q : Addr} {n : Nat} {vm' : Vm} (hAt : At s g.method c below)
    (hf : ∀ (Q : Handler → Pre) (E : CtlPost) (dd : Bool) (acts : List Action), wp (findHandler g q) Q E e dd acts ((s.setTop g).pushFrame (.throwing q)) ↔ Q (.found n) dd acts (((s.setTop g).pushFrame (.throwing q)).setVm vm'))
    (hrest : Steps tb e below ((s.setVm vm').setTop { g with pc := n, stack := [.ref q] }) target) : Steps tb e below ((s.setTop g).pushFrame (.throwing q)) target := by
  obtain ⟨hgo, hw⟩ := hAt.throwing q
  refine Steps.head hgo hw ?_
  have hstep : (stepThrowing e ((s.setTop g).pushFrame (.throwing q)) q (.java g :: s.frames.tail)).Is ((((s.setTop g).pushFrame (.throwing q)).setVm vm').setFrames (.java { g with pc := n, stack := [.ref q] } :: s.frames.tail)) [] := by
    simp only [stepThrowing, searchFrame, vmDo]
    generalize hr : Sem.go _ e false [] _ = res
    obtain ⟨as, rfl, ha⟩ := Sem.eq_ok_of hr (a := Handler.found n) (s' := ((s.setTop g).pushFrame (.throwing q)).setVm vm') (acts' := []) (by simp [hf _ _ _ _])
    exact ⟨rfl, ha⟩
  rw [stepThread_throwing (frames_entered hAt.top _), hstep.1]
  obtain ⟨g0, hg⟩ := Option.isSome_iff_exists.mp hAt.top
  obtain ⟨r, hr⟩ := State.topJava?_eq_some.mp hg
  have hr' : (s.setVm vm').frames = .java g0 :: r := hr
  rw [State.setTop_of_frames _ hr'] at hrest
  rw [State.pushFrame, State.setTop_of_frames _ hr, State.setFrames_setFrames, hr]
  show Steps tb e below (((s.setVm vm').setFrames _).setFrames _) target
  rw [State.setFrames_setFrames]
  exact hrest
theorem ev_catch (ok : ev_ok w) (hnots : ∀ x ∈ ev_nots, x.before w.2.2.1 w.2.1 = true) {k ce n : Nat} {q : vw_C} (hce : h[k]? = some (.inr (ce, []))) (hq : ev_cl[ce]? = some q) (hf : ev_fst M.1.cls q.1 pc n M.2.2.2.2.1 = true) (kk : ev_G w M d h0 Q n L [.ref k] h) : ev_X w M d h0 Q pc L st h k := by
  intro p e R s m args below meth c H locs ls C T hT X
  have hW := C.1.warm
  have hpl : e.platform.magicAccessors = ({} : Platform).magicAccessors := by rw [X.admits.platform]
  obtain ⟨r0, hr0, cell, hcl1, hcl2, hcl3, -⟩ := C.2.2.2.1 k _ (ev_ws_get hce)
  cases hq.symm.trans hr0
  have hK := va_K.moved hW.alike ok.2.1
  have hfc : s.vm.findClass q.1 = some cell.cls := by rw [hcl2]; exact (hK.1 ce q hq).2.1
  have hcT : T.heap[ev_base w + k]? = some cell := by rw [hT]; exact hcl1
  have h1 : ev_fst M.1.cls q.1 pc n (c.exceptionTable.toList.map (fun h => (h.startPc, h.endPc, h.handlerPc, h.catchType))) = true := by rw [C.1.2.2.2.2.2.2.2.1]; exact hf
  have h2 := ev_fst_of ok hnots hpl hW C.1.own hfc c.exceptionTable.toList h1
  obtain ⟨vm', hW', hgo⟩ := ev_find (e := e) (s0 := s) (f := F0 m pc ls (st.map (ev_v w))) (q := ev_base w + k) (cell := cell) (fun z hz => by rw [hcl3] at hz; cases hz) (Vm.classAt_of_findClass hfc) c.exceptionTable.toList
    ((T.setTop (F0 m pc ls (st.map (ev_v w)))).pushFrame (.throwing (ev_base w + k))) X.warmed hcT h2
  have hm' : ((T.setTop (F0 m pc ls (st.map (ev_v w)))).pushFrame (.throwing (ev_base w + k))).vm.method? (F0 m pc ls (st.map (ev_v w))).method = some meth := X.method'
  obtain ⟨t, st1, hq1⟩ := kk p e R s m args below meth c H locs ls C (T.setVm vm') hT (X.noted hW')
  have hAt : At T (F0 m pc ls (st.map (ev_v w))).method c below := X.here
  exact ⟨t, ev_caught hAt (fun Q E dd acts => (W.findHandler_eq hm' X.code).trans (hgo Q E dd acts)) st1, hq1⟩
/-! a throw of one's own -/
theorem ev_stat {C n dsc : String} {a1 a2 : Array Value} {s U : State} (hal : s.vm.Alike U.vm) (hold : ∀ q : Nat, q < s.heap.size → U.heap[q]? = s.heap[q]?) (hl : (Cond.laysStatic C n dsc).before a1 s = true) : (Cond.laysStatic C n dsc).before a2 U = true := by
  obtain ⟨c, k, i, f, x, cell, q1, q2, q3, q4, q5, q6, q7, q8, q9⟩ := Cond.laysStatic_spec hl
  obtain ⟨k', hi', he⟩ := State.fieldFound?_setVm hal q2
  have hx : x < s.heap.size := (Array.getElem?_eq_some_iff.mp q5).1
  show (Cond.laysStatic C n dsc).holds a2 U none U [] = true
  exact Cond.laysStatic_of (by rw [hal.findClass]; exact q1) (by simpa only [State.fieldFound?, State.vm_setVm] using hi') q3 (by rw [he]; exact q4) (by rw [hold x hx]; exact q5) q6 q7 q8 (by rw [he]; exact q9)
theorem ev_statR {C n dsc : String} {a1 a2 : Array Value} {s U : State} (hal : s.vm.Alike U.vm) (hold : ∀ q : Nat, q < s.heap.size → U.heap[q]? = s.heap[q]?) (hl : (Cond.laysStatic C n dsc).before a1 s = true) (hr : (Cond.isRef (.static C n dsc)).before a1 s = true) : (Cond.isRef (.static C n dsc)).before a2 U = true := by
  obtain ⟨c, k, i, f, x, cell, q1, q2, q3, q4, q5, q6, q7, q8, q9⟩ := Cond.laysStatic_spec hl
  obtain ⟨k', hi', he⟩ := State.fieldFound?_setVm hal q2
  have hx : x < s.heap.size := (Array.getElem?_eq_some_iff.mp q5).1
  have hfU : U.fieldFound? C n dsc = some (c, k', i, f) := by simpa only [State.fieldFound?, State.vm_setVm] using hi'
  have hsU : k'.statics = some x := by rw [he]; exact q4
  have hcU : U.heap[x]? = some cell := by rw [hold x hx]; exact q5
  have e1 : (Term.static C n dsc).eval a1 s none [] s = cell.slots[f.slot]? := by
    simp [Term.eval, State.fieldNamed?, q2, q3, q4, q5, q6]
  have e2 : (Term.static C n dsc).eval a2 U none [] U = cell.slots[f.slot]? := by
    simp [Term.eval, State.fieldNamed?, hfU, q3, hsU, hcU, q6]
  simp only [Cond.before, Cond.holds, Cond.value, e1] at hr
  simp only [Cond.before, Cond.holds, Cond.value, e2]
  exact hr
/-- the frame as if the method had been called just now -/
theorem ev_anew {p : Program} {l : Launch} {e : Env} {R R' : Room} {s : State} {m : MethodId} {args : Array Value} {below : List Frame} {meth : Method} {c : Code} {T : State} {locs : List Loc} {cells slots : Nat} (X : Stand p l e R s m args below meth c T locs cells slots)
    (hf : R'.frames ≤ R.frames) (hl : R'.locals ≤ R.locals) (hc : cells + R'.cells ≤ R.cells) (hs : slots + R'.slots ≤ R.slots) : Stand p l e R' ((T.setVm s.vm).setFrames (.invoking m args :: below)) m args below meth c T [] 0 0 := by
  obtain ⟨g0, hg0⟩ := X.frames_eq
  have hg1 : (T.setVm s.vm).frames = .java g0 :: below := hg0
  have hF : ((T.setVm s.vm).setFrames (.invoking m args :: below)).frames = .invoking m args :: below := State.frames_setFrames _ (State.cur_lt_of_frames hg1)
  have e1 : e.platform.stackLimits (T.setVm s.vm).me = e.platform.stackLimits s.me := X.limits
  have e2 : (T.setVm s.vm).me.stackBytes = s.me.stackBytes := X.bytes
  have hU : ((T.setVm s.vm).setFrames (.invoking m args :: below)).localsInUse = s.localsInUse := by
    rw [State.localsInUse_invoking hF (meth := meth) (c := c) X.method X.code, State.localsInUse_invoking X.frames X.method X.code]
  have hz := X.heapSize
  have hu := X.used
  have hb := X.book
  have hr := X.room
  simp only [State.hasRoom, Bool.and_eq_true, decide_eq_true_eq] at hr
  obtain ⟨⟨⟨⟨r1, r2, r3, r4, r5, r6⟩, r7⟩, r8⟩, -⟩ := hr
  rw [X.frames, List.length_cons] at r2 r3
  refine ⟨X.admits, X.cas, X.clock, hF, ?_, X.hears, X.method, X.code, X.here, X.tail, X.warmed, ?_, ?_, ?_⟩
  · simp only [State.hasRoom, Bool.and_eq_true, decide_eq_true_eq, hF, hU, List.length_cons, State.stackLimits_setFrames, State.stackBytes_setFrames, e1, e2]
    refine ⟨⟨⟨⟨by omega, by omega, by omega, by omega, by omega, r6⟩, ?_⟩, ?_⟩, hb⟩
    · show T.heap.size + R'.cells ≤ e.platform.maxCells
      omega
    · show T.slotsUsed + R'.slots ≤ e.platform.maxSlots
      omega
  · rw [State.stackLimits_setFrames]; rfl
  · rw [State.stackBytes_setFrames]; rfl
  · have hd : T.heap.toList.drop T.heap.size = [] := List.drop_eq_nil_of_le (Nat.le_of_eq Array.length_toList)
    refine ⟨?_, Nat.le_refl _, Nat.le_refl _, ?_, ?_, fun x c9 h9 => ⟨c9, h9, rfl, rfl, fun _ _ => rfl⟩⟩
    · obtain ⟨t, ht, -⟩ := State.frames_cons hg1
      show T.setVm s.vm = { ((T.setVm s.vm).setFrames (.invoking m args :: below)).setFrames (T.setVm s.vm).frames with heap := T.heap, slotsUsed := T.slotsUsed }
      rw [State.setFrames_setFrames, State.setFrames_self ht]
      rfl
    · show T.slotsUsed = T.slotsUsed + ((T.heap.toList.drop T.heap.size).map (·.slots.size)).sum
      rw [hd]; rfl
    · show ((T.heap.toList.drop T.heap.size).map (·.slots.size)).sum ≤ 0
      rw [hd]; exact Nat.le_refl _
/-- where nothing was written, every cell is as it was -/
theorem ev_same {s U : State} {k n : Nat} (hs : s.sameButNew ({ U with vm := s.vm } : State) [] k n) : s.heap.size ≤ U.heap.size ∧ U.heap.size ≤ s.heap.size + k ∧ ∀ q : Nat, q < s.heap.size → U.heap[q]? = s.heap[q]? := by
  obtain ⟨-, h2, h3, -, -, h6⟩ := hs
  refine ⟨h2, h3, fun q hq => ?_⟩
  obtain ⟨c9, e1, e2, e3, e4⟩ := h6 q _ (Array.getElem?_eq_getElem hq)
  have e5 : c9.slots = (s.heap[q]).slots := Array.ext_getElem? fun i => e4 i (fun hm => by cases hm)
  have e6 : c9 = s.heap[q] := by rw [e5] at e2; exact e2
  have e7 : U.heap[q]? = some c9 := e1
  rw [e7, e6, Array.getElem?_eq_getElem hq]
theorem ev_throw (ok : ev_ok w) (hsp : ∀ x ∈ ev_sp, x.before w.2.2.1 w.2.1 = true) (hM : ev_dec M = true) {ik is ic ce a3 b3 a4 b4 a6 b6 a9 b9 : Nat} {q : vw_C} {tx : String} (hq : ev_cl[ce]? = some q) (hq0 : q.2.2 = 0) (hqs : ev_sz ce = 6)
    (i0 : ev_ins M pc = some (.new ik, ce, b)) (i3 : ev_ins M (pc + 3) = some (.dup, a3, b3)) (i4 : ev_ins M (pc + 4) = some (.ldc is, a4, b4)) (i6 : ev_ins M (pc + 6) = some (.invokespecial ic, a6, b6)) (i9 : ev_ins M (pc + 9) = some (.athrow, a9, b9))
    (hw : ev_thw M.1.cls ik is ic q.1 tx = true) (hh : ∀ z ∈ M.2.2.2.2.1, (decide (z.1 ≤ pc + 9) && decide (pc + 9 < z.2.1)) = false) (hdf : 6 ≤ d.1) (hgs : (st.map fun v => v.category).sum + 82 ≤ d.2)
    (h1 : h.length + 1 ≤ w.2.2.2.2.2.2.1) (h2 : ev_cost h + 6 ≤ w.2.2.2.2.2.2.2.1) (hQ : Q (.inr h.length) (h ++ [.inr (ce, [])])) : ev_G w M d h0 Q pc L st h := by
  intro p e R s m args below meth c H locs ls C T hT X
  have hW := C.1.warm
  have hsz := ev_size C hT X
  have hb := C.1.2.1
  have hexec := C.1.1
  obtain ⟨r1, r2⟩ := C.room h1 h2
  obtain ⟨f1, f2, -, -⟩ := C.2.2.1
  have hlsz : ls.size = c.maxLocals := by rw [C.1.2.2.1]; exact C.2.2.2.2.2.1.1.1
  have htr : e.platform.stackTraces = false := (show e.platform.stackTraces = w.1.stackTraces by rw [X.admits.platform]).trans ok.2.2.1
  have Y := ev_anew X (R' := { frames := R.frames, locals := R.locals, cells := 1, slots := 6 }) (Nat.le_refl _) (Nat.le_refl _) r1 r2
  obtain ⟨s', hs'⟩ : ∃ z, z = (T.setVm s.vm).setFrames (.invoking m args :: below) := ⟨_, rfl⟩
  rw [← hs'] at Y
  have hvm : s'.vm = s.vm := by rw [hs']; rfl
  have hhp : s'.heap = H := by rw [hs']; exact hT
  have hW' : w.2.1.WarmedH s'.vm := by rw [hvm]; exact hW
  have hrep := ev_rep_of C hsz hhp
  have hold : ∀ x : Nat, x < w.2.1.heap.size → s'.heap[x]? = w.2.1.heap[x]? := hrep.2.2
  simp only [ev_thw, Bool.and_eq_true, decide_eq_true_eq] at hw
  obtain ⟨⟨⟨⟨hat, hk⟩, hini⟩, hstr⟩, hfit⟩ := hw
  have hlU := hsp (.laysStatic Bundle.tN "UNASSIGNED_STACK" Bundle.steD) (by simp [ev_sp])
  have hlS := hsp (.laysStatic Bundle.tN "SUPPRESSED_SENTINEL" Bundle.listD) (by simp [ev_sp])
  have hat' : ∀ x ∈ Bundle.ownAtoms M.1.cls ic q.1 ev_names, x.before args s' = true := by
    intro x hx
    have h3 := List.all_eq_true.mp (ev_thL_ok _ hat) x hx
    simp only [Bool.or_eq_true, decide_eq_true_eq] at h3
    rcases h3 with h3 | h3
    · exact ev_word ok hW' h3 args
    · simp only [ev_sp, List.mem_cons, List.not_mem_nil, or_false] at h3
      rcases h3 with rfl | rfl | rfl | rfl
      · exact ev_statR hW'.alike hold hlU (hsp _ (by simp [ev_sp]))
      · exact ev_statR hW'.alike hold hlS (hsp _ (by simp [ev_sp]))
      · exact ev_stat hW'.alike hold hlU
      · exact ev_stat hW'.alike hold hlS
  have hown' : s'.vm.findClass M.1.cls = some m.cls := by rw [hvm]; exact C.1.own
  have hins : (Cond.instantiable q.1 6).before args s' = true := hat' _ (by simp [Bundle.ownAtoms])
  have d0 : decode c.code pc = .ok (.new ik, 3) := by rw [hb]; exact ev_dec_at hM i0
  have d3 : decode c.code (pc + 3) = .ok (.dup, 1) := by rw [hb]; exact ev_dec_at hM i3
  have d4 : decode c.code (pc + 4) = .ok (.ldc is, 2) := by rw [hb]; exact ev_dec_at hM i4
  have d6 : decode c.code (pc + 6) = .ok (.invokespecial ic, 3) := by rw [hb]; exact ev_dec_at hM i6
  have d9 : decode c.code (pc + 9) = .ok (.athrow, 1) := by rw [hb]; exact ev_dec_at hM i9
  have hstr0 : (Cond.stringRef M.1.cls is tx).before w.2.2.1 w.2.1 = true := ok.1 _ hstr
  obtain ⟨cown0, hcown0⟩ : ∃ z, w.2.1.vm.findClass M.1.cls = some z := ⟨m.cls, by rw [← hW'.alike.findClass]; exact hown'⟩
  obtain ⟨-, -, -, sa, -, -, -, -, -, hev⟩ := Cond.stringRef_spec hcown0 hstr0
  have hv := vk_R.warm hW' (vk_R.of hstr0 hev)
  obtain ⟨vm₁, cX, kX, hfX, hkX, -, -, X₁, st1⟩ := Y.newCold hexec (own := M.1.cls) (C := q.1) (index := ik) (n := 6) hown' (ev_word ok hW' hk args) hins (ev_word ok hW' hini args)
    (g := F0 m pc ls (st.map (ev_v w))) rfl d0 (Nat.le_refl _) (Nat.le_refl _)
  generalize hT1 : (T.setVm vm₁).pushCell { cls := cX, slots := kX.instanceTypes.map defaultValue, vm := .none } = T1 at X₁ st1
  have hcat : (Value.ref T.heap.size).category = 1 := rfl
  have hcellA : T1.heap[T.heap.size]? = some (freshCell cX kX) := by rw [← hT1]; exact State.heap_pushCell_size _ _
  obtain ⟨U, hsteps, hrun, hend, hWU, hsame, cE, hcE, hO⟩ := X₁.ctorThrowS hexec htr (own := M.1.cls) (cls := q.1) (names := ev_names) (ic := ic) hown' hfit (by decide) hat' (fun x hx => by cases hx) hfX hkX hcellA (by rw [hhp, hT]; exact Nat.le_refl _) (msg := .ref sa) rfl
    (g := { method := m, pc := pc + 6, locals := ls, stack := .ref sa :: .ref T.heap.size :: .ref T.heap.size :: st.map (ev_v w), locked := none }) rfl hlsz rfl rfl (rest := st.map (ev_v w)) rfl
    d6 d9 (fun x hx => by
      have h3 := hh (x.startPc, x.endPc, x.handlerPc, x.catchType) (by rw [← C.1.2.2.2.2.2.2.2.1]; exact List.mem_map.mpr ⟨x, hx, rfl⟩)
      simpa [covers] using h3)
    (by show ev_names.length + 3 < R.frames; simp only [ev_names, List.length_cons, List.length_nil]; omega)
    (by
      show 2 * 0 + ((Value.ref T.heap.size :: st.map (ev_v w)).map fun v => v.category).sum + (13 * (ev_names.length + 1) + 42) ≤ R.locals
      simp only [List.map_cons, List.sum_cons, hcat, ev_catsum, ev_names, List.length_cons, List.length_nil]; omega) C.1.2.2.2.2.1
  obtain ⟨z1, z2, z3⟩ := ev_same hsame
  rw [hhp] at z1 z2 z3
  have hTs : T.heap.size = ev_base w + h.length := by rw [hT]; exact hsz
  have hUlt : T.heap.size < U.heap.size := (Array.getElem?_eq_some_iff.mp hcE).1
  have hWs : s.WarmedH U.vm := by
    have h3 : s'.WarmedH U.vm := hWU
    have h4 : s.WarmedH s'.vm := by rw [hvm]; exact State.WarmedH.refl s
    exact State.WarmedH.trans h4 h3
  have hfE : s.vm.findClass q.1 = some cE.cls := by
    have h3 := hO.cls
    rw [hvm] at h3
    exact h3
  have hK := va_K.moved hW.alike ok.2.1
  have hD1 : w.2.2.2.1.1 ce = cE.cls := Option.some.inj ((hK.1 ce q hq).2.1.symm.trans hfE)
  have hrepU : ev_rep w (h ++ [.inr (ce, [])]) U.heap := by
    refine ⟨?_, ?_, fun x hx => ?_⟩
    · rw [ev_ws_app]
      refine va_P.app ((C.2.2.2.1).kept (fun k z hz => z3 z.1 ((C.2.2.2.1 k z hz).lt))) (fun k z hz => ?_)
      have hk0 : k = 0 := by
        have := (List.getElem?_eq_some_iff.mp hz).1
        simp at this; omega
      subst hk0
      cases hz
      refine ⟨q, hq, cE, ?_, hD1.symm, hO.vm, fun j hj => ?_⟩
      · show U.heap[ev_base w + h.length]? = some cE
        rw [← hTs]; exact hcE
      · rw [hq0] at hj; omega
    · rw [List.length_append, List.length_singleton]; omega
    · rw [z3 x (by omega)]
      rw [← hhp]
      exact hold x hx
  have hall : s.sameButNew ({ U with vm := s.vm } : State) locs (h.length - h0.length + 1) (ev_cost h - ev_cost h0 + 6) := by
    have h3 : s'.sameButNew ({ U with vm := s'.vm } : State) [] 1 6 := hsame
    rw [hvm] at h3
    subst hs'
    obtain ⟨q1, q2⟩ := h3
    rw [State.setFrames_setFrames] at q1
    have h4 : (T.setVm s.vm).sameButNew ({ U with vm := s.vm } : State) [] 1 6 := ⟨q1, q2⟩
    have h5 := X.same.trans h4
    rw [List.append_nil] at h5
    exact h5
  obtain ⟨-, -, -, -, c5, -, c7, c8, c9, c10⟩ := C
  have e1 : (h ++ [(.inr (ce, []) : ev_E)]).length - h0.length = h.length - h0.length + 1 := by rw [List.length_append, List.length_singleton]; omega
  have e2 : ev_c1 (.inr (ce, [])) = 6 := hqs
  have e3 : ev_cost (h ++ [(.inr (ce, []) : ev_E)]) - ev_cost h0 = ev_cost h - ev_cost h0 + 6 := by rw [ev_cost_app, e2]; omega
  refine ⟨U, ?_, .threw T.heap.size, hrun, hend, .inr h.length, h ++ [.inr (ce, [])], hQ, ⟨by rw [hTs], ce, by simp⟩, hrepU, by rw [List.length_append]; omega, by rw [ev_cost_app]; omega, by rw [List.length_append]; exact h1, by rw [ev_cost_app, e2]; exact h2, hWs, locs, by rw [e1, e3]; exact hall, ?_⟩
  · refine st1 _ ?_
    show Steps p.tables e below (T1.setTop { method := m, pc := pc + 3, locals := ls, stack := .ref T.heap.size :: st.map (ev_v w), locked := none }) _
    jvm_step X₁.here [X₁.here.top, hexec, d3, Value.category]
    exact X₁.ldcString hexec (own := M.1.cls) (text := tx) (index := is) (a := sa) hown' hv.1 hv.2
      (g := { method := m, pc := pc + 4, locals := ls, stack := .ref T.heap.size :: .ref T.heap.size :: st.map (ev_v w), locked := none }) rfl d4 _ hsteps
  · exact c5.2.2
theorem ev_throwW (ok : ev_ok w) (hsp : ∀ x ∈ ev_sp, x.before w.2.2.1 w.2.1 = true) (hM : ev_dec M = true) {ik is ic ce a3 b3 a4 b4 a6 b6 a9 b9 : Nat} {q : vw_C} {tx : String} (hq : ev_cl[ce]? = some q) (hq0 : q.2.2 = 0) (hqs : ev_sz ce = 6)
    (i0 : ev_ins M pc = some (.new ik, ce, b)) (i3 : ev_ins M (pc + 3) = some (.dup, a3, b3)) (i4 : ev_ins M (pc + 4) = some (.ldc_w is, a4, b4)) (i6 : ev_ins M (pc + 7) = some (.invokespecial ic, a6, b6)) (i9 : ev_ins M (pc + 10) = some (.athrow, a9, b9))
    (hw : ev_thw M.1.cls ik is ic q.1 tx = true) (hh : ∀ z ∈ M.2.2.2.2.1, (decide (z.1 ≤ pc + 10) && decide (pc + 10 < z.2.1)) = false) (hdf : 6 ≤ d.1) (hgs : (st.map fun v => v.category).sum + 82 ≤ d.2)
    (h1 : h.length + 1 ≤ w.2.2.2.2.2.2.1) (h2 : ev_cost h + 6 ≤ w.2.2.2.2.2.2.2.1) (hQ : Q (.inr h.length) (h ++ [.inr (ce, [])])) : ev_G w M d h0 Q pc L st h := by
  intro p e R s m args below meth c H locs ls C T hT X
  have hW := C.1.warm
  have hsz := ev_size C hT X
  have hb := C.1.2.1
  have hexec := C.1.1
  obtain ⟨r1, r2⟩ := C.room h1 h2
  obtain ⟨f1, f2, -, -⟩ := C.2.2.1
  have hlsz : ls.size = c.maxLocals := by rw [C.1.2.2.1]; exact C.2.2.2.2.2.1.1.1
  have htr : e.platform.stackTraces = false := (show e.platform.stackTraces = w.1.stackTraces by rw [X.admits.platform]).trans ok.2.2.1
  have Y := ev_anew X (R' := { frames := R.frames, locals := R.locals, cells := 1, slots := 6 }) (Nat.le_refl _) (Nat.le_refl _) r1 r2
  obtain ⟨s', hs'⟩ : ∃ z, z = (T.setVm s.vm).setFrames (.invoking m args :: below) := ⟨_, rfl⟩
  rw [← hs'] at Y
  have hvm : s'.vm = s.vm := by rw [hs']; rfl
  have hhp : s'.heap = H := by rw [hs']; exact hT
  have hW' : w.2.1.WarmedH s'.vm := by rw [hvm]; exact hW
  have hrep := ev_rep_of C hsz hhp
  have hold : ∀ x : Nat, x < w.2.1.heap.size → s'.heap[x]? = w.2.1.heap[x]? := hrep.2.2
  simp only [ev_thw, Bool.and_eq_true, decide_eq_true_eq] at hw
  obtain ⟨⟨⟨⟨hat, hk⟩, hini⟩, hstr⟩, hfit⟩ := hw
  have hlU := hsp (.laysStatic Bundle.tN "UNASSIGNED_STACK" Bundle.steD) (by simp [ev_sp])
  have hlS := hsp (.laysStatic Bundle.tN "SUPPRESSED_SENTINEL" Bundle.listD) (by simp [ev_sp])
  have hat' : ∀ x ∈ Bundle.ownAtoms M.1.cls ic q.1 ev_names, x.before args s' = true := by
    intro x hx
    have h3 := List.all_eq_true.mp (ev_thL_ok _ hat) x hx
    simp only [Bool.or_eq_true, decide_eq_true_eq] at h3
    rcases h3 with h3 | h3
    · exact ev_word ok hW' h3 args
    · simp only [ev_sp, List.mem_cons, List.not_mem_nil, or_false] at h3
      rcases h3 with rfl | rfl | rfl | rfl
      · exact ev_statR hW'.alike hold hlU (hsp _ (by simp [ev_sp]))
      · exact ev_statR hW'.alike hold hlS (hsp _ (by simp [ev_sp]))
      · exact ev_stat hW'.alike hold hlU
      · exact ev_stat hW'.alike hold hlS
  have hown' : s'.vm.findClass M.1.cls = some m.cls := by rw [hvm]; exact C.1.own
  have hins : (Cond.instantiable q.1 6).before args s' = true := hat' _ (by simp [Bundle.ownAtoms])
  have d0 : decode c.code pc = .ok (.new ik, 3) := by rw [hb]; exact ev_dec_at hM i0
  have d3 : decode c.code (pc + 3) = .ok (.dup, 1) := by rw [hb]; exact ev_dec_at hM i3
  have d4 : decode c.code (pc + 4) = .ok (.ldc_w is, 3) := by rw [hb]; exact ev_dec_at hM i4
  have d6 : decode c.code (pc + 7) = .ok (.invokespecial ic, 3) := by rw [hb]; exact ev_dec_at hM i6
  have d9 : decode c.code (pc + 10) = .ok (.athrow, 1) := by rw [hb]; exact ev_dec_at hM i9
  have hstr0 : (Cond.stringRef M.1.cls is tx).before w.2.2.1 w.2.1 = true := ok.1 _ hstr
  obtain ⟨cown0, hcown0⟩ : ∃ z, w.2.1.vm.findClass M.1.cls = some z := ⟨m.cls, by rw [← hW'.alike.findClass]; exact hown'⟩
  obtain ⟨-, -, -, sa, -, -, -, -, -, hev⟩ := Cond.stringRef_spec hcown0 hstr0
  have hv := vk_R.warm hW' (vk_R.of hstr0 hev)
  obtain ⟨vm₁, cX, kX, hfX, hkX, -, -, X₁, st1⟩ := Y.newCold hexec (own := M.1.cls) (C := q.1) (index := ik) (n := 6) hown' (ev_word ok hW' hk args) hins (ev_word ok hW' hini args)
    (g := F0 m pc ls (st.map (ev_v w))) rfl d0 (Nat.le_refl _) (Nat.le_refl _)
  generalize hT1 : (T.setVm vm₁).pushCell { cls := cX, slots := kX.instanceTypes.map defaultValue, vm := .none } = T1 at X₁ st1
  have hcat : (Value.ref T.heap.size).category = 1 := rfl
  have hcellA : T1.heap[T.heap.size]? = some (freshCell cX kX) := by rw [← hT1]; exact State.heap_pushCell_size _ _
  obtain ⟨U, hsteps, hrun, hend, hWU, hsame, cE, hcE, hO⟩ := X₁.ctorThrowS hexec htr (own := M.1.cls) (cls := q.1) (names := ev_names) (ic := ic) hown' hfit (by decide) hat' (fun x hx => by cases hx) hfX hkX hcellA (by rw [hhp, hT]; exact Nat.le_refl _) (msg := .ref sa) rfl
    (g := { method := m, pc := pc + 7, locals := ls, stack := .ref sa :: .ref T.heap.size :: .ref T.heap.size :: st.map (ev_v w), locked := none }) rfl hlsz rfl rfl (rest := st.map (ev_v w)) rfl
    d6 d9 (fun x hx => by
      have h3 := hh (x.startPc, x.endPc, x.handlerPc, x.catchType) (by rw [← C.1.2.2.2.2.2.2.2.1]; exact List.mem_map.mpr ⟨x, hx, rfl⟩)
      simpa [covers] using h3)
    (by show ev_names.length + 3 < R.frames; simp only [ev_names, List.length_cons, List.length_nil]; omega)
    (by
      show 2 * 0 + ((Value.ref T.heap.size :: st.map (ev_v w)).map fun v => v.category).sum + (13 * (ev_names.length + 1) + 42) ≤ R.locals
      simp only [List.map_cons, List.sum_cons, hcat, ev_catsum, ev_names, List.length_cons, List.length_nil]; omega) C.1.2.2.2.2.1
  obtain ⟨z1, z2, z3⟩ := ev_same hsame
  rw [hhp] at z1 z2 z3
  have hTs : T.heap.size = ev_base w + h.length := by rw [hT]; exact hsz
  have hUlt : T.heap.size < U.heap.size := (Array.getElem?_eq_some_iff.mp hcE).1
  have hWs : s.WarmedH U.vm := by
    have h3 : s'.WarmedH U.vm := hWU
    have h4 : s.WarmedH s'.vm := by rw [hvm]; exact State.WarmedH.refl s
    exact State.WarmedH.trans h4 h3
  have hfE : s.vm.findClass q.1 = some cE.cls := by
    have h3 := hO.cls
    rw [hvm] at h3
    exact h3
  have hK := va_K.moved hW.alike ok.2.1
  have hD1 : w.2.2.2.1.1 ce = cE.cls := Option.some.inj ((hK.1 ce q hq).2.1.symm.trans hfE)
  have hrepU : ev_rep w (h ++ [.inr (ce, [])]) U.heap := by
    refine ⟨?_, ?_, fun x hx => ?_⟩
    · rw [ev_ws_app]
      refine va_P.app ((C.2.2.2.1).kept (fun k z hz => z3 z.1 ((C.2.2.2.1 k z hz).lt))) (fun k z hz => ?_)
      have hk0 : k = 0 := by
        have := (List.getElem?_eq_some_iff.mp hz).1
        simp at this; omega
      subst hk0
      cases hz
      refine ⟨q, hq, cE, ?_, hD1.symm, hO.vm, fun j hj => ?_⟩
      · show U.heap[ev_base w + h.length]? = some cE
        rw [← hTs]; exact hcE
      · rw [hq0] at hj; omega
    · rw [List.length_append, List.length_singleton]; omega
    · rw [z3 x (by omega)]
      rw [← hhp]
      exact hold x hx
  have hall : s.sameButNew ({ U with vm := s.vm } : State) locs (h.length - h0.length + 1) (ev_cost h - ev_cost h0 + 6) := by
    have h3 : s'.sameButNew ({ U with vm := s'.vm } : State) [] 1 6 := hsame
    rw [hvm] at h3
    subst hs'
    obtain ⟨q1, q2⟩ := h3
    rw [State.setFrames_setFrames] at q1
    have h4 : (T.setVm s.vm).sameButNew ({ U with vm := s.vm } : State) [] 1 6 := ⟨q1, q2⟩
    have h5 := X.same.trans h4
    rw [List.append_nil] at h5
    exact h5
  obtain ⟨-, -, -, -, c5, -, c7, c8, c9, c10⟩ := C
  have e1 : (h ++ [(.inr (ce, []) : ev_E)]).length - h0.length = h.length - h0.length + 1 := by rw [List.length_append, List.length_singleton]; omega
  have e2 : ev_c1 (.inr (ce, [])) = 6 := hqs
  have e3 : ev_cost (h ++ [(.inr (ce, []) : ev_E)]) - ev_cost h0 = ev_cost h - ev_cost h0 + 6 := by rw [ev_cost_app, e2]; omega
  refine ⟨U, ?_, .threw T.heap.size, hrun, hend, .inr h.length, h ++ [.inr (ce, [])], hQ, ⟨by rw [hTs], ce, by simp⟩, hrepU, by rw [List.length_append]; omega, by rw [ev_cost_app]; omega, by rw [List.length_append]; exact h1, by rw [ev_cost_app, e2]; exact h2, hWs, locs, by rw [e1, e3]; exact hall, ?_⟩
  · refine st1 _ ?_
    show Steps p.tables e below (T1.setTop { method := m, pc := pc + 3, locals := ls, stack := .ref T.heap.size :: st.map (ev_v w), locked := none }) _
    jvm_step X₁.here [X₁.here.top, hexec, d3, Value.category]
    exact ldcStringW X₁ hexec (own := M.1.cls) (text := tx) (index := is) (a := sa) hown' hv.1 hv.2
      (g := { method := m, pc := pc + 4, locals := ls, stack := .ref T.heap.size :: .ref T.heap.size :: st.map (ev_v w), locked := none }) rfl d4 _ hsteps
  · exact c5.2.2
end EvThrow
