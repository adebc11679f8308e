/-! returns and calls: a callee is walked in its caller's room, by its own judgement -/
section EvCall
variable {w : ev_W} {M : ev_M} {d : Nat × Nat} {h0 : ev_H} {Q : ev_R → ev_H → Prop} {pc : Nat} {L : List (Option Value)} {st : List Value} {h : ev_H} {a b : Nat}
theorem ev_weaken {tb : Tables} {e : Env} {mid below : List Frame} {x y : State} (hs : Steps tb e (mid ++ below) x y) : Steps tb e below x y := by
  obtain ⟨n, hn, hw⟩ := hs
  exact ⟨n, hn, fun k hk => (hw k hk).weaken⟩
theorem ev_size {p : Program} {e : Env} {R : Room} {s : State} {m : MethodId} {args : Array Value} {below : List Frame} {meth : Method} {c : Code} {H : Heap} {locs : List Loc} {ls : Array Slot} (C : ev_cx w M d h0 p R s m meth c h H locs L ls) {T : State} {slots : Nat} (hT : T.heap = H)
    (X : Stand p w.1 e R s m args below meth c T locs (h.length - h0.length) slots) : H.size = ev_base w + h.length := by
  have hz := X.heapSize
  have hs := C.2.1.2.1
  have h7 := C.2.2.2.2.2.2.1
  rw [hT] at hz
  have hge : ev_base w + h.length ≤ H.size := by
    rcases Nat.eq_zero_or_pos h.length with hl | hl
    · have h5 := C.2.2.2.2.1.1
      omega
    · have hn : h.length - 1 < h.length := by omega
      have h1 := (C.2.2.2.1 (h.length - 1) _ (ev_ws_get (List.getElem?_eq_getElem hn))).lt
      have h2 : ev_base w + (h.length - 1) < H.size := h1
      omega
  omega
theorem ev_rep_of {p : Program} {R : Room} {s : State} {m : MethodId} {meth : Method} {c : Code} {H : Heap} {locs : List Loc} {ls : Array Slot} (C : ev_cx w M d h0 p R s m meth c h H locs L ls) (hsz : H.size = ev_base w + h.length) {H' : Heap} (ht : H' = H) : ev_rep w h H' := by
  subst ht
  refine ⟨C.2.2.2.1, hsz, fun q hq => ?_⟩
  have hs := C.2.1.2.1
  rw [C.2.2.2.2.1.2.1 q (by omega) (by unfold ev_A; omega)]
  exact C.2.1.2.2 q hq
theorem ev_ireturn (hM : ev_dec M = true) {v : Int32} {ty : FieldType} (hi : ev_ins M pc = some (.ireturn, a, b)) (hr : M.2.2.2.1 = some ty) (hn : narrow ty (.int v) = .int v) (hQ : Q (.inl (some (.int v))) h) : ev_G w M d h0 Q pc L [.int v] h := by
  intro p e R s m args below meth c H locs ls C T hT X
  have hsz := ev_size C hT X
  obtain ⟨t, st1, o, b1, b2, ⟨ho, ht, hW'⟩, L1, hF, hL⟩ := (W.zret (Qc := fun _ s' o t => o = .returned (some (.int v)) ∧ t.heap = H ∧ s'.WarmedH t.vm) (free := ev_A w) C.1.1 C.1.2.1 (C.1.2.2.2.1.trans hr) hn (fun t ht hW => ⟨rfl, ht, hW⟩) C.2.2.2.2.1.2.2 (ev_dec_at hM hi) C.1.2.2.2.2.1) T hT X
  exact ⟨t, st1, o, b1, b2, .inl (some (.int v)), h, hQ, ho, ev_rep_of C hsz ht, C.2.2.2.2.2.2.1, C.2.2.2.2.2.2.2.1, C.2.2.2.2.2.2.2.2.1, C.2.2.2.2.2.2.2.2.2, hW', L1, hF.2.2, hL⟩
theorem ev_return (hM : ev_dec M = true) (hi : ev_ins M pc = some (.return_, a, b)) (hr : M.2.2.2.1 = none) (hQ : Q (.inl none) h) : ev_G w M d h0 Q pc L [] h := by
  intro p e R s m args below meth c H locs ls C T hT X
  have hsz := ev_size C hT X
  obtain ⟨t, st1, o, b1, b2, ⟨ho, ht, hW'⟩, L1, hF, hL⟩ := (W.vret (Qc := fun _ s' o t => o = .returned none ∧ t.heap = H ∧ s'.WarmedH t.vm) (free := ev_A w) C.1.1 C.1.2.1 (C.1.2.2.2.1.trans hr) (fun t ht hW => ⟨rfl, ht, hW⟩) C.2.2.2.2.1.2.2 (ev_dec_at hM hi) C.1.2.2.2.2.1) T hT X
  exact ⟨t, st1, o, b1, b2, .inl none, h, hQ, ho, ev_rep_of C hsz ht, C.2.2.2.2.2.2.1, C.2.2.2.2.2.2.2.1, C.2.2.2.2.2.2.2.2.1, C.2.2.2.2.2.2.2.2.2, hW', L1, hF.2.2, hL⟩
theorem ev_areturn (hM : ev_dec M = true) {x : Nat} {rt : FieldType} (hi : ev_ins M pc = some (.areturn, a, b)) (hr : M.2.2.2.1 = some rt) (hrt : (∃ n, rt = .object n) ∨ ∃ t, rt = .array t) (hQ : Q (.inl (some (.ref x))) h) : ev_G w M d h0 Q pc L [.ref x] h := by
  intro p e R s m args below meth c H locs ls C T hT X
  have hsz := ev_size C hT X
  obtain ⟨t, st1, o, b1, b2, ⟨ho, ht, hW'⟩, L1, hF, hL⟩ := (W.aret (v := .ref (ev_base w + x)) (Qc := fun _ s' o t => o = .returned (some (.ref (ev_base w + x))) ∧ t.heap = H ∧ s'.WarmedH t.vm) (free := ev_A w) C.1.1 C.1.2.1 (C.1.2.2.2.1.trans hr) hrt (Or.inr ⟨_, rfl⟩) (fun t ht hW => ⟨rfl, ht, hW⟩) C.2.2.2.2.1.2.2 (ev_dec_at hM hi) C.1.2.2.2.2.1) T hT X
  exact ⟨t, st1, o, b1, b2, .inl (some (.ref x)), h, hQ, ho, ev_rep_of C hsz ht, C.2.2.2.2.2.2.1, C.2.2.2.2.2.2.2.1, C.2.2.2.2.2.2.2.2.1, C.2.2.2.2.2.2.2.2.2, hW', L1, hF.2.2, hL⟩
/-- the locals at an entry -/
def ev_L0 (n : Nat) (vs : List Value) : List (Option Value) := vs.map some ++ List.replicate (n - vs.length) none
theorem ev_args_mem : ∀ (vs : List Value) (i : Nat), (∀ v ∈ vs, v.category = 1) → ∀ (j : Nat) (v : Value), vs[j]? = some v → (i + j, v) ∈ lv_args i vs
  | [], _, _, j, v, hj => by simp at hj
  | u :: vs, i, hc, 0, v, hj => by
    simp only [List.getElem?_cons_zero, Option.some.injEq] at hj
    subst hj
    exact List.mem_cons_self
  | u :: vs, i, hc, j + 1, v, hj => by
    simp only [List.getElem?_cons_succ] at hj
    have h1 : ¬ u.category = 2 := by rw [hc u List.mem_cons_self]; decide
    have h2 := ev_args_mem vs (i + 1) (fun v hv => hc v (List.mem_cons_of_mem _ hv)) j v hj
    show (i + (j + 1), v) ∈ (i, u) :: lv_args (if u.category = 2 then i + 2 else i + 1) vs
    rw [if_neg h1]
    have e1 : i + (j + 1) = i + 1 + j := by omega
    rw [e1]
    exact List.mem_cons_of_mem _ h2
theorem ev_sl_len (vs : List Value) (hc : ∀ v ∈ vs, v.category = 1) : (lg_sl vs).length = vs.length := by
  induction vs with
  | nil => rfl
  | cons u vs ih =>
    have h1 : ¬ u.category = 2 := by rw [hc u List.mem_cons_self]; decide
    have h2 := ih (fun v hv => hc v (List.mem_cons_of_mem _ hv))
    simp only [lg_sl] at h2
    simp only [lg_sl, List.flatMap_cons, if_neg h1, List.length_append, List.length_cons, List.length_nil, h2]
    omega
theorem ev_entry (w : ev_W) (vs : List Value) (n : Nat) (hc : ∀ v ∈ vs, v.category = 1) (hn : vs.length ≤ n) :
    ev_ls w n (ev_L0 n vs) ((lg_sl (vs.map (ev_v w)) ++ List.replicate (n - (lg_sl (vs.map (ev_v w))).length) Slot.unset).toArray) := by
  have hc' : ∀ v ∈ vs.map (ev_v w), v.category = 1 := by
    intro v hv
    obtain ⟨u, hu, rfl⟩ := List.mem_map.mp hv
    rw [ev_v_cat]; exact hc u hu
  have key : ∀ (i : Nat) (v : Value), (ev_L0 n vs)[i]? = some (some v) → vs[i]? = some v := by
    intro i v hi
    unfold ev_L0 at hi
    by_cases hl : i < (vs.map some).length
    · rw [List.getElem?_append_left hl, List.getElem?_map] at hi
      cases hv : vs[i]? with
      | none => rw [hv] at hi; cases hi
      | some u => rw [hv] at hi; simp at hi; rw [hi]
    · rw [List.getElem?_append_right (by omega)] at hi
      have h1 := List.mem_of_getElem? hi
      have h2 := (List.mem_replicate.mp h1).2
      cases h2
  have h1 := lv_entry (vs.map (ev_v w)) (n := n) (by rw [ev_sl_len _ hc', List.length_map]; exact hn)
  refine ⟨⟨h1.1, h1.2.1, fun q hq => ?_⟩, fun i v hi => hc v (List.mem_of_getElem? (key i v hi))⟩
  obtain ⟨v, hv, hq2⟩ := ev_lv_of hq
  obtain ⟨qi, qv⟩ := q
  dsimp only at hv hq2
  subst hq2
  have h2 := ev_args_mem (vs.map (ev_v w)) 0 hc' qi (ev_v w v) (by rw [List.getElem?_map, key qi v hv]; rfl)
  rw [Nat.zero_add] at h2
  exact h1.2.2 _ h2
/-- a method's words -/
def ev_mw (M' : ev_M) : Bool := (match M'.2.2.2.2.1 with
  | [] => ev_has (.code M'.1 M'.2.1 M'.2.2.1 M'.2.2.2.1)
  | hs => ev_has (.codeWith M'.1 M'.2.1 M'.2.2.1 M'.2.2.2.1 hs)) && ev_has (.initialized M'.1.cls) && plainFor M'.1 && decide (M'.1.cls ≠ "java/lang/invoke/MethodHandle" ∧ M'.1.cls ≠ "java/lang/invoke/VarHandle") && ev_dec M'
theorem ev_mw_of (ok : ev_ok w) {M' : ev_M} (hm : ev_mw M' = true) {s : State} (hW : w.2.1.WarmedH s.vm) (args : Array Value) : ∃ (mk : MethodId) (meth : Method) (c : Code), s.methodNamed? M'.1 = some mk ∧ s.vm.method? mk = some meth ∧ meth.code = some c ∧ c.code = M'.2.1 ∧ c.maxLocals = M'.2.2.1 ∧ meth.sig.returnType = M'.2.2.2.1 ∧ meth.locks = false ∧
    c.exceptionTable.toList.map (fun h => (h.startPc, h.endPc, h.handlerPc, h.catchType)) = M'.2.2.2.2.1 ∧ parseMethodDescriptor M'.1.desc = some meth.sig ∧ (Cond.initialized M'.1.cls).before args s = true ∧ plainFor M'.1 = true ∧ (M'.1.cls ≠ "java/lang/invoke/MethodHandle" ∧ M'.1.cls ≠ "java/lang/invoke/VarHandle") ∧ ev_dec M' = true := by
  simp only [ev_mw, Bool.and_eq_true, decide_eq_true_eq] at hm
  obtain ⟨⟨⟨⟨hc, hi⟩, hp⟩, hy⟩, hd⟩ := hm
  cases hh : M'.2.2.2.2.1 with
  | nil =>
    rw [hh] at hc
    have h1 := ev_word ok hW hc args
    obtain ⟨mk, hmk⟩ := Cond.code_named h1
    obtain ⟨meth, c, q1, q2, q3, q4, q5, q6, q7, q8⟩ := Cond.code_spec hmk h1
    refine ⟨mk, meth, c, hmk, q1, q2, q3, q4, q5, q6, ?_, q8, ev_word ok hW hi args, hp, hy, hd⟩
    have e1 : c.exceptionTable = #[] := by simpa using q7
    rw [e1]; rfl
  | cons x xs =>
    rw [hh] at hc
    have h1 := ev_word ok hW hc args
    obtain ⟨mk, meth, c, hmk, q1, q2, q3, q4, q5, q6, q7, q8⟩ := Cond.codeWith_spec h1
    exact ⟨mk, meth, c, hmk, q1, q2, q3, q4, q6, q7, q5, q8, ev_word ok hW hi args, hp, hy, hd⟩
/-- what a call has come to: it returned, or it threw -/
def ev_Cr (w : ev_W) (M : ev_M) (d : Nat × Nat) (h0 : ev_H) (L : List (Option Value)) (Q' : ev_R → ev_H → Prop) (p : Program) (e : Env) (R : Room) (s : State) (m : MethodId) (args : Array Value) (below : List Frame) (meth : Method) (c : Code) (ls : Array Slot) (T : State) (g : JFrame) (mk : MethodId) (av : Array Value) : Prop :=
  (∃ (v : Option Value) (h' : ev_H) (T' : State) (locs' : List Loc), Q' (.inl v) h' ∧ Stand p w.1 e R s m args below meth c T' locs' (h'.length - h0.length) (ev_cost h' - ev_cost h0) ∧ ev_cx w M d h0 p R s m meth c h' T'.heap locs' L ls ∧
    ∀ acts, Steps p.tables e below (doInvoke e (T.setTop g) acts mk av).1 (T'.setTop { g with pc := g.pc + 3, stack := (v.map (ev_v w)).toList ++ g.stack })) ∨
  (∃ (k ce : Nat) (h' : ev_H) (T' : State) (locs' : List Loc), Q' (.inr k) h' ∧ h'[k]? = some (.inr (ce, [])) ∧ Stand p w.1 e R s m args below meth c T' locs' (h'.length - h0.length) (ev_cost h' - ev_cost h0) ∧ ev_cx w M d h0 p R s m meth c h' T'.heap locs' L ls ∧
    ∀ acts, Steps p.tables e below (doInvoke e (T.setTop g) acts mk av).1 ((T'.setTop g).pushFrame (.throwing (ev_base w + k))))
theorem ev_callee {d' : Nat × Nat} {M' : ev_M} {Q' : ev_R → ev_H → Prop} {vs : List Value} (K : ev_G w M' d' h Q' 0 (ev_L0 M'.2.2.1 vs) [] h) (hvs : ∀ v ∈ vs, v.category = 1) (hvn : vs.length ≤ M'.2.2.1) (hdf : d'.1 + 1 ≤ d.1)
    {p : Program} {e : Env} {R : Room} {s : State} {m : MethodId} {args : Array Value} {below : List Frame} {meth : Method} {c : Code} {H : Heap} {locs : List Loc} {ls : Array Slot} (C : ev_cx w M d h0 p R s m meth c h H locs L ls) {T : State} (hT : T.heap = H)
    (X : Stand p w.1 e R s m args below meth c T locs (h.length - h0.length) (ev_cost h - ev_cost h0)) {g : JFrame} (hg : g.method = m) (hsize : g.locals.size = c.maxLocals) (hgm : g.monitorRoom = 0) {ig : Instr} (hdg : decode c.code g.pc = .ok (ig, 3)) (hgs : (g.stack.map fun v => v.category).sum + (M'.2.2.1 + 11) + d'.2 ≤ d.2)
    {mk : MethodId} {methk : Method} {ck : Code} (hnm : s.methodNamed? M'.1 = some mk) (hmk : s.vm.method? mk = some methk) (hck : methk.code = some ck) (hcb : ck.code = M'.2.1) (hcl : ck.maxLocals = M'.2.2.1) (hcr : methk.sig.returnType = M'.2.2.2.1) (hlk : methk.locks = false)
    (hch : ck.exceptionTable.toList.map (fun h => (h.startPc, h.endPc, h.handlerPc, h.catchType)) = M'.2.2.2.2.1) (hpn : plainFor M'.1 = true) :
    ev_Cr w M d h0 L Q' p e R s m args below meth c ls T g mk (vs.map (ev_v w)).toArray := by
  have hsz := ev_size C hT X
  have hWT : w.2.1.WarmedH T.vm := State.WarmedH.trans C.1.warm X.warmed
  have hmkT : T.vm.method? mk = some methk := by rw [X.warmed.alike.method?]; exact hmk
  have hnmT : T.methodNamed? M'.1 = some mk := X.named hnm
  have hplain : T.plainMethod mk := State.plainMethod.of_named hpn hnmT hmkT
  have c3 := C.2.2.1
  have c7 := C.2.2.2.2.2.2.1
  have c8 := C.2.2.2.2.2.2.2.1
  have c9 := C.2.2.2.2.2.2.2.2.1
  have c10 := C.2.2.2.2.2.2.2.2.2
  obtain ⟨f1, f2, f3, f4⟩ := c3
  obtain ⟨Y, hin⟩ := X.into (R' := { frames := d'.1, locals := d'.2, cells := w.2.2.2.2.2.2.1 - h.length, slots := w.2.2.2.2.2.2.2.1 - ev_cost h }) hg hsize hdg (vs.map (ev_v w)).toArray hmkT hck hlk hplain (by show d'.1 + 1 ≤ _; omega)
    (by show 2 * g.monitorRoom + (g.stack.map fun v => v.category).sum + (ck.maxLocals + 11) + d'.2 ≤ R.locals; rw [hgm, hcl]; omega) (by show h.length - h0.length + (w.2.2.2.2.2.2.1 - h.length) ≤ _; omega) (by show ev_cost h - ev_cost h0 + (w.2.2.2.2.2.2.2.1 - ev_cost h) ≤ _; omega)
  rw [hcl, lg_entry_eq] at Y hin
  have hls := ev_entry w vs M'.2.2.1 hvs hvn
  generalize (lg_sl (vs.map (ev_v w)) ++ List.replicate (M'.2.2.1 - (lg_sl (vs.map (ev_v w))).length) Slot.unset).toArray = lk at Y hin hls
  generalize hT0 : (T.setTop g).pushFrame (.java (F0 mk 0 lk [])) = T0 at Y hin
  have hT0h : T0.heap = H := by rw [← hT0, ← hT]; rfl
  have hsh : (T.calling g mk (vs.map (ev_v w)).toArray).heap = H := by rw [← hT]; rfl
  have hCk : ev_cx w M' d' h p { frames := d'.1, locals := d'.2, cells := w.2.2.2.2.2.2.1 - h.length, slots := w.2.2.2.2.2.2.2.1 - ev_cost h } (T.calling g mk (vs.map (ev_v w)).toArray) mk methk ck h H [] (ev_L0 M'.2.2.1 vs) lk := by
    refine ⟨⟨C.1.1, hcb, hcl, hcr, hlk, ?_, (name_of_methodNamed hnm hmk).1, hch, hWT⟩, ?_, ⟨Nat.le_refl _, Nat.le_refl _, ?_, ?_⟩, C.2.2.2.1, ?_, hls, Nat.le_refl _, Nat.le_refl _, c9, c10⟩
    · exact findClass_of_methodNamed hnmT
    · exact ev_rep_of C hsz hsh
    · show w.2.2.2.2.2.2.1 ≤ h.length + (w.2.2.2.2.2.2.1 - h.length); omega
    · show w.2.2.2.2.2.2.2.1 ≤ ev_cost h + (w.2.2.2.2.2.2.2.1 - ev_cost h); omega
    · rw [hsh]; exact va_S.rf
  have hWk := K p e _ (T.calling g mk (vs.map (ev_v w)).toArray) mk (vs.map (ev_v w)).toArray (.java g :: below) methk ck H [] lk hCk
  rw [Nat.sub_self, Nat.sub_self] at hWk
  obtain ⟨t, hst, o, hrun, hend, r, h', hQ', hout, hrep, g1, g2, g3, g4, hWt, Lk, hsame, hLk⟩ := hWk T0 hT0h Y
  have hst2 : Steps p.tables e below (T0.setTop (F0 mk 0 lk [])) t := ev_weaken (mid := [.java g]) hst
  have hcx : ∀ (T' : State), T'.heap = t.heap → ev_cx w M d h0 p R s m meth c h' T'.heap (locs ++ Lk) L ls := by
    intro T' e1
    obtain ⟨k1, k2, k3, k4, k5, k6, -, -, -, -⟩ := C
    refine ⟨k1, k2, k3, by rw [e1]; exact hrep.1, ⟨?_, fun q q1 q2 => ?_, fun z hz => ?_⟩, k6, by omega, by omega, g3, g4⟩
    · have h1 := hrep.2.1
      have h2 := k2.2.1
      rw [e1]; omega
    · have hq : q < ev_base w := by unfold ev_A at q2; omega
      rw [e1, hrep.2.2 q hq, k2.2.2 q hq]
    · rcases List.mem_append.mp hz with hz | hz
      · exact k5.2.2 z hz
      · exact hLk z hz
  have e1 : h.length - h0.length + (h'.length - h.length) = h'.length - h0.length := by omega
  have e2 : ev_cost h - ev_cost h0 + (ev_cost h' - ev_cost h) = ev_cost h' - ev_cost h0 := by omega
  cases r with
  | inl v =>
    have ho : o = .returned (v.map (ev_v w)) := hout
    subst ho
    obtain ⟨T', X', -, -, ht⟩ := X.outOf hg hdg hend hWt hsame
    rw [e1, e2] at X'
    have hh : T'.heap = t.heap := by rw [ht]; rfl
    refine Or.inl ⟨v, h', T', locs ++ Lk, hQ', X', hcx T' hh, fun acts => ?_⟩
    rw [hin acts, ← ht]
    exact hst2
  | inr k =>
    obtain ⟨ho, ce, hce⟩ : o = .threw (ev_base w + k) ∧ ∃ c, h'[k]? = some (.inr (c, [])) := hout
    subst ho
    obtain ⟨T', X', -, -, ht⟩ := X.outOfThrown hg hend hWt hsame
    rw [e1, e2] at X'
    have hh : T'.heap = t.heap := by rw [ht]; rfl
    refine Or.inr ⟨k, ce, h', T', locs ++ Lk, hQ', hce, X', hcx T' hh, fun acts => ?_⟩
    rw [hin acts, ← ht]
    exact hst2
/-- a frame over which something was thrown -/
def ev_X (w : ev_W) (M : ev_M) (d : Nat × Nat) (h0 : ev_H) (Q : ev_R → ev_H → Prop) (pc : Nat) (L : List (Option Value)) (st : List Value) (h : ev_H) (k : Nat) : Prop :=
  ∀ (p : Program) (e : Env) (R : Room) (s : State) (m : MethodId) (args : Array Value) (below : List Frame) (meth : Method) (c : Code) (H : Heap) (locs : List Loc) (ls : Array Slot),
    ev_cx w M d h0 p R s m meth c h H locs L ls → ∀ T : State, T.heap = H → Stand p w.1 e R s m args below meth c T locs (h.length - h0.length) (ev_cost h - ev_cost h0) →
    ∃ t, Steps p.tables e below ((T.setTop (F0 m pc ls (st.map (ev_v w)))).pushFrame (.throwing (ev_base w + k))) t ∧ ev_PQ w h0 Q below s t
def ev_npar (y : MethodName) (n : Nat) : Bool := decide ((parseMethodDescriptor y.desc).map (fun q => q.parameters.length) = some n)
theorem ev_npar_of {y : MethodName} {n : Nat} (hp : ev_npar y n = true) {sig : MethodDescriptor} (hs : parseMethodDescriptor y.desc = some sig) : n = sig.parameters.length := by
  have h1 := of_decide_eq_true hp
  rw [hs] at h1
  exact (Option.some.inj h1).symm
/-- the end of a call: with what came of it the caller goes on -/
theorem ev_goOn {Q' : ev_R → ev_H → Prop} {p : Program} {e : Env} {R : Room} {s : State} {m : MethodId} {args : Array Value} {below : List Frame} {meth : Method} {c : Code} {ls : Array Slot} {T T1 : State} {mk : MethodId} {av : Array Value} {g0 : JFrame}
    (hr : ev_Cr w M d h0 L Q' p e R s m args below meth c ls T1 (F0 m pc ls (st.map (ev_v w))) mk av)
    (hstep : ∀ target, (∀ acts, Steps p.tables e below (doInvoke e (T1.setTop (F0 m pc ls (st.map (ev_v w)))) acts mk av).1 target) → Steps p.tables e below (T.setTop g0) target)
    (kk : ∀ (v : Option Value) (h' : ev_H), Q' (.inl v) h' → ev_G w M d h0 Q (pc + 3) L (v.toList ++ st) h')
    (kx : ∀ (k ce : Nat) (h' : ev_H), Q' (.inr k) h' → h'[k]? = some (.inr (ce, [])) → ev_X w M d h0 Q pc L st h' k) :
    ∃ t, Steps p.tables e below (T.setTop g0) t ∧ ev_PQ w h0 Q below s t := by
  rcases hr with ⟨v, h', T', locs', hQ', X', C', hs⟩ | ⟨k, ce, h', T', locs', hQ', hce, X', C', hs⟩
  · obtain ⟨t, st1, q⟩ := kk v h' hQ' p e R s m args below meth c T'.heap locs' ls C' T' rfl X'
    refine ⟨t, (hstep _ hs).trans ?_, q⟩
    have e1 : (v.map (ev_v w)).toList ++ st.map (ev_v w) = (v.toList ++ st).map (ev_v w) := by cases v <;> rfl
    show Steps p.tables e below (T'.setTop (F0 m (pc + 3) ls ((v.map (ev_v w)).toList ++ st.map (ev_v w)))) t
    rw [e1]
    exact st1
  · obtain ⟨t, st1, q⟩ := kx k ce h' hQ' hce p e R s m args below meth c T'.heap locs' ls C' T' rfl X'
    exact ⟨t, (hstep _ hs).trans st1, q⟩
theorem ev_catsum (st : List Value) : ((st.map (ev_v w)).map fun v => v.category).sum = (st.map fun v => v.category).sum := by
  rw [List.map_map]
  congr 1
  apply List.map_congr_left
  intro v _
  exact ev_v_cat w v
/-- a static method -/
theorem ev_callS {d' : Nat × Nat} (ok : ev_ok w) (hM : ev_dec M = true) {idx : Nat} {M' : ev_M} {vs : List Value} {Q' : ev_R → ev_H → Prop} (hi : ev_ins M pc = some (.invokestatic idx, a, b)) (hm : ev_mw M' = true) (hl : ev_has (.methodLink M.1.cls idx M'.1) = true ∨ ev_has (.methodLinkNest M.1.cls idx M'.1 ev_host) = true) (hs' : ev_has (.static M'.1) = true)
    (hnp : ev_npar M'.1 vs.length = true) (hvn : vs.length ≤ M'.2.2.1) (hvs : ∀ v ∈ vs, v.category = 1) (hdf : d'.1 + 1 ≤ d.1) (hgs : (st.map fun v => v.category).sum + (M'.2.2.1 + 11) + d'.2 ≤ d.2) (K : ev_G w M' d' h Q' 0 (ev_L0 M'.2.2.1 vs) [] h)
    (kk : ∀ (v : Option Value) (h' : ev_H), Q' (.inl v) h' → ev_G w M d h0 Q (pc + 3) L (v.toList ++ st) h')
    (kx : ∀ (k ce : Nat) (h' : ev_H), Q' (.inr k) h' → h'[k]? = some (.inr (ce, [])) → ev_X w M d h0 Q pc L st h' k) : ev_G w M d h0 Q pc L (vs.reverse ++ st) h := by
  intro p e R s m args below meth c H locs ls C T hT X
  have hW := C.1.warm
  obtain ⟨mk, methk, ck, q1, q2, q3, q4, q5, q6, q7, q8, q9, q10, q11, q12, -⟩ := ev_mw_of ok hm hW args
  have hstatic : methk.isStatic = true := Cond.static_spec q1 q2 (ev_word ok hW hs' args)
  obtain ⟨kP, hkP, -⟩ := className_of_methodNamed q1
  have hinitP : kP.init = .initialized := Cond.initialized_spec (findClass_of_methodNamed q1) hkP q10
  have hst : (F0 m pc ls ((vs.reverse ++ st).map (ev_v w))).stack = (vs.map (ev_v w)).reverse ++ st.map (ev_v w) := by
    show (vs.reverse ++ st).map (ev_v w) = _
    rw [List.map_append, List.map_reverse]
  have hd : decode c.code (F0 m pc ls ((vs.reverse ++ st).map (ev_v w))).pc = .ok (.invokestatic idx, 3) := by rw [C.1.2.1]; exact ev_dec_at hM hi
  have hlen : (vs.map (ev_v w)).length = methk.sig.parameters.length := by rw [List.length_map]; exact ev_npar_of hnp q9
  have hlsz : ls.size = c.maxLocals := by rw [C.1.2.2.1]; exact C.2.2.2.2.2.1.1.1
  obtain ⟨vm1, X1, hstep⟩ : ∃ vm', Stand p w.1 e R s m args below meth c (T.setVm vm') locs (h.length - h0.length) (ev_cost h - ev_cost h0) ∧
      ∀ target, (∀ acts, Steps p.tables e below (doInvoke e ((T.setVm vm').setTop { (F0 m pc ls ((vs.reverse ++ st).map (ev_v w))) with stack := st.map (ev_v w) }) acts mk (vs.map (ev_v w)).toArray).1 target) → Steps p.tables e below (T.setTop (F0 m pc ls ((vs.reverse ++ st).map (ev_v w)))) target := by
    rcases hl with hl | hl
    · exact X.invokestatic C.1.1 C.1.own (ev_word ok hW hl args) q1 q2 hstatic hkP hinitP q12 rfl hlen hst hd
    · exact X.invokestaticNest C.1.1 C.1.own (ev_word ok hW hl args) q1 q2 hstatic hkP hinitP q12 rfl hlen hst hd
  have hr := ev_callee K hvs hvn hdf C (T := T.setVm vm1) hT X1 (g := F0 m pc ls (st.map (ev_v w))) rfl hlsz rfl hd (by rw [ev_catsum]; exact hgs) q1 q2 q3 q4 q5 q6 q7 q8 q11
  exact ev_goOn hr hstep kk kx
/-- a method of an object -/
theorem ev_callV {d' : Nat × Nat} (ok : ev_ok w) (hM : ev_dec M = true) {idx x ci : Nat} {q : vw_C} {fs : List Value} {M' : ev_M} {vs : List Value} {Q' : ev_R → ev_H → Prop} (hi : ev_ins M pc = some (.invokevirtual idx, a, b)) (hm : ev_mw M' = true) (hl : ev_has (.methodLink M.1.cls idx M'.1) = true ∨ ev_has (.methodLinkNest M.1.cls idx M'.1 ev_host) = true)
    (hin : ev_has (.instanceMethod M'.1) = true) (hsel : ev_has (.selects M'.1.cls M'.1 M'.1) = true) (hcell : h[x]? = some (.inr (ci, fs))) (hq : ev_cl[ci]? = some q) (hqn : q.1 = M'.1.cls)
    (hnp : ev_npar M'.1 vs.length = true) (hvn : vs.length + 1 ≤ M'.2.2.1) (hvs : ∀ v ∈ vs, v.category = 1) (hdf : d'.1 + 1 ≤ d.1) (hgs : (st.map fun v => v.category).sum + (M'.2.2.1 + 11) + d'.2 ≤ d.2) (K : ev_G w M' d' h Q' 0 (ev_L0 M'.2.2.1 (.ref x :: vs)) [] h)
    (kk : ∀ (v : Option Value) (h' : ev_H), Q' (.inl v) h' → ev_G w M d h0 Q (pc + 3) L (v.toList ++ st) h')
    (kx : ∀ (k ce : Nat) (h' : ev_H), Q' (.inr k) h' → h'[k]? = some (.inr (ce, [])) → ev_X w M d h0 Q pc L st h' k) : ev_G w M d h0 Q pc L (vs.reverse ++ .ref x :: st) h := by
  intro p e R s m args below meth c H locs ls C T hT X
  have hW := C.1.warm
  obtain ⟨mk, methk, ck, q1, q2, q3, q4, q5, q6, q7, q8, q9, q10, q11, q12, -⟩ := ev_mw_of ok hm hW args
  obtain ⟨mk2, methM, hnamed, hmethM, hstM, habM⟩ := Cond.instanceMethod_spec (ev_word ok hW hin args)
  cases q1.symm.trans hnamed
  cases q2.symm.trans hmethM
  obtain ⟨r0, hr0, cell, hcl1, hcl2, hcl3, -⟩ := C.2.2.2.1 x _ (ev_ws_get hcell)
  cases hq.symm.trans hr0
  have hK := va_K.moved hW.alike ok.2.1
  have hfc : s.vm.findClass q.1 = some cell.cls := by rw [hcl2]; exact (hK.1 ci q hq).2.1
  obtain ⟨c2, r2, m2, s1, s2, s3, s4, kP, hkP, hkPi⟩ := Cond.selects_spec (ev_word ok hW hsel args)
  rw [← hqn] at s1
  cases hfc.symm.trans s1
  cases (State.methodFound?_of_named q1 q12).symm.trans s2
  cases q1.symm.trans s3
  have hselP : selectMethod e.platform s.vm cell.cls mk = .method mk := by rw [Launch.admits_selectMethod X.admits]; exact s4
  have hst : (F0 m pc ls ((vs.reverse ++ .ref x :: st).map (ev_v w))).stack = (vs.map (ev_v w)).reverse ++ .ref (ev_base w + x) :: st.map (ev_v w) := by
    show (vs.reverse ++ .ref x :: st).map (ev_v w) = _
    rw [List.map_append, List.map_reverse]; rfl
  have hd : decode c.code (F0 m pc ls ((vs.reverse ++ .ref x :: st).map (ev_v w))).pc = .ok (.invokevirtual idx, 3) := by rw [C.1.2.1]; exact ev_dec_at hM hi
  have hlen : (vs.map (ev_v w)).length = methk.sig.parameters.length := by rw [List.length_map]; exact ev_npar_of hnp q9
  have hlsz : ls.size = c.maxLocals := by rw [C.1.2.2.1]; exact C.2.2.2.2.2.1.1.1
  have hcT : T.heap[ev_base w + x]? = some cell := by rw [hT]; exact hcl1
  obtain ⟨vm1, X1, hstep⟩ : ∃ vm', Stand p w.1 e R s m args below meth c (T.setVm vm') locs (h.length - h0.length) (ev_cost h - ev_cost h0) ∧
      ∀ target, (∀ acts, Steps p.tables e below (doInvoke e ((T.setVm vm').setTop { (F0 m pc ls ((vs.reverse ++ .ref x :: st).map (ev_v w))) with stack := st.map (ev_v w) }) acts mk (Value.ref (ev_base w + x) :: vs.map (ev_v w)).toArray).1 target) → Steps p.tables e below (T.setTop (F0 m pc ls ((vs.reverse ++ .ref x :: st).map (ev_v w)))) target := by
    rcases hl with hl | hl
    · exact X.invokevirtual C.1.1 C.1.own (ev_word ok hW hl args) q1 q2 hstM hkP hkPi q12 hcT (fun z hz => by rw [hcl3] at hz; cases hz) hselP q2 habM hkP hkPi rfl hlen hst hd
    · exact X.invokevirtualNest C.1.1 C.1.own (ev_word ok hW hl args) q1 q2 hstM hkP hkPi q12 hcT (fun z hz => by rw [hcl3] at hz; cases hz) hselP q2 habM hkP hkPi rfl hlen hst hd
  have hr := ev_callee (vs := .ref x :: vs) K (fun v hv => (List.mem_cons.mp hv).elim (fun e => by rw [e]; rfl) (hvs v)) (by rw [List.length_cons]; exact hvn) hdf C (T := T.setVm vm1) hT X1 (g := F0 m pc ls (st.map (ev_v w))) rfl hlsz rfl hd (by rw [ev_catsum]; exact hgs) q1 q2 q3 q4 q5 q6 q7 q8 q11
  exact ev_goOn hr hstep kk kx
/-- a constructor of ours -/
theorem ev_callI {d' : Nat × Nat} (ok : ev_ok w) (hM : ev_dec M = true) {idx x : Nat} {M' : ev_M} {vs : List Value} {Q' : ev_R → ev_H → Prop} (hi : ev_ins M pc = some (.invokespecial idx, a, b)) (hm : ev_mw M' = true) (hh : M'.2.2.2.2.1 = []) (hrn : M'.2.2.2.1 = none) (hl : ev_has (.methodLink M.1.cls idx M'.1) = true ∨ ev_has (.methodLinkNest M.1.cls idx M'.1 ev_host) = true)
    (hin : ev_has (.instanceMethod M'.1) = true) (hname : M'.1.name = "<init>")
    (hnp : ev_npar M'.1 vs.length = true) (hvn : vs.length + 1 ≤ M'.2.2.1) (hvs : ∀ v ∈ vs, v.category = 1) (hdf : d'.1 + 1 ≤ d.1) (hgs : (st.map fun v => v.category).sum + (M'.2.2.1 + 11) + d'.2 ≤ d.2) (K : ev_G w M' d' h Q' 0 (ev_L0 M'.2.2.1 (.ref x :: vs)) [] h)
    (kk : ∀ (v : Option Value) (h' : ev_H), Q' (.inl v) h' → ev_G w M d h0 Q (pc + 3) L (v.toList ++ st) h')
    (kx : ∀ (k ce : Nat) (h' : ev_H), Q' (.inr k) h' → h'[k]? = some (.inr (ce, [])) → ev_X w M d h0 Q pc L st h' k) : ev_G w M d h0 Q pc L (vs.reverse ++ .ref x :: st) h := by
  intro p e R s m args below meth c H locs ls C T hT X
  have hW := C.1.warm
  obtain ⟨mk, methk, ck, q1, q2, q3, q4, q5, q6, q7, q8, q9, q10, q11, q12, -⟩ := ev_mw_of ok hm hW args
  have hcode : (Cond.code M'.1 M'.2.1 M'.2.2.1 none).before args s = true := by
    have h1 := hm
    simp only [ev_mw, Bool.and_eq_true, hh, hrn] at h1
    exact ev_word ok hW h1.1.1.1.1 args
  have hpl : e.platform.magicAccessors = ({} : Platform).magicAccessors := by rw [X.admits.platform]
  have hst : (F0 m pc ls ((vs.reverse ++ .ref x :: st).map (ev_v w))).stack = (vs.map (ev_v w)).reverse ++ .ref (ev_base w + x) :: st.map (ev_v w) := by
    show (vs.reverse ++ .ref x :: st).map (ev_v w) = _
    rw [List.map_append, List.map_reverse]; rfl
  have hd : decode c.code (F0 m pc ls ((vs.reverse ++ .ref x :: st).map (ev_v w))).pc = .ok (.invokespecial idx, 3) := by rw [C.1.2.1]; exact ev_dec_at hM hi
  have hlen : ∀ sig, parseMethodDescriptor M'.1.desc = some sig → (vs.map (ev_v w)).length = sig.parameters.length := fun sig hsig => by rw [List.length_map]; exact ev_npar_of hnp hsig
  have hlsz : ls.size = c.maxLocals := by rw [C.1.2.2.1]; exact C.2.2.2.2.2.1.1.1
  obtain ⟨vm1, hW1, hstep⟩ : ∃ vm', s.WarmedH vm' ∧
      ∀ target, (∀ acts, Steps p.tables e below (doInvoke e ((T.setVm vm').setTop { (F0 m pc ls ((vs.reverse ++ .ref x :: st).map (ev_v w))) with stack := st.map (ev_v w) }) acts mk (Value.ref (ev_base w + x) :: vs.map (ev_v w)).toArray).1 target) → Steps p.tables e below (T.setTop (F0 m pc ls ((vs.reverse ++ .ref x :: st).map (ev_v w)))) target := by
    rcases hl with hl | hl
    · obtain ⟨mk2, -, -, -, vm1, z1, -, -, -, -, -, -, -, z2, z3⟩ := Steps.initColdArgs (e := e) X.here C.1.1 X.warmed hpl C.1.own hname q12 (ev_word ok hW hl args) (ev_word ok hW hin args) hcode (f := F0 m pc ls ((vs.reverse ++ .ref x :: st).map (ev_v w))) rfl hlen hst hd
      cases q1.symm.trans z1
      exact ⟨vm1, z2, z3⟩
    · obtain ⟨mk2, -, -, -, vm1, z1, -, -, -, -, -, -, -, z2, z3⟩ := Steps.initColdArgsNest (e := e) X.here C.1.1 X.warmed hpl C.1.own hname q12 (ev_word ok hW hl args) (ev_word ok hW hin args) hcode (f := F0 m pc ls ((vs.reverse ++ .ref x :: st).map (ev_v w))) rfl hlen hst hd
      cases q1.symm.trans z1
      exact ⟨vm1, z2, z3⟩
  have X1 := X.noted hW1
  have hr := ev_callee (vs := .ref x :: vs) K (fun v hv => (List.mem_cons.mp hv).elim (fun e => by rw [e]; rfl) (hvs v)) (by rw [List.length_cons]; exact hvn) hdf C (T := T.setVm vm1) hT X1 (g := F0 m pc ls (st.map (ev_v w))) rfl hlsz rfl hd (by rw [ev_catsum]; exact hgs) q1 q2 q3 q4 q5 q6 q7 q8 q11
  exact ev_goOn hr hstep kk kx
/-- Object's constructor -/
theorem ev_objInit (ok : ev_ok w) (hM : ev_dec M = true) {idx x : Nat} (hi : ev_ins M pc = some (.invokespecial idx, a, b)) (hl : ev_has (.methodLink M.1.cls idx Lib.objectInit) = true) (hin : ev_has (.instanceMethod Lib.objectInit) = true) (hc : ev_has (.code Lib.objectInit ⟨#[0xb1]⟩ 1 none) = true) (hdf : 1 ≤ d.1) (hgs : (st.map fun v => v.category).sum + 12 ≤ d.2)
    (kk : ev_G w M d h0 Q (pc + 3) L st h) : ev_G w M d h0 Q pc L (.ref x :: st) h := by
  intro p e R s m args below meth c H locs ls C
  have hW := C.1.warm
  obtain ⟨f1, f2, -, -⟩ := C.2.2.1
  have hlsz : ls.size = c.maxLocals := by rw [C.1.2.2.1]; exact C.2.2.2.2.2.1.1.1
  refine W.objInit C.1.1 C.1.2.1 C.1.own (ev_word ok hW hl args) (ev_word ok hW hin args) (ev_word ok hW hc args) rfl hlsz rfl (ev_dec_at hM hi) (by omega) ?_ (kk p e R s m args below meth c H locs ls C)
  show 2 * 0 + ((st.map (ev_v w)).map fun v => v.category).sum + 12 ≤ R.locals
  rw [ev_catsum]; omega
/-- what was thrown leaves the method -/
theorem ev_leaves {k ce : Nat} (hce : h[k]? = some (.inr (ce, []))) (hh : ∀ q ∈ M.2.2.2.2.1, (decide (q.1 ≤ pc) && decide (pc < q.2.1)) = false) (hQ : Q (.inr k) h) : ev_X w M d h0 Q pc L st h k := by
  intro p e R s m args below meth c H locs ls C T hT X
  have hsz := ev_size C hT X
  obtain ⟨st1, hrun, hend, hW, hsm⟩ := X.leaveThrown (ev_base w + k) (g := F0 m pc ls (st.map (ev_v w))) rfl rfl rfl (fun x hx => by
    have h1 := hh (x.startPc, x.endPc, x.handlerPc, x.catchType) (by rw [← C.1.2.2.2.2.2.2.2.1]; exact List.mem_map.mpr ⟨x, hx, rfl⟩)
    simpa [covers] using h1) C.1.2.2.2.2.1
  exact ⟨_, st1, .threw (ev_base w + k), hrun, hend, .inr k, h, hQ, ⟨rfl, ce, hce⟩, ev_rep_of C hsz hT, C.2.2.2.2.2.2.1, C.2.2.2.2.2.2.2.1, C.2.2.2.2.2.2.2.2.1, C.2.2.2.2.2.2.2.2.2, hW, locs, hsm, C.2.2.2.2.1.2.2⟩
end EvCall
