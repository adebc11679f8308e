/-! the judgement: a frame of a method over a small heap comes to its end with Q; a row an instruction -/
section EvG
/-- name, bytes, locals, return type, handlers, and the listing: place, instruction, two numbers of its link -/
abbrev ev_M : Type := MethodName × ByteArray × Nat × Option FieldType × List (Nat × Nat × Nat × Nat) × List (Nat × Instr × Nat × Nat)
def ev_len (i : Instr) (a : Nat) : Nat := match i with
  | .bipush _ => 2 | .iload _ => 2 | .istore _ => 2 | .aload _ => 2 | .astore _ => 2 | .newarray _ => 2 | .ldc _ => 2
  | .ldc_w _ => 3 | .sipush _ => 3 | .iinc _ _ => 3 | .ifCond _ _ => 3 | .if_icmp _ _ => 3 | .goto _ => 3 | .getfield _ => 3 | .putfield _ => 3
  | .invokevirtual _ => 3 | .invokespecial _ => 3 | .invokestatic _ => 3 | .new _ => 3 | .anewarray _ => 3
  | .tableswitch _ _ _ _ => a
  | _ => 1
def ev_ins (M : ev_M) (pc : Nat) : Option (Instr × Nat × Nat) := (M.2.2.2.2.2.find? (fun q => q.1 == pc)).map (fun q => q.2)
def ev_dec (M : ev_M) : Bool := M.2.2.2.2.2.all (fun q => decide (decode M.2.1 q.1 = .ok (q.2.1, ev_len q.2.1 q.2.2.1)))
theorem ev_ins_mem {M : ev_M} {pc : Nat} {x : Instr × Nat × Nat} (hi : ev_ins M pc = some x) : (pc, x) ∈ M.2.2.2.2.2 := by
  unfold ev_ins at hi
  cases hf : M.2.2.2.2.2.find? (fun q => q.1 == pc) with
  | none => rw [hf] at hi; cases hi
  | some q =>
    rw [hf] at hi
    have h1 : q.1 = pc := by simpa using List.find?_some hf
    have h2 : q.2 = x := Option.some.inj hi
    have h3 : q = (pc, x) := by rw [← h1, ← h2]
    rw [← h3]
    exact List.mem_of_find?_eq_some hf
theorem ev_dec_at {M : ev_M} {pc : Nat} {i : Instr} {a b : Nat} (hM : ev_dec M = true) (hi : ev_ins M pc = some (i, a, b)) : decode M.2.1 pc = .ok (i, ev_len i a) := by
  have h := List.all_eq_true.mp hM _ (ev_ins_mem hi)
  exact of_decide_eq_true h
/-- what stays the same while a method runs -/
def ev_fx (w : ev_W) (M : ev_M) (p : Program) (s : State) (m : MethodId) (meth : Method) (c : Code) : Prop :=
  p.tables.exec = Jvm.exec ∧ c.code = M.2.1 ∧ c.maxLocals = M.2.2.1 ∧ meth.sig.returnType = M.2.2.2.1 ∧ meth.locks = false ∧ s.vm.findClass M.1.cls = some m.cls ∧ meth.name = M.1.name ∧
  c.exceptionTable.toList.map (fun h => (h.startPc, h.endPc, h.handlerPc, h.catchType)) = M.2.2.2.2.1 ∧ w.2.1.WarmedH s.vm
/-- the room of a method that needs d.1 frames and d.2 words, begun with the small heap h0 -/
def ev_fit (w : ev_W) (d : Nat × Nat) (h0 : ev_H) (R : Room) : Prop := d.1 ≤ R.frames ∧ d.2 ≤ R.locals ∧ w.2.2.2.2.2.2.1 ≤ h0.length + R.cells ∧ w.2.2.2.2.2.2.2.1 ≤ ev_cost h0 + R.slots
def ev_out (w : ev_W) (r : ev_R) (h' : ev_H) (o : Outcome) : Prop := match r with
  | .inl v => o = .returned (v.map (ev_v w))
  | .inr k => o = .threw (ev_base w + k) ∧ ∃ c, h'[k]? = some (.inr (c, []))
def ev_end (w : ev_W) (h0 : ev_H) (Q : ev_R → ev_H → Prop) (s : State) (o : Outcome) (t : State) : Prop :=
  ∃ (r : ev_R) (h' : ev_H), Q r h' ∧ ev_out w r h' o ∧ ev_rep w h' t.heap ∧ h0.length ≤ h'.length ∧ ev_cost h0 ≤ ev_cost h' ∧ h'.length ≤ w.2.2.2.2.2.2.1 ∧ ev_cost h' ≤ w.2.2.2.2.2.2.2.1 ∧ s.WarmedH t.vm ∧
    ∃ L : List Loc, s.sameButNew ({ t with vm := s.vm } : State) L (h'.length - h0.length) (ev_cost h' - ev_cost h0) ∧ ∀ z ∈ L, ev_A w z.base
def ev_PQ (w : ev_W) (h0 : ev_H) (Q : ev_R → ev_H → Prop) (below : List Frame) (s : State) : State → Prop := fun t =>
  ∃ o, t.status = .running ∧ Ended t below o ∧ ev_end w h0 Q s o t
def ev_cx (w : ev_W) (M : ev_M) (d : Nat × Nat) (h0 : ev_H) (p : Program) (R : Room) (s : State) (m : MethodId) (meth : Method) (c : Code) (h : ev_H) (H : Heap) (locs : List Loc) (L : List (Option Value)) (ls : Array Slot) : Prop :=
  ev_fx w M p s m meth c ∧ ev_rep w h0 s.heap ∧ ev_fit w d h0 R ∧ va_P w.2.2.2.1 ev_cl (ev_ws w h) H ∧ va_S (ev_A w) s.heap H locs ∧ ev_ls w M.2.2.1 L ls ∧ h0.length ≤ h.length ∧ ev_cost h0 ≤ ev_cost h ∧ h.length ≤ w.2.2.2.2.2.2.1 ∧ ev_cost h ≤ w.2.2.2.2.2.2.2.1
def ev_G (w : ev_W) (M : ev_M) (d : Nat × Nat) (h0 : ev_H) (Q : ev_R → ev_H → Prop) (pc : Nat) (L : List (Option Value)) (st : List Value) (h : ev_H) : Prop :=
  ∀ (p : Program) (e : Env) (R : Room) (s : State) (m : MethodId) (args : Array Value) (below : List Frame) (meth : Method) (c : Code) (H : Heap) (locs : List Loc) (ls : Array Slot),
    ev_cx w M d h0 p R s m meth c h H locs L ls →
    W p w.1 e R s m args below meth c H locs (h.length - h0.length) (ev_cost h - ev_cost h0) (ev_PQ w h0 Q below s) (F0 m pc ls (st.map (ev_v w)))
variable {w : ev_W} {M : ev_M} {d : Nat × Nat} {h0 : ev_H} {Q : ev_R → ev_H → Prop} {pc : Nat} {L : List (Option Value)} {st : List Value} {h : ev_H} {a b : Nat}
theorem ev_cx.stored {p : Program} {R : Room} {s : State} {m : MethodId} {meth : Method} {c : Code} {H : Heap} {locs : List Loc} {ls ls' : Array Slot} (C : ev_cx w M d h0 p R s m meth c h H locs L ls) {i : Nat} {v : Value} (hc : v.category = 1)
    (h' : lv_has ls' M.2.2.1 ((i, ev_v w v) :: (ev_lv w L).filter (fun q => !(q.1 == i) && !(q.1 + 1 == i && q.2.category == 2)))) : ev_cx w M d h0 p R s m meth c h H locs (L.set i (some v)) ls' := by
  obtain ⟨c1, c2, c3, c4, c5, c6, c7⟩ := C
  exact ⟨c1, c2, c3, c4, c5, c6.put hc h', c7⟩
theorem ev_iconst (hM : ev_dec M = true) {n : Int} (hi : ev_ins M pc = some (.iconst n, a, b)) (k : ev_G w M d h0 Q (pc + 1) L (.int (Int32.ofInt n) :: st) h) : ev_G w M d h0 Q pc L st h := by
  intro p e R s m args below meth c H locs ls C
  exact lv_iconst C.1.1 C.1.2.1 (ev_dec_at hM hi) rfl (k p e R s m args below meth c H locs ls C)
theorem ev_bipush (hM : ev_dec M = true) {n : Int} (hi : ev_ins M pc = some (.bipush n, a, b)) (k : ev_G w M d h0 Q (pc + 2) L (.int (Int8.ofInt n).toInt32 :: st) h) : ev_G w M d h0 Q pc L st h := by
  intro p e R s m args below meth c H locs ls C
  exact lv_bipush C.1.1 C.1.2.1 (ev_dec_at hM hi) rfl (k p e R s m args below meth c H locs ls C)
theorem ev_sipush (hM : ev_dec M = true) {n : Int} (hi : ev_ins M pc = some (.sipush n, a, b)) (k : ev_G w M d h0 Q (pc + 3) L (.int (Int16.ofInt n).toInt32 :: st) h) : ev_G w M d h0 Q pc L st h := by
  intro p e R s m args below meth c H locs ls C
  exact lv_sipush C.1.1 C.1.2.1 (ev_dec_at hM hi) rfl (k p e R s m args below meth c H locs ls C)
theorem ev_iload_n (hM : ev_dec M = true) {i : Fin 4} {x : Int32} (hi : ev_ins M pc = some (.iload_n i, a, b)) (hl : L[(i : Nat)]? = some (some (.int x))) (k : ev_G w M d h0 Q (pc + 1) L (.int x :: st) h) : ev_G w M d h0 Q pc L st h := by
  intro p e R s m args below meth c H locs ls C
  exact lv_iload_n C.1.1 C.1.2.1 (ev_dec_at hM hi) rfl (C.2.2.2.2.2.1.get hl) (k p e R s m args below meth c H locs ls C)
theorem ev_iload (hM : ev_dec M = true) {i : Nat} {x : Int32} (hi : ev_ins M pc = some (.iload i, a, b)) (hl : L[i]? = some (some (.int x))) (k : ev_G w M d h0 Q (pc + 2) L (.int x :: st) h) : ev_G w M d h0 Q pc L st h := by
  intro p e R s m args below meth c H locs ls C
  exact lv_iload C.1.1 C.1.2.1 (ev_dec_at hM hi) (C.2.2.2.2.2.1.get hl) (k p e R s m args below meth c H locs ls C)
theorem ev_aload_n (hM : ev_dec M = true) {i : Fin 4} {x : Nat} (hi : ev_ins M pc = some (.aload_n i, a, b)) (hl : L[(i : Nat)]? = some (some (.ref x))) (k : ev_G w M d h0 Q (pc + 1) L (.ref x :: st) h) : ev_G w M d h0 Q pc L st h := by
  intro p e R s m args below meth c H locs ls C
  exact lv_aload_n C.1.1 C.1.2.1 (ev_dec_at hM hi) rfl (C.2.2.2.2.2.1.get hl) (k p e R s m args below meth c H locs ls C)
theorem ev_aload (hM : ev_dec M = true) {i : Nat} {x : Nat} (hi : ev_ins M pc = some (.aload i, a, b)) (hl : L[i]? = some (some (.ref x))) (k : ev_G w M d h0 Q (pc + 2) L (.ref x :: st) h) : ev_G w M d h0 Q pc L st h := by
  intro p e R s m args below meth c H locs ls C
  exact lv_aload C.1.1 C.1.2.1 (ev_dec_at hM hi) (C.2.2.2.2.2.1.get hl) (k p e R s m args below meth c H locs ls C)
theorem ev_aload_nS (hM : ev_dec M = true) {i : Fin 4} {x : Nat} (hi : ev_ins M pc = some (.aload_n i, a, b)) (hl : L[(i : Nat)]? = some (some (.retAddr x))) (k : ev_G w M d h0 Q (pc + 1) L (.retAddr x :: st) h) : ev_G w M d h0 Q pc L st h := by
  intro p e R s m args below meth c H locs ls C
  exact lv_aload_n C.1.1 C.1.2.1 (ev_dec_at hM hi) rfl (C.2.2.2.2.2.1.get hl) (k p e R s m args below meth c H locs ls C)
theorem ev_aloadS (hM : ev_dec M = true) {i : Nat} {x : Nat} (hi : ev_ins M pc = some (.aload i, a, b)) (hl : L[i]? = some (some (.retAddr x))) (k : ev_G w M d h0 Q (pc + 2) L (.retAddr x :: st) h) : ev_G w M d h0 Q pc L st h := by
  intro p e R s m args below meth c H locs ls C
  exact lv_aload C.1.1 C.1.2.1 (ev_dec_at hM hi) (C.2.2.2.2.2.1.get hl) (k p e R s m args below meth c H locs ls C)
theorem ev_istore_n (hM : ev_dec M = true) {i : Fin 4} {x : Int32} (hi : ev_ins M pc = some (.istore_n i, a, b)) (hn : (i : Nat) < M.2.2.1) (k : ev_G w M d h0 Q (pc + 1) (L.set (i : Nat) (some (.int x))) st h) : ev_G w M d h0 Q pc L (.int x :: st) h := by
  intro p e R s m args below meth c H locs ls C
  exact lv_istore_n C.1.1 C.1.2.1 (ev_dec_at hM hi) rfl C.2.2.2.2.2.1.1 hn rfl (fun ls' h' => k p e R s m args below meth c H locs ls' (C.stored (v := .int x) rfl h'))
theorem ev_istore (hM : ev_dec M = true) {i : Nat} {x : Int32} (hi : ev_ins M pc = some (.istore i, a, b)) (hn : i < M.2.2.1) (k : ev_G w M d h0 Q (pc + 2) (L.set i (some (.int x))) st h) : ev_G w M d h0 Q pc L (.int x :: st) h := by
  intro p e R s m args below meth c H locs ls C
  exact lv_istore C.1.1 C.1.2.1 (ev_dec_at hM hi) C.2.2.2.2.2.1.1 hn rfl (fun ls' h' => k p e R s m args below meth c H locs ls' (C.stored (v := .int x) rfl h'))
theorem ev_astore_n (hM : ev_dec M = true) {i : Fin 4} {x : Nat} (hi : ev_ins M pc = some (.astore_n i, a, b)) (hn : (i : Nat) < M.2.2.1) (k : ev_G w M d h0 Q (pc + 1) (L.set (i : Nat) (some (.ref x))) st h) : ev_G w M d h0 Q pc L (.ref x :: st) h := by
  intro p e R s m args below meth c H locs ls C
  exact lv_astore_n C.1.1 C.1.2.1 (ev_dec_at hM hi) rfl C.2.2.2.2.2.1.1 hn rfl (fun ls' h' => k p e R s m args below meth c H locs ls' (C.stored (v := .ref x) rfl h'))
theorem ev_astore (hM : ev_dec M = true) {i : Nat} {x : Nat} (hi : ev_ins M pc = some (.astore i, a, b)) (hn : i < M.2.2.1) (k : ev_G w M d h0 Q (pc + 2) (L.set i (some (.ref x))) st h) : ev_G w M d h0 Q pc L (.ref x :: st) h := by
  intro p e R s m args below meth c H locs ls C
  exact lv_astore C.1.1 C.1.2.1 (ev_dec_at hM hi) C.2.2.2.2.2.1.1 hn rfl (fun ls' h' => k p e R s m args below meth c H locs ls' (C.stored (v := .ref x) rfl h'))
theorem ev_astore_nS (hM : ev_dec M = true) {i : Fin 4} {x : Nat} (hi : ev_ins M pc = some (.astore_n i, a, b)) (hn : (i : Nat) < M.2.2.1) (k : ev_G w M d h0 Q (pc + 1) (L.set (i : Nat) (some (.retAddr x))) st h) : ev_G w M d h0 Q pc L (.retAddr x :: st) h := by
  intro p e R s m args below meth c H locs ls C
  exact lv_astore_n C.1.1 C.1.2.1 (ev_dec_at hM hi) rfl C.2.2.2.2.2.1.1 hn rfl (fun ls' h' => k p e R s m args below meth c H locs ls' (C.stored (v := .retAddr x) rfl h'))
theorem ev_astoreS (hM : ev_dec M = true) {i : Nat} {x : Nat} (hi : ev_ins M pc = some (.astore i, a, b)) (hn : i < M.2.2.1) (k : ev_G w M d h0 Q (pc + 2) (L.set i (some (.retAddr x))) st h) : ev_G w M d h0 Q pc L (.retAddr x :: st) h := by
  intro p e R s m args below meth c H locs ls C
  exact lv_astore C.1.1 C.1.2.1 (ev_dec_at hM hi) C.2.2.2.2.2.1.1 hn rfl (fun ls' h' => k p e R s m args below meth c H locs ls' (C.stored (v := .retAddr x) rfl h'))
theorem ev_iinc (hM : ev_dec M = true) {i : Nat} {n : Int} {x : Int32} (hi : ev_ins M pc = some (.iinc i n, a, b)) (hl : L[i]? = some (some (.int x))) (hn : i < M.2.2.1) (k : ev_G w M d h0 Q (pc + 3) (L.set i (some (.int (x + Int32.ofInt n)))) st h) : ev_G w M d h0 Q pc L st h := by
  intro p e R s m args below meth c H locs ls C
  obtain ⟨j, hj⟩ := List.getElem?_of_mem (ev_lv_mem (w := w) hl)
  exact lv_iinc (k := j) (x := x) C.1.1 C.1.2.1 (ev_dec_at hM hi) C.2.2.2.2.2.1.1 hj rfl hn rfl (fun ls' h' => k p e R s m args below meth c H locs ls' (C.stored (v := .int (x + Int32.ofInt n)) rfl h'))
theorem ev_iadd (hM : ev_dec M = true) {x y : Int32} (hi : ev_ins M pc = some (.iadd, a, b)) (k : ev_G w M d h0 Q (pc + 1) L (.int (x + y) :: st) h) : ev_G w M d h0 Q pc L (.int y :: .int x :: st) h := by
  intro p e R s m args below meth c H locs ls C
  exact lv_iadd C.1.1 C.1.2.1 (ev_dec_at hM hi) (k p e R s m args below meth c H locs ls C)
theorem ev_isub (hM : ev_dec M = true) {x y : Int32} (hi : ev_ins M pc = some (.isub, a, b)) (k : ev_G w M d h0 Q (pc + 1) L (.int (x - y) :: st) h) : ev_G w M d h0 Q pc L (.int y :: .int x :: st) h := by
  intro p e R s m args below meth c H locs ls C
  exact lv_isub C.1.1 C.1.2.1 (ev_dec_at hM hi) (k p e R s m args below meth c H locs ls C)
theorem ev_imul (hM : ev_dec M = true) {x y : Int32} (hi : ev_ins M pc = some (.imul, a, b)) (k : ev_G w M d h0 Q (pc + 1) L (.int (x * y) :: st) h) : ev_G w M d h0 Q pc L (.int y :: .int x :: st) h := by
  intro p e R s m args below meth c H locs ls C
  exact lv_imul C.1.1 C.1.2.1 (ev_dec_at hM hi) (k p e R s m args below meth c H locs ls C)
theorem ev_iand (hM : ev_dec M = true) {x y : Int32} (hi : ev_ins M pc = some (.iand, a, b)) (k : ev_G w M d h0 Q (pc + 1) L (.int (x &&& y) :: st) h) : ev_G w M d h0 Q pc L (.int y :: .int x :: st) h := by
  intro p e R s m args below meth c H locs ls C
  exact lv_iand C.1.1 C.1.2.1 (ev_dec_at hM hi) (k p e R s m args below meth c H locs ls C)
theorem ev_ior (hM : ev_dec M = true) {x y : Int32} (hi : ev_ins M pc = some (.ior, a, b)) (k : ev_G w M d h0 Q (pc + 1) L (.int (x ||| y) :: st) h) : ev_G w M d h0 Q pc L (.int y :: .int x :: st) h := by
  intro p e R s m args below meth c H locs ls C
  exact lv_ior C.1.1 C.1.2.1 (ev_dec_at hM hi) (k p e R s m args below meth c H locs ls C)
theorem ev_ishl (hM : ev_dec M = true) {x y : Int32} (hi : ev_ins M pc = some (.ishl, a, b)) (k : ev_G w M d h0 Q (pc + 1) L (.int (x <<< (y &&& 31)) :: st) h) : ev_G w M d h0 Q pc L (.int y :: .int x :: st) h := by
  intro p e R s m args below meth c H locs ls C
  exact lv_ishl C.1.1 C.1.2.1 (ev_dec_at hM hi) (k p e R s m args below meth c H locs ls C)
theorem ev_ishr (hM : ev_dec M = true) {x y : Int32} (hi : ev_ins M pc = some (.ishr, a, b)) (k : ev_G w M d h0 Q (pc + 1) L (.int (x >>> (y &&& 31)) :: st) h) : ev_G w M d h0 Q pc L (.int y :: .int x :: st) h := by
  intro p e R s m args below meth c H locs ls C
  exact lv_ishr C.1.1 C.1.2.1 (ev_dec_at hM hi) (k p e R s m args below meth c H locs ls C)
theorem ev_idiv (hM : ev_dec M = true) {x y : Int32} (hi : ev_ins M pc = some (.idiv, a, b)) (hne : ¬ y = 0) (k : ev_G w M d h0 Q (pc + 1) L (.int (x / y) :: st) h) : ev_G w M d h0 Q pc L (.int y :: .int x :: st) h := by
  intro p e R s m args below meth c H locs ls C
  exact lv_idiv C.1.1 C.1.2.1 (ev_dec_at hM hi) hne (k p e R s m args below meth c H locs ls C)
theorem ev_irem (hM : ev_dec M = true) {x y : Int32} (hi : ev_ins M pc = some (.irem, a, b)) (hne : ¬ y = 0) (k : ev_G w M d h0 Q (pc + 1) L (.int (x - x / y * y) :: st) h) : ev_G w M d h0 Q pc L (.int y :: .int x :: st) h := by
  intro p e R s m args below meth c H locs ls C
  exact lv_irem C.1.1 C.1.2.1 (ev_dec_at hM hi) hne (k p e R s m args below meth c H locs ls C)
theorem ev_ineg (hM : ev_dec M = true) {x : Int32} (hi : ev_ins M pc = some (.ineg, a, b)) (k : ev_G w M d h0 Q (pc + 1) L (.int (-x) :: st) h) : ev_G w M d h0 Q pc L (.int x :: st) h := by
  intro p e R s m args below meth c H locs ls C
  exact lv_ineg C.1.1 C.1.2.1 (ev_dec_at hM hi) (k p e R s m args below meth c H locs ls C)
theorem ev_i2c (hM : ev_dec M = true) {x : Int32} (hi : ev_ins M pc = some (.i2c, a, b)) (k : ev_G w M d h0 Q (pc + 1) L (.int (x.toUInt32 % 65536).toInt32 :: st) h) : ev_G w M d h0 Q pc L (.int x :: st) h := by
  intro p e R s m args below meth c H locs ls C
  exact lv_i2c C.1.1 C.1.2.1 (ev_dec_at hM hi) rfl (k p e R s m args below meth c H locs ls C)
theorem ev_i2l (hM : ev_dec M = true) {x : Int32} (hi : ev_ins M pc = some (.i2l, a, b)) (k : ev_G w M d h0 Q (pc + 1) L (.long x.toInt64 :: st) h) : ev_G w M d h0 Q pc L (.int x :: st) h := by
  intro p e R s m args below meth c H locs ls C
  exact lv_i2l C.1.1 C.1.2.1 (ev_dec_at hM hi) rfl (k p e R s m args below meth c H locs ls C)
theorem ev_lcmp (hM : ev_dec M = true) {x y : Int64} (hi : ev_ins M pc = some (.lcmp, a, b)) (k : ev_G w M d h0 Q (pc + 1) L (.int (lg_cmp x y) :: st) h) : ev_G w M d h0 Q pc L (.long y :: .long x :: st) h := by
  intro p e R s m args below meth c H locs ls C
  exact W.lcmp C.1.1 C.1.2.1 (ev_dec_at hM hi) (k p e R s m args below meth c H locs ls C)
theorem ev_dup (hM : ev_dec M = true) {v : Value} (hi : ev_ins M pc = some (.dup, a, b)) (hv : v.category = 1) (k : ev_G w M d h0 Q (pc + 1) L (v :: v :: st) h) : ev_G w M d h0 Q pc L (v :: st) h := by
  intro p e R s m args below meth c H locs ls C
  exact lv_dup C.1.1 C.1.2.1 (ev_dec_at hM hi) ((ev_v_cat w v).trans hv) (k p e R s m args below meth c H locs ls C)
theorem ev_pop (hM : ev_dec M = true) {v : Value} (hi : ev_ins M pc = some (.pop, a, b)) (hv : v.category = 1) (k : ev_G w M d h0 Q (pc + 1) L st h) : ev_G w M d h0 Q pc L (v :: st) h := by
  intro p e R s m args below meth c H locs ls C
  exact lv_pop C.1.1 C.1.2.1 (ev_dec_at hM hi) ((ev_v_cat w v).trans hv) (k p e R s m args below meth c H locs ls C)
theorem ev_dup_x1 (hM : ev_dec M = true) {v u : Value} (hi : ev_ins M pc = some (.dup_x1, a, b)) (hv : v.category = 1) (hu : u.category = 1) (k : ev_G w M d h0 Q (pc + 1) L (v :: u :: v :: st) h) : ev_G w M d h0 Q pc L (v :: u :: st) h := by
  intro p e R s m args below meth c H locs ls C
  exact lv_dup_x1 C.1.1 C.1.2.1 (ev_dec_at hM hi) ((ev_v_cat w v).trans hv) ((ev_v_cat w u).trans hu) (k p e R s m args below meth c H locs ls C)
theorem ev_dup2 (hM : ev_dec M = true) {v u : Value} (hi : ev_ins M pc = some (.dup2, a, b)) (hv : v.category = 1) (hu : u.category = 1) (k : ev_G w M d h0 Q (pc + 1) L (v :: u :: v :: u :: st) h) : ev_G w M d h0 Q pc L (v :: u :: st) h := by
  intro p e R s m args below meth c H locs ls C
  exact lv_dup2_11 C.1.1 C.1.2.1 (ev_dec_at hM hi) ((ev_v_cat w v).trans hv) ((ev_v_cat w u).trans hu) (k p e R s m args below meth c H locs ls C)
/-- the conditions of the branches -/
def ev_c0 (c : Jvm.ClassFile.Cond) (x : Int32) : Bool := match c with
  | .eq => decide (x = 0) | .ne => decide (¬ x = 0) | .lt => decide (x < 0) | .ge => decide (0 ≤ x) | .gt => decide (0 < x) | .le => decide (x ≤ 0)
def ev_c2 (c : Jvm.ClassFile.Cond) (x y : Int32) : Bool := match c with
  | .eq => decide (x = y) | .ne => decide (¬ x = y) | .lt => decide (x < y) | .ge => decide (y ≤ x) | .gt => decide (y < x) | .le => decide (x ≤ y)
theorem ev_goto (hM : ev_dec M = true) {off : Int} {tgt : Nat} (hi : ev_ins M pc = some (.goto off, a, b)) (ht : (pc : Int) + off = (tgt : Int)) (k : ev_G w M d h0 Q tgt L st h) : ev_G w M d h0 Q pc L st h := by
  intro p e R s m args below meth c H locs ls C
  exact lv_goto C.1.1 C.1.2.1 (ev_dec_at hM hi) ht (k p e R s m args below meth c H locs ls C)
theorem ev_if (hM : ev_dec M = true) {x : Int32} {cd : Jvm.ClassFile.Cond} {off : Int} {tgt : Nat} (hi : ev_ins M pc = some (.ifCond cd off, a, b)) (ht : (pc : Int) + off = (tgt : Int)) (kt : ev_c0 cd x = true → ev_G w M d h0 Q tgt L st h) (kf : ev_c0 cd x = false → ev_G w M d h0 Q (pc + 3) L st h) : ev_G w M d h0 Q pc L (.int x :: st) h := by
  intro p e R s m args below meth c H locs ls C
  cases cd
  · exact lv_if_eq C.1.1 C.1.2.1 (ev_dec_at hM hi) ht (fun q => kt (decide_eq_true q) p e R s m args below meth c H locs ls C) (fun q => kf (decide_eq_false q) p e R s m args below meth c H locs ls C)
  · exact lv_if_ne C.1.1 C.1.2.1 (ev_dec_at hM hi) ht (fun q => kt (decide_eq_true q) p e R s m args below meth c H locs ls C) (fun q => kf (decide_eq_false (fun z => z q)) p e R s m args below meth c H locs ls C)
  · exact lv_if_lt C.1.1 C.1.2.1 (ev_dec_at hM hi) ht (fun q => kt (decide_eq_true q) p e R s m args below meth c H locs ls C) (fun q => kf (decide_eq_false q) p e R s m args below meth c H locs ls C)
  · exact lv_if_ge C.1.1 C.1.2.1 (ev_dec_at hM hi) ht (fun q => kt (decide_eq_true q) p e R s m args below meth c H locs ls C) (fun q => kf (decide_eq_false q) p e R s m args below meth c H locs ls C)
  · exact lv_if_gt C.1.1 C.1.2.1 (ev_dec_at hM hi) ht (fun q => kt (decide_eq_true q) p e R s m args below meth c H locs ls C) (fun q => kf (decide_eq_false q) p e R s m args below meth c H locs ls C)
  · exact lv_if_le C.1.1 C.1.2.1 (ev_dec_at hM hi) ht (fun q => kt (decide_eq_true q) p e R s m args below meth c H locs ls C) (fun q => kf (decide_eq_false q) p e R s m args below meth c H locs ls C)
theorem ev_icmp (hM : ev_dec M = true) {x y : Int32} {cd : Jvm.ClassFile.Cond} {off : Int} {tgt : Nat} (hi : ev_ins M pc = some (.if_icmp cd off, a, b)) (ht : (pc : Int) + off = (tgt : Int)) (kt : ev_c2 cd x y = true → ev_G w M d h0 Q tgt L st h) (kf : ev_c2 cd x y = false → ev_G w M d h0 Q (pc + 3) L st h) : ev_G w M d h0 Q pc L (.int y :: .int x :: st) h := by
  intro p e R s m args below meth c H locs ls C
  cases cd
  · exact lv_icmp_eq C.1.1 C.1.2.1 (ev_dec_at hM hi) ht (fun q => kt (decide_eq_true q) p e R s m args below meth c H locs ls C) (fun q => kf (decide_eq_false q) p e R s m args below meth c H locs ls C)
  · exact lv_icmp_ne C.1.1 C.1.2.1 (ev_dec_at hM hi) ht (fun q => kt (decide_eq_true q) p e R s m args below meth c H locs ls C) (fun q => kf (decide_eq_false (fun z => z q)) p e R s m args below meth c H locs ls C)
  · exact lv_icmp_lt C.1.1 C.1.2.1 (ev_dec_at hM hi) ht (fun q => kt (decide_eq_true q) p e R s m args below meth c H locs ls C) (fun q => kf (decide_eq_false q) p e R s m args below meth c H locs ls C)
  · exact lv_icmp_ge C.1.1 C.1.2.1 (ev_dec_at hM hi) ht (fun q => kt (decide_eq_true q) p e R s m args below meth c H locs ls C) (fun q => kf (decide_eq_false q) p e R s m args below meth c H locs ls C)
  · exact lv_icmp_gt C.1.1 C.1.2.1 (ev_dec_at hM hi) ht (fun q => kt (decide_eq_true q) p e R s m args below meth c H locs ls C) (fun q => kf (decide_eq_false q) p e R s m args below meth c H locs ls C)
  · exact lv_icmp_le C.1.1 C.1.2.1 (ev_dec_at hM hi) ht (fun q => kt (decide_eq_true q) p e R s m args below meth c H locs ls C) (fun q => kf (decide_eq_false q) p e R s m args below meth c H locs ls C)
theorem ev_tableIn (hM : ev_dec M = true) {x : Int32} {dflt lo hi' off : Int} {offs : Array Int} {tgt : Nat} (hi : ev_ins M pc = some (.tableswitch dflt lo hi' offs, a, b)) (h1 : ¬ x.toInt < lo) (h2 : ¬ hi' < x.toInt) (ho : offs[(x.toInt - lo).toNat]? = some off) (ht : (pc : Int) + off = (tgt : Int)) (k : ev_G w M d h0 Q tgt L st h) : ev_G w M d h0 Q pc L (.int x :: st) h := by
  intro p e R s m args below meth c H locs ls C
  exact lv_tableIn C.1.1 C.1.2.1 (ev_dec_at hM hi) h1 h2 ho ht (k p e R s m args below meth c H locs ls C)
theorem ev_tableOut (hM : ev_dec M = true) {x : Int32} {dflt lo hi' : Int} {offs : Array Int} {tgt : Nat} (hi : ev_ins M pc = some (.tableswitch dflt lo hi' offs, a, b)) (h1 : x.toInt < lo ∨ hi' < x.toInt) (ht : (pc : Int) + dflt = (tgt : Int)) (k : ev_G w M d h0 Q tgt L st h) : ev_G w M d h0 Q pc L (.int x :: st) h := by
  intro p e R s m args below meth c H locs ls C
  exact lv_tableOut C.1.1 C.1.2.1 (ev_dec_at hM hi) h1 ht (k p e R s m args below meth c H locs ls C)
end EvG
