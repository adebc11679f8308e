/-! the rows that read and write the heap, and those that make cells -/
section EvHeap
def ev_Tg : List Cond := lw_tbl.filter ev_gw
theorem ev_has_mem {x : Cond} (hx : ev_has x = true) : x ∈ ev_Tg := List.mem_filter.mpr (ev_has_in hx)
def ev_tys (w : ev_W) : List (ClassId × FieldType) := [(w.2.2.2.2.1 0, .int), (w.2.2.2.2.1 1, .char), (w.2.2.2.2.1 2, .long), (w.2.2.2.2.1 3, .object ev_Let)]
/-- what is known of the world: the tables' words, the classes, no traces, the script -/
def ev_ok (w : ev_W) : Prop := (∀ x ∈ lw_tbl, x.before w.2.2.1 w.2.1 = true) ∧ va_K w.2.2.2.1 ev_cl (ev_tys w) w.2.1 ∧ w.1.stackTraces = false ∧
  va_X w.2.2.2.2.2.1 w.2.2.2.2.2.2.2.2.1 w.2.2.2.2.2.2.2.2.2 w.2.1 w.2.1.heap ∧ w.2.2.2.2.2.1 < w.2.1.heap.size
theorem ev_word {w : ev_W} (ok : ev_ok w) {s : State} (hW : w.2.1.WarmedH s.vm) {x : Cond} (hx : ev_has x = true) (args : Array Value) : x.before args s = true :=
  ev_gw_at hW (ev_has_in hx).2 (ok.1 x (ev_has_in hx).1)
theorem ev_hts {w : ev_W} (ok : ev_ok w) {s : State} (hW : w.2.1.WarmedH s.vm) {args : Array Value} : ∀ x ∈ ev_Tg, x.before args s = true := fun x hx =>
  ev_gw_at hW (List.mem_filter.mp hx).2 (ok.1 x (List.mem_filter.mp hx).1)
def ev_fty (q : vw_C) (k : Nat) : FieldType := (parseFieldDescriptor (q.2.1 k).2.2.1).getD .int
def ev_clq (q : vw_C) : Bool := (u_ws q.1 q.2.1 q.2.2).all ev_has && (List.range q.2.2).all (fun k => decide (parseFieldDescriptor (q.2.1 k).2.2.1 = some (ev_fty q k))) &&
  (List.range q.2.2).all (fun a => (List.range q.2.2).all (fun b => decide (a = b) || decide ((q.2.1 a).2.1 ≠ (q.2.1 b).2.1)))
theorem ev_clq_in {q : vw_C} (h : ev_clq q = true) : ∀ x ∈ u_ws q.1 q.2.1 q.2.2, x ∈ ev_Tg := by
  simp only [ev_clq, Bool.and_eq_true] at h
  exact fun x hx => ev_has_mem (List.all_eq_true.mp h.1.1 x hx)
theorem ev_clq_ty {q : vw_C} (h : ev_clq q = true) : ∀ k, k < q.2.2 → parseFieldDescriptor (q.2.1 k).2.2.1 = some (ev_fty q k) := by
  simp only [ev_clq, Bool.and_eq_true] at h
  exact fun k hk => of_decide_eq_true (List.all_eq_true.mp h.1.2 k (List.mem_range.mpr hk))
theorem ev_clq_nm {q : vw_C} (h : ev_clq q = true) : ∀ a, a < q.2.2 → ∀ b, b < q.2.2 → a ≠ b → (q.2.1 a).2.1 ≠ (q.2.1 b).2.1 := by
  simp only [ev_clq, Bool.and_eq_true] at h
  intro a ha b hb hne
  have h1 := List.all_eq_true.mp (List.all_eq_true.mp h.2 a (List.mem_range.mpr ha)) b (List.mem_range.mpr hb)
  simp only [Bool.or_eq_true, decide_eq_true_eq] at h1
  exact h1.resolve_left hne
theorem ev_cl_all : ev_cl.all ev_clq = true := by decide +kernel
end EvHeap
