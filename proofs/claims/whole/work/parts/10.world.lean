/-! the small world: a heap that is a list; its k-th cell lies k behind the heap that the law was begun with -/
section EvWorld
abbrev ev_E : Type := (Nat × vp_A) ⊕ (Nat × List Value)
abbrev ev_H : Type := List ev_E
/-- launch, the law's first state, its arguments, the classes' numbers, the array classes' numbers, the script's address, how many cells and slots there may be in all, the script's length and numbers -/
abbrev ev_W : Type := Launch × State × Array Value × va_G × (Nat → ClassId) × Nat × Nat × Nat × Nat × (Nat → Int32)
/-- what a call comes to: a value or nothing, or the place of what it threw -/
abbrev ev_R : Type := Option Value ⊕ Nat
def ev_base (w : ev_W) : Nat := w.2.1.heap.size
def ev_A (w : ev_W) : Nat → Prop := fun q => ev_base w ≤ q
def ev_v (w : ev_W) (v : Value) : Value := match v with
  | .ref k => .ref (ev_base w + k)
  | .retAddr _ => .ref w.2.2.2.2.2.1
  | .int x => .int x
  | .long x => .long x
  | .float x => .float x
  | .double x => .double x
  | .null => .null
theorem ev_v_cat (w : ev_W) (v : Value) : (ev_v w v).category = v.category := by cases v <;> rfl
def ev_arr (w : ev_W) (x : vp_A) : vp_A := (x.1, match x.2 with
  | .inl f => .inl f
  | .inr (.inl f) => .inr (.inl f)
  | .inr (.inr (.inl f)) => .inr (.inr (.inl f))
  | .inr (.inr (.inr (.inl f))) => .inr (.inr (.inr (.inl f)))
  | .inr (.inr (.inr (.inr f))) => .inr (.inr (.inr (.inr (fun j => (f j).map (fun k => ev_base w + k))))))
def ev_e (w : ev_W) (x : ev_E) : va_E := match x with
  | .inl (k, a) => .inl (w.2.2.2.2.1 k, ev_arr w a)
  | .inr (c, fs) => .inr (c, fs.map (ev_v w))
def ev_ws (w : ev_W) (h : ev_H) : va_W := h.mapIdx (fun k x => (ev_base w + k, ev_e w x))
theorem ev_ws_len (w : ev_W) (h : ev_H) : (ev_ws w h).length = h.length := by simp [ev_ws]
theorem ev_ws_get {w : ev_W} {h : ev_H} {k : Nat} {x : ev_E} (hk : h[k]? = some x) : (ev_ws w h)[k]? = some (ev_base w + k, ev_e w x) := by
  simp [ev_ws, hk]
theorem ev_ws_at {w : ev_W} {h : ev_H} {k : Nat} {q : Nat × va_E} (hk : (ev_ws w h)[k]? = some q) : ∃ x, h[k]? = some x ∧ q = (ev_base w + k, ev_e w x) := by
  simp only [ev_ws, List.getElem?_mapIdx] at hk
  cases hx : h[k]? with
  | none => rw [hx] at hk; cases hk
  | some x => rw [hx] at hk; exact ⟨x, rfl, (Option.some.inj hk).symm⟩
theorem ev_ws_set (w : ev_W) (h : ev_H) (k : Nat) (x : ev_E) : ev_ws w (h.set k x) = (ev_ws w h).set k (ev_base w + k, ev_e w x) := by
  apply List.ext_getElem?
  intro i
  simp only [ev_ws, List.getElem?_mapIdx, List.getElem?_set, List.length_mapIdx]
  by_cases hik : k = i
  · subst hik
    by_cases hl : k < h.length
    · simp [hl]
    · simp [hl]
  · simp [hik]
theorem ev_ws_app (w : ev_W) (h : ev_H) (x : ev_E) : ev_ws w (h ++ [x]) = ev_ws w h ++ [(ev_base w + h.length, ev_e w x)] := by
  simp [ev_ws, List.mapIdx_append]
theorem ev_ws_D (w : ev_W) (h : ev_H) : va_D (ev_A w) (ev_ws w h) := by
  refine ⟨fun i j p q hi hj hpq => ?_, fun k q hk => ?_⟩
  · obtain ⟨x, -, rfl⟩ := ev_ws_at hi
    obtain ⟨y, -, rfl⟩ := ev_ws_at hj
    have h1 : ev_base w + i = ev_base w + j := hpq
    omega
  · obtain ⟨x, -, rfl⟩ := ev_ws_at hk
    show ev_base w ≤ ev_base w + k
    omega
/-- how many slots the cells have -/
def ev_c1 (x : ev_E) : Nat := match x with
  | .inl (_, a) => a.1
  | .inr (c, _) => ev_sz c
def ev_cost (h : ev_H) : Nat := (h.map ev_c1).sum
theorem ev_cost_app (h : ev_H) (x : ev_E) : ev_cost (h ++ [x]) = ev_cost h + ev_c1 x := by simp [ev_cost]
theorem ev_cost_set {h : ev_H} {k : Nat} {x y : ev_E} (hk : h[k]? = some x) (hc : ev_c1 y = ev_c1 x) : ev_cost (h.set k y) = ev_cost h := by
  induction h generalizing k with
  | nil => simp at hk
  | cons a t ih =>
    cases k with
    | zero =>
      simp only [List.getElem?_cons_zero, Option.some.injEq] at hk
      subst hk
      simp [ev_cost, hc]
    | succ k =>
      simp only [List.getElem?_cons_succ] at hk
      have h1 := ih hk
      simp only [ev_cost] at h1
      simp only [ev_cost, List.set_cons_succ, List.map_cons, List.sum_cons, h1]
/-- the heap H holds the small heap h, and nothing else is new -/
def ev_rep (w : ev_W) (h : ev_H) (H : Heap) : Prop :=
  va_P w.2.2.2.1 ev_cl (ev_ws w h) H ∧ H.size = ev_base w + h.length ∧ ∀ q : Nat, q < ev_base w → H[q]? = w.2.1.heap[q]?
/-- locals: what is known of them; all of one slot -/
def ev_lv (w : ev_W) (L : List (Option Value)) : List (Nat × Value) := (List.range L.length).filterMap (fun i => (L[i]?.join).map (fun v => (i, ev_v w v)))
theorem ev_lv_mem {w : ev_W} {L : List (Option Value)} {i : Nat} {v : Value} (h : L[i]? = some (some v)) : (i, ev_v w v) ∈ ev_lv w L := by
  refine List.mem_filterMap.mpr ⟨i, List.mem_range.mpr (List.getElem?_eq_some_iff.mp h).1, ?_⟩
  simp [h]
theorem ev_lv_of {w : ev_W} {L : List (Option Value)} {q : Nat × Value} (h : q ∈ ev_lv w L) : ∃ v, L[q.1]? = some (some v) ∧ q.2 = ev_v w v := by
  obtain ⟨i, -, hi⟩ := List.mem_filterMap.mp h
  cases hL : L[i]? with
  | none => simp [hL] at hi
  | some o =>
    cases o with
    | none => simp [hL] at hi
    | some v =>
      simp only [hL, Option.join_some, Option.map_some, Option.some.injEq] at hi
      subst hi
      exact ⟨v, hL, rfl⟩
def ev_ls (w : ev_W) (nL : Nat) (L : List (Option Value)) (ls : Array Slot) : Prop :=
  lv_has ls nL (ev_lv w L) ∧ ∀ (i : Nat) (v : Value), L[i]? = some (some v) → v.category = 1
theorem ev_ls.get {w : ev_W} {nL : Nat} {L : List (Option Value)} {ls : Array Slot} (h : ev_ls w nL L ls) {i : Nat} {v : Value} (hi : L[i]? = some (some v)) : ls[i]? = some (.val (ev_v w v)) :=
  h.1.2.2 _ (ev_lv_mem hi)
theorem ev_ls.put {w : ev_W} {nL : Nat} {L : List (Option Value)} {ls ls' : Array Slot} (h : ev_ls w nL L ls) {i : Nat} {v : Value} (hc : v.category = 1)
    (h' : lv_has ls' nL ((i, ev_v w v) :: (ev_lv w L).filter (fun q => !(q.1 == i) && !(q.1 + 1 == i && q.2.category == 2)))) : ev_ls w nL (L.set i (some v)) ls' := by
  have key : ∀ (j : Nat) (u : Value), (L.set i (some v))[j]? = some (some u) → (j = i ∧ u = v) ∨ (j ≠ i ∧ L[j]? = some (some u)) := by
    intro j u hj
    by_cases hji : i = j
    · subst hji
      rw [List.getElem?_set_self'] at hj
      cases hL : L[i]? with
      | none => rw [hL] at hj; cases hj
      | some o => rw [hL] at hj; simp at hj; exact Or.inl ⟨rfl, hj.symm⟩
    · rw [List.getElem?_set_ne hji] at hj
      exact Or.inr ⟨fun e => hji e.symm, hj⟩
  refine ⟨⟨h'.1, h'.2.1, fun q hq => ?_⟩, fun j u hj => ?_⟩
  · obtain ⟨u, hu, hq2⟩ := ev_lv_of hq
    obtain ⟨qi, qv⟩ := q
    dsimp only at hu hq2
    subst hq2
    rcases key qi u hu with ⟨rfl, rfl⟩ | ⟨hne, hL⟩
    · exact h'.2.2 _ List.mem_cons_self
    · refine h'.2.2 _ (List.mem_cons_of_mem _ (List.mem_filter.mpr ⟨ev_lv_mem hL, ?_⟩))
      have h1 : u.category = 1 := h.2 _ _ hL
      have h2 : (ev_v w u).category = 1 := by rw [ev_v_cat]; exact h1
      simp [hne, h2]
  · rcases key j u hj with ⟨rfl, rfl⟩ | ⟨hne, hL⟩
    · exact hc
    · exact h.2 _ _ hL
end EvWorld
