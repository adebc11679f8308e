/-! heaps that are alike within their arrays' bounds; the constructors, run -/
section EvCtor
def ev_sameb (x y : ev_E) : Bool := match x, y with
  | .inl (t, n, .inl f), .inl (t', n', .inl f') => decide (t = t') && decide (n = n') && (List.range n).all (fun j => decide (f j = f' j))
  | .inl (t, n, .inr (.inl f)), .inl (t', n', .inr (.inl f')) => decide (t = t') && decide (n = n') && (List.range n).all (fun j => decide (f j = f' j))
  | .inl (t, n, .inr (.inr (.inr (.inr f)))), .inl (t', n', .inr (.inr (.inr (.inr f')))) => decide (t = t') && decide (n = n') && (List.range n).all (fun j => decide (f j = f' j))
  | .inr (c, fs), .inr (c', fs') => decide (c = c') && decide (fs = fs')
  | _, _ => false
theorem ev_arrV_ext (cA : ClassId) (n : Nat) {f g : Nat → Value} (h : ∀ j, j < n → f j = g j) : arrV cA n f = arrV cA n g := by
  unfold arrV
  have e : (Array.ofFn (n := n) fun j => f j.val) = (Array.ofFn (n := n) fun j => g j.val) := by
    apply Array.ext
    · simp
    · intro j h1 h2
      simp only [Array.getElem_ofFn]
      exact h j (by simpa using h1)
  rw [e]
theorem ev_sameb_of {x y : ev_E} (h : ev_sameb x y = true) (w : ev_W) (D : va_G) (k : Nat) (H : Heap) : va_at D ev_cl (k, ev_e w y) H → va_at D ev_cl (k, ev_e w x) H := by
  unfold ev_sameb at h
  split at h
  · simp only [Bool.and_eq_true, decide_eq_true_eq, List.all_eq_true, List.mem_range] at h
    obtain ⟨⟨rfl, rfl⟩, h3⟩ := h
    intro hv
    exact hv.trans (congrArg some (ev_arrV_ext _ _ (fun j hj => congrArg Value.int (h3 j hj))).symm)
  · simp only [Bool.and_eq_true, decide_eq_true_eq, List.all_eq_true, List.mem_range] at h
    obtain ⟨⟨rfl, rfl⟩, h3⟩ := h
    intro hv
    exact hv.trans (congrArg some (ev_arrV_ext _ _ (fun j hj => congrArg Value.long (h3 j hj))).symm)
  · simp only [Bool.and_eq_true, decide_eq_true_eq, List.all_eq_true, List.mem_range] at h
    obtain ⟨⟨rfl, rfl⟩, h3⟩ := h
    intro hv
    exact hv.trans (congrArg some (ev_arrV_ext _ _ (fun j hj => congrArg (fun r => va_rf (Option.map (fun k => ev_base w + k) r)) (h3 j hj))).symm)
  · simp only [Bool.and_eq_true, decide_eq_true_eq] at h
    obtain ⟨rfl, rfl⟩ := h
    exact fun hv => hv
  · cases h
def ev_sameh : ev_H → ev_H → Bool
  | [], [] => true
  | x :: xs, y :: ys => ev_sameb x y && ev_sameh xs ys
  | _, _ => false
theorem ev_sameb_c1 {x y : ev_E} (h : ev_sameb x y = true) : ev_c1 x = ev_c1 y := by
  unfold ev_sameb at h
  split at h
  · simp only [Bool.and_eq_true, decide_eq_true_eq] at h
    obtain ⟨⟨rfl, rfl⟩, -⟩ := h
    rfl
  · simp only [Bool.and_eq_true, decide_eq_true_eq] at h
    obtain ⟨⟨rfl, rfl⟩, -⟩ := h
    rfl
  · simp only [Bool.and_eq_true, decide_eq_true_eq] at h
    obtain ⟨⟨rfl, rfl⟩, -⟩ := h
    rfl
  · simp only [Bool.and_eq_true, decide_eq_true_eq] at h
    obtain ⟨rfl, rfl⟩ := h
    rfl
  · cases h
theorem ev_sameh_of : ∀ {h h' : ev_H}, ev_sameh h h' = true → h.length = h'.length ∧ ev_cost h = ev_cost h' ∧ ∀ (k : Nat) (x y : ev_E), h[k]? = some x → h'[k]? = some y → ev_sameb x y = true
  | [], [], _ => ⟨rfl, rfl, fun k x y hx _ => by simp at hx⟩
  | [], _ :: _, hs => by cases hs
  | _ :: _, [], hs => by cases hs
  | x :: xs, y :: ys, hs => by
    simp only [ev_sameh, Bool.and_eq_true] at hs
    obtain ⟨e1, e2, e3⟩ := ev_sameh_of hs.2
    refine ⟨by simp [e1], ?_, fun k a b ha hb => ?_⟩
    · have h1 : ev_c1 x = ev_c1 y := ev_sameb_c1 hs.1
      have h2 : (xs.map ev_c1).sum = (ys.map ev_c1).sum := e2
      simp only [ev_cost, List.map_cons, List.sum_cons, h1, h2]
    · cases k with
      | zero =>
        simp only [List.getElem?_cons_zero, Option.some.injEq] at ha hb
        rw [← ha, ← hb]; exact hs.1
      | succ k => exact e3 k a b (by simpa using ha) (by simpa using hb)
/-- the machine sees no difference -/
theorem ev_G_like {w : ev_W} {M : ev_M} {d : Nat × Nat} {h0 h h' : ev_H} {Q : ev_R → ev_H → Prop} {pc : Nat} {L : List (Option Value)} {st : List Value} (hs : ev_sameh h' h = true) (k : ev_G w M d h0 Q pc L st h') : ev_G w M d h0 Q pc L st h := by
  obtain ⟨e1, e2, e3⟩ := ev_sameh_of hs
  intro p e R s m args below meth c H locs ls C
  obtain ⟨c1, c2, c3, c4, c5, c6, c7, c8, c9, c10⟩ := C
  have h1 := k p e R s m args below meth c H locs ls ⟨c1, c2, c3, fun i q hq => ?_, c5, c6, by rw [e1]; exact c7, by rw [e2]; exact c8, by rw [e1]; exact c9, by rw [e2]; exact c10⟩
  · rw [e1, e2] at h1
    exact h1
  · obtain ⟨x, hx, rfl⟩ := ev_ws_at hq
    have hlt : i < h.length := by rw [← e1]; exact (List.getElem?_eq_some_iff.mp hx).1
    exact ev_sameb_of (e3 i x _ hx (List.getElem?_eq_getElem hlt)) w _ _ H (c4 i _ (ev_ws_get (List.getElem?_eq_getElem hlt)))
/-- the bench's constructor, run -/
def ev_run1 : Bool := match ev_call (601024, 7293034) 5000 6 103 [.ref 0] [.inr (9, ev_dft ev_q9)] with
  | some (.inl none, h) => ev_sameh (ev_st1 ev_M0) h
  | _ => false
theorem ev_run1_ok : ev_run1 = true := by decide +kernel
/-- the reference's constructor, run behind it -/
def ev_run2 : Bool := match ev_call (601024, 7293034) 5000 6 135 [.ref 277] (ev_st1 ev_M0 ++ [.inr (10, ev_dft ev_q10)]) with
  | some (.inl none, h) => ev_sameh (ev_st ev_M0) h
  | _ => false
theorem ev_run2_ok : ev_run2 = true := by decide +kernel
end EvCtor
