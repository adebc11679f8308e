/-! the class's table: rebased, one more joined -/
section EvTable3
variable {w : ev_W} {Q : ev_QT} {m : ev_Mem} {t : ev_H}
def ab_fill (m : ev_Mem) (c n : Nat) (v : Int32) : ev_Mem := fun k j => if k = c ∧ j < n then v else m k j
/-- Arrays.fill -/
theorem ev_S2_211 {v : Int32} (A : ev_all w) (hQ : Q (.inl none) (ab_fill m 211 24 v) t) : ev_K w 2 [.ref 211, .int v] m t Q := by
  have hp : ev_prog[2]? = some ev_m2 := rfl
  have i24 : (Int32.ofNat 24).toInt = 24 := by decide
  have loop : ∀ (n i : Nat), i + n = 24 → ev_J w ev_m2 (ev_nd 2) Q 5 [some (.ref 211), some (.int v), some (.int (Int32.ofNat i)), some (.int (Int32.ofNat 24))] [] (ab_fill m 211 i v) t := by
    intro n
    induction n with
    | zero =>
      intro i hi
      have ei := ev_ofNat_i (n := i) (by omega)
      refine ev_gK A hp [] 10 ?_
      refine And.intro (fun h => ?_) (fun h => ?_)
      · have h24 : i = 24 := by omega
        rw [h24]
        exact hQ
      · have h2 : (Int32.ofNat i).toInt < (Int32.ofNat 24).toInt := h
        omega
    | succ n ih =>
      intro i hi
      have ei := ev_ofNat_i (n := i) (by omega)
      refine ev_gK A hp [5] 10 ?_
      refine And.intro (fun h => ?_) (fun h => ?_)
      · have h2 : (Int32.ofNat 24).toInt ≤ (Int32.ofNat i).toInt := h
        omega
      refine And.intro (ev_oin (by omega) (by decide)) ?_
      show ev_J w ev_m2 (ev_nd 2) Q 5 [some (.ref 211), some (.int v), some (.int (Int32.ofNat i + 1)), some (.int (Int32.ofNat 24))] [] (ev_up (ab_fill m 211 i v) 211 (Int32.ofNat i).toNatClampNeg v) t
      have e1 : ev_up (ab_fill m 211 i v) 211 i v = ab_fill m 211 (i + 1) v := by
        funext k j
        unfold ev_up ab_fill
        by_cases h1 : k = 211 ∧ j = i
        · rw [if_pos h1, if_pos ⟨h1.1, by omega⟩]
        · rw [if_neg h1]
          by_cases h2 : k = 211 ∧ j < i
          · rw [if_pos h2, if_pos ⟨h2.1, by omega⟩]
          · rw [if_neg h2, if_neg (fun q => h2 ⟨q.1, by have hne : j ≠ i := fun e => h1 ⟨q.1, e⟩; have := q.2; omega⟩)]
      rw [ev_on (by omega), ev_succ (by omega), e1]
      exact ih (i + 1) (by omega)
  refine ⟨Or.inl rfl, ev_m2, rfl, ev_gK A hp [5] 10 ?_⟩
  show ev_J w ev_m2 (ev_nd 2) Q 5 [some (.ref 211), some (.int v), some (.int (Int32.ofNat 0)), some (.int (Int32.ofNat 24))] [] m t
  have e0 : ab_fill m 211 0 v = m := by
    funext k j
    unfold ab_fill
    rw [if_neg (fun q => absurd q.2 (Nat.not_lt_zero _))]
  have h1 := loop 24 0 rfl
  rw [e0] at h1
  exact h1
/-- Arrays.fill -/
theorem ev_S2_269 {v : Int32} (A : ev_all w) (hQ : Q (.inl none) (ab_fill m 269 24 v) t) : ev_K w 2 [.ref 269, .int v] m t Q := by
  have hp : ev_prog[2]? = some ev_m2 := rfl
  have i24 : (Int32.ofNat 24).toInt = 24 := by decide
  have loop : ∀ (n i : Nat), i + n = 24 → ev_J w ev_m2 (ev_nd 2) Q 5 [some (.ref 269), some (.int v), some (.int (Int32.ofNat i)), some (.int (Int32.ofNat 24))] [] (ab_fill m 269 i v) t := by
    intro n
    induction n with
    | zero =>
      intro i hi
      have ei := ev_ofNat_i (n := i) (by omega)
      refine ev_gK A hp [] 10 ?_
      refine And.intro (fun h => ?_) (fun h => ?_)
      · have h24 : i = 24 := by omega
        rw [h24]
        exact hQ
      · have h2 : (Int32.ofNat i).toInt < (Int32.ofNat 24).toInt := h
        omega
    | succ n ih =>
      intro i hi
      have ei := ev_ofNat_i (n := i) (by omega)
      refine ev_gK A hp [5] 10 ?_
      refine And.intro (fun h => ?_) (fun h => ?_)
      · have h2 : (Int32.ofNat 24).toInt ≤ (Int32.ofNat i).toInt := h
        omega
      refine And.intro (ev_oin (by omega) (by decide)) ?_
      show ev_J w ev_m2 (ev_nd 2) Q 5 [some (.ref 269), some (.int v), some (.int (Int32.ofNat i + 1)), some (.int (Int32.ofNat 24))] [] (ev_up (ab_fill m 269 i v) 269 (Int32.ofNat i).toNatClampNeg v) t
      have e1 : ev_up (ab_fill m 269 i v) 269 i v = ab_fill m 269 (i + 1) v := by
        funext k j
        unfold ev_up ab_fill
        by_cases h1 : k = 269 ∧ j = i
        · rw [if_pos h1, if_pos ⟨h1.1, by omega⟩]
        · rw [if_neg h1]
          by_cases h2 : k = 269 ∧ j < i
          · rw [if_pos h2, if_pos ⟨h2.1, by omega⟩]
          · rw [if_neg h2, if_neg (fun q => h2 ⟨q.1, by have hne : j ≠ i := fun e => h1 ⟨q.1, e⟩; have := q.2; omega⟩)]
      rw [ev_on (by omega), ev_succ (by omega), e1]
      exact ih (i + 1) (by omega)
  refine ⟨Or.inl rfl, ev_m2, rfl, ev_gK A hp [5] 10 ?_⟩
  show ev_J w ev_m2 (ev_nd 2) Q 5 [some (.ref 269), some (.int v), some (.int (Int32.ofNat 0)), some (.int (Int32.ofNat 24))] [] m t
  have e0 : ab_fill m 269 0 v = m := by
    funext k j
    unfold ab_fill
    rw [if_neg (fun q => absurd q.2 (Nat.not_lt_zero _))]
  have h1 := loop 24 0 rfl
  rw [e0] at h1
  exact h1
/-- Table.rebase -/
theorem ev_S49 {x : Int32} (A : ev_all w) (hQ : Q (.inl none) (ab_fill (ev_up m 209 5 x) 211 24 (-1)) t) : ev_K w 49 [.ref 209, .int x] m t Q := by
  have hp : ev_prog[49]? = some ev_m49 := rfl
  refine ⟨Or.inr ⟨209, _, rfl, rfl⟩, ev_m49, rfl, ev_gK A hp [] 10 ?_⟩
  show ev_K w 2 [.ref 211, .int (-1)] (ev_up m 209 5 x) t _
  exact ev_S2_211 A hQ
/-- Table, its method 14: a witness is taken in -/
theorem ev_S44 {v n : Nat} {js : List Nat} {bs : Option Nat} (A : ev_all w) (t4 : (m 209 4).toInt = (js.length : Int)) (t5 : ∀ k, k < js.length → m 212 k = Int32.ofNat (js.getD k 0)) (t6 : m 209 5 = ab_oi bs) (hj : js.length < 4)
    (hQ : ∀ m', (∀ k j, ¬ (k = 209 ∨ k = 212) → m' k j = m k j) → (m' 209 2 = Int32.ofNat n) → ((m' 209 4).toInt = ((js ++ [v]).length : Int)) → (∀ k, k < (js ++ [v]).length → m' 212 k = Int32.ofNat ((js ++ [v]).getD k 0)) → m' 209 5 = ab_oi (if js = [] then some v else bs) → Q (.inl none) m' t) :
    ev_K w 44 [.ref 209, .int (Int32.ofNat v), .int (Int32.ofNat n)] m t Q := by
  have hp : ev_prog[44]? = some ev_m44 := rfl
  have e4 : m 209 4 = Int32.ofNat js.length := by
    apply ev_eq_of
    rw [t4, ev_ofNat_i (by omega)]
  have h12 : ∀ m1 : ev_Mem, (∀ k j, ¬ (k = 209 ∧ j = 5) → m1 k j = m k j) → m1 209 5 = ab_oi (if js = [] then some v else bs) → ev_J w ev_m44 (ev_nd 44) Q 12 [some (.ref 209), some (.int (Int32.ofNat v)), some (.int (Int32.ofNat n))] [] m1 t := by
    intro m1 hf hb
    have e41 : m1 209 4 = Int32.ofNat js.length := by rw [hf _ _ (by omega)]; exact e4
    refine ev_gK A hp [22] 10 ?_
    refine And.intro (by rw [e41]; exact ev_oin hj (by decide)) ?_
    show ev_J w ev_m44 (ev_nd 44) Q 22 [some (.ref 209), some (.int (Int32.ofNat v)), some (.int (Int32.ofNat n))] [] (ev_up m1 212 (m1 209 4).toNatClampNeg (Int32.ofNat v)) t
    rw [e41, ev_on (by omega)]
    refine ev_gK A hp [] 20 ?_
    show Q (.inl none) (ev_up (ev_up (ev_up m1 212 js.length (Int32.ofNat v)) 209 4 (ev_up m1 212 js.length (Int32.ofNat v) 209 4 + 1)) 209 2 (Int32.ofNat n)) t
    have e42 : ev_up m1 212 js.length (Int32.ofNat v) 209 4 = Int32.ofNat js.length := by rw [ev_up_cell _ (by decide)]; exact e41
    rw [e42, ev_succ (by omega)]
    refine hQ _ (fun k j hk => ?_) (ev_up_same _ _ _ _) ?_ (fun k hk => ?_) ?_
    · rw [ev_up_cell _ (by omega), ev_up_cell _ (by omega), ev_up_cell _ (by omega)]
      exact hf k j (by omega)
    · rw [ev_up_idx _ _ (by decide), ev_up_same, ev_ofNat_i (by omega), List.length_append, List.length_singleton]
    · rw [List.length_append, List.length_singleton] at hk
      rw [ev_up_cell _ (by decide), ev_up_cell _ (by decide)]
      by_cases hkl : k = js.length
      · rw [hkl, ev_up_same, List.getD_eq_getElem?_getD, List.getElem?_append_right (Nat.le_refl _), Nat.sub_self]
        rfl
      · rw [ev_up_idx _ _ hkl, hf _ _ (by omega), t5 k (by omega), List.getD_eq_getElem?_getD, List.getD_eq_getElem?_getD, List.getElem?_append_left (by omega)]
    · rw [ev_up_idx _ _ (by decide), ev_up_idx _ _ (by decide), ev_up_cell _ (by decide)]
      exact hb
  refine ⟨Or.inr ⟨209, _, rfl, rfl⟩, ev_m44, rfl, ev_gK A hp [12] 10 ?_⟩
  refine And.intro (fun h => ?_) (fun h => ?_)
  · have h2 : ¬ (m 209 4).toInt = 0 := h
    refine h12 m (fun _ _ _ => rfl) ?_
    rw [if_neg (fun q => h2 (by rw [t4, q]; rfl))]
    exact t6
  · have h2 : (m 209 4).toInt = 0 := h
    have h3 : js = [] := List.eq_nil_of_length_eq_zero (by omega)
    show ev_J w ev_m44 (ev_nd 44) Q 12 [some (.ref 209), some (.int (Int32.ofNat v)), some (.int (Int32.ofNat n))] [] (ev_up m 209 5 (Int32.ofNat v)) t
    refine h12 _ (fun k j hk => if_neg (fun q => hk q)) ?_
    rw [ev_up_same, if_pos h3]
    rfl
end EvTable3
