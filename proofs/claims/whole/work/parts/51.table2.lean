/-! the class's table: places set and searched -/
section EvTable2
variable {w : ev_W} {Q : ev_QT} {m : ev_Mem} {t : ev_H}
theorem ev_i4 : (Int32.ofInt 4).toInt = 4 := by decide
/-- the first n cells of place p set -/
def ab_setn (m : ev_Mem) (p n : Nat) (f : Nat → Int32) : ev_Mem := fun k j => if k = 210 ∧ 4 * p ≤ j ∧ j < 4 * p + n then f (j - 4 * p) else m k j
theorem ab_setn_succ (m : ev_Mem) (p n : Nat) (f : Nat → Int32) : ev_up (ab_setn m p n f) 210 (4 * p + n) (f n) = ab_setn m p (n + 1) f := by
  funext k j
  unfold ev_up ab_setn
  by_cases h1 : k = 210 ∧ j = 4 * p + n
  · have e1 : j - 4 * p = n := by omega
    rw [if_pos h1, if_pos ⟨h1.1, by omega, by omega⟩, e1]
  · rw [if_neg h1]
    by_cases h2 : k = 210 ∧ 4 * p ≤ j ∧ j < 4 * p + n
    · rw [if_pos h2, if_pos ⟨h2.1, h2.2.1, by omega⟩]
    · rw [if_neg h2, if_neg (fun q => h2 ⟨q.1, q.2.1, by have hne : j ≠ 4 * p + n := fun e => h1 ⟨q.1, e⟩; have := q.2.2; omega⟩)]
theorem ab_setn_zero (m : ev_Mem) (p : Nat) (f : Nat → Int32) : ab_setn m p 0 f = m := by
  funext k j
  unfold ab_setn
  rw [if_neg (fun q => by omega)]
/-- place p with these cells and this choice -/
def ab_setp (m : ev_Mem) (p : Nat) (f : Nat → Int32) (c : Int32) : ev_Mem := ev_up (ab_setn m p 4 f) 211 p c
/-- Table.clearPlace -/
theorem ev_S41 {p : Nat} (A : ev_all w) (hp24 : p < 24) (hQ : Q (.inl none) (ab_setp m p (fun _ => -1) (-1)) t) : ev_K w 41 [.ref 209, .int (Int32.ofNat p)] m t Q := by
  have hp : ev_prog[41]? = some ev_m41 := rfl
  have loop : ∀ (n k : Nat), k + n = 4 → ev_J w ev_m41 (ev_nd 41) Q 2 [some (.ref 209), some (.int (Int32.ofNat p)), some (.int (Int32.ofNat k))] [] (ab_setn m p k (fun _ => -1)) t := by
    intro n
    induction n with
    | zero =>
      intro k hk
      have ek := ev_ofNat_i (n := k) (by omega)
      have i4 := ev_i4
      refine ev_gK A hp [] 10 ?_
      refine And.intro (fun h => ?_) (fun h => ?_)
      · refine And.intro (ev_oin hp24 (by decide)) ?_
        show Q (.inl none) (ev_up (ab_setn m p k (fun _ => -1)) 211 (Int32.ofNat p).toNatClampNeg (-1)) t
        have hk4 : k = 4 := by omega
        rw [ev_on (by omega), hk4]
        exact hQ
      · have h2 : (Int32.ofNat k).toInt < (Int32.ofInt 4).toInt := h
        omega
    | succ n ih =>
      intro k hk
      have ek := ev_ofNat_i (n := k) (by omega)
      have i4 := ev_i4
      refine ev_gK A hp [2] 20 ?_
      refine And.intro (fun h => ?_) (fun h => ?_)
      · have h2 : (Int32.ofInt 4).toInt ≤ (Int32.ofNat k).toInt := h
        omega
      show ev_K w 42 [.ref 209, .int (Int32.ofNat p), .int (Int32.ofNat k), .int (-1)] (ab_setn m p k (fun _ => -1)) t _
      refine ev_S42 A hp24 (by omega) ?_
      show ev_J w ev_m41 (ev_nd 41) Q 2 [some (.ref 209), some (.int (Int32.ofNat p)), some (.int (Int32.ofNat k + 1))] [] (ev_up (ab_setn m p k (fun _ => -1)) 210 (4 * p + k) ((fun _ => -1 : Nat → Int32) k)) t
      rw [ev_succ (by omega), ab_setn_succ]
      exact ih (k + 1) (by omega)
  refine ⟨Or.inr ⟨209, _, rfl, rfl⟩, ev_m41, rfl, ev_gK A hp [2] 10 ?_⟩
  have h1 := loop 4 0 rfl
  rw [ab_setn_zero] at h1
  exact h1
/-- Table.copyPlace -/
theorem ev_S43 {a p : Nat} (A : ev_all w) (ha24 : a < 24) (hp24 : p < 24) (hQ : Q (.inl none) (ab_setp m p (fun v => m 210 (4 * a + v)) (m 211 a)) t) : ev_K w 43 [.ref 209, .int (Int32.ofNat a), .int (Int32.ofNat p)] m t Q := by
  have hp : ev_prog[43]? = some ev_m43 := rfl
  have loop : ∀ (n k : Nat), k + n = 4 → ev_J w ev_m43 (ev_nd 43) Q 2 [some (.ref 209), some (.int (Int32.ofNat a)), some (.int (Int32.ofNat p)), some (.int (Int32.ofNat k))] [] (ab_setn m p k (fun v => m 210 (4 * a + v))) t := by
    intro n
    induction n with
    | zero =>
      intro k hk
      have ek := ev_ofNat_i (n := k) (by omega)
      have i4 := ev_i4
      refine ev_gK A hp [] 20 ?_
      refine And.intro (fun h => ?_) (fun h => ?_)
      · refine And.intro (ev_oin ha24 (by decide)) ?_
        refine And.intro (ev_oin hp24 (by decide)) ?_
        show Q (.inl none) (ev_up (ab_setn m p k (fun v => m 210 (4 * a + v))) 211 (Int32.ofNat p).toNatClampNeg (ab_setn m p k (fun v => m 210 (4 * a + v)) 211 (Int32.ofNat a).toNatClampNeg)) t
        have hk4 : k = 4 := by omega
        have e1 : ab_setn m p k (fun v => m 210 (4 * a + v)) 211 a = m 211 a := if_neg (fun q => by omega)
        rw [ev_on (by omega), ev_on (by omega), e1, hk4]
        exact hQ
      · have h2 : (Int32.ofNat k).toInt < (Int32.ofInt 4).toInt := h
        omega
    | succ n ih =>
      intro k hk
      have ek := ev_ofNat_i (n := k) (by omega)
      have i4 := ev_i4
      refine ev_gK A hp [2] 20 ?_
      refine And.intro (fun h => ?_) (fun h => ?_)
      · have h2 : (Int32.ofInt 4).toInt ≤ (Int32.ofNat k).toInt := h
        omega
      show ev_K w 39 [.ref 209, .int (Int32.ofNat a), .int (Int32.ofNat k)] (ab_setn m p k (fun v => m 210 (4 * a + v))) t _
      refine ev_S39 A ha24 (by omega) ?_
      have e1 : ab_setn m p k (fun v => m 210 (4 * a + v)) 210 (4 * a + k) = m 210 (4 * a + k) := if_neg (fun q => by omega)
      rw [e1]
      show ev_K w 42 [.ref 209, .int (Int32.ofNat p), .int (Int32.ofNat k), .int (m 210 (4 * a + k))] (ab_setn m p k (fun v => m 210 (4 * a + v))) t _
      refine ev_S42 A hp24 (by omega) ?_
      show ev_J w ev_m43 (ev_nd 43) Q 2 [some (.ref 209), some (.int (Int32.ofNat a)), some (.int (Int32.ofNat p)), some (.int (Int32.ofNat k + 1))] [] (ev_up (ab_setn m p k (fun v => m 210 (4 * a + v))) 210 (4 * p + k) ((fun v => m 210 (4 * a + v)) k)) t
      rw [ev_succ (by omega), ab_setn_succ]
      exact ih (k + 1) (by omega)
  refine ⟨Or.inr ⟨209, _, rfl, rfl⟩, ev_m43, rfl, ev_gK A hp [2] 10 ?_⟩
  have h1 := loop 4 0 rfl
  rw [ab_setn_zero] at h1
  exact h1
/-- Table.hasWords -/
theorem ev_S47 {p : Nat} (A : ev_all w) (hp24 : p < 24) (ht : (∃ v, v < 4 ∧ ¬ (m 210 (4 * p + v)).toInt = -1) → Q (.inl (some (.int 1))) m t) (hn : (∀ v, v < 4 → (m 210 (4 * p + v)).toInt = -1) → Q (.inl (some (.int 0))) m t) : ev_K w 47 [.ref 209, .int (Int32.ofNat p)] m t Q := by
  have hp : ev_prog[47]? = some ev_m47 := rfl
  have loop : ∀ (n k : Nat), k + n = 4 → (∀ v, v < k → (m 210 (4 * p + v)).toInt = -1) → ev_J w ev_m47 (ev_nd 47) Q 2 [some (.ref 209), some (.int (Int32.ofNat p)), some (.int (Int32.ofNat k))] [] m t := by
    intro n
    induction n with
    | zero =>
      intro k hk hall
      have ek := ev_ofNat_i (n := k) (by omega)
      have i4 := ev_i4
      refine ev_gK A hp [] 10 ?_
      refine And.intro (fun h => ?_) (fun h => ?_)
      · exact ⟨rfl, hn (fun v hv => hall v (by omega))⟩
      · have h2 : (Int32.ofNat k).toInt < (Int32.ofInt 4).toInt := h
        omega
    | succ n ih =>
      intro k hk hall
      have ek := ev_ofNat_i (n := k) (by omega)
      have i4 := ev_i4
      refine ev_gK A hp [2] 20 ?_
      refine And.intro (fun h => ?_) (fun h => ?_)
      · have h2 : (Int32.ofInt 4).toInt ≤ (Int32.ofNat k).toInt := h
        omega
      show ev_K w 39 [.ref 209, .int (Int32.ofNat p), .int (Int32.ofNat k)] m t _
      refine ev_S39 A hp24 (by omega) ?_
      refine And.intro (fun h => ?_) (fun h => ?_)
      · have h2 : (m 210 (4 * p + k)).toInt = (Int32.ofInt (-1)).toInt := h
        rw [ev_im1] at h2
        show ev_J w ev_m47 (ev_nd 47) Q 2 [some (.ref 209), some (.int (Int32.ofNat p)), some (.int (Int32.ofNat k + 1))] [] m t
        rw [ev_succ (by omega)]
        refine ih (k + 1) (by omega) (fun v hv => ?_)
        rcases Nat.lt_or_eq_of_le (Nat.le_of_lt_succ hv) with q | q
        · exact hall v q
        · rw [q]; exact h2
      · have h2 : ¬ (m 210 (4 * p + k)).toInt = (Int32.ofInt (-1)).toInt := h
        rw [ev_im1] at h2
        exact ⟨rfl, ht ⟨k, by omega, h2⟩⟩
  refine ⟨Or.inr ⟨209, _, rfl, rfl⟩, ev_m47, rfl, ev_gK A hp [2] 10 ?_⟩
  exact loop 4 0 rfl (fun v hv => absurd hv (Nat.not_lt_zero _))
/-- Table.setChoice -/
theorem ev_S50 {p : Nat} {x : Int32} (A : ev_all w) (hp24 : p < 24) (hQ : Q (.inl none) (ev_up m 211 p x) t) : ev_K w 50 [.ref 209, .int (Int32.ofNat p), .int x] m t Q := by
  have hp : ev_prog[50]? = some ev_m50 := rfl
  refine ⟨Or.inr ⟨209, _, rfl, rfl⟩, ev_m50, rfl, ev_gK A hp [] 10 ?_⟩
  refine And.intro (ev_oin hp24 (by decide)) ?_
  show Q (.inl none) (ev_up m 211 (Int32.ofNat p).toNatClampNeg x) t
  rw [ev_on (by omega)]
  exact hQ
/-- Table.neighbour -/
theorem ev_S48 {u v : Nat} {i : Nat} {T : ab_T} (A : ev_all w) (hT : ab_TC m T) (hok : ab_Tok T) (hu : u < 4) (hv : v < 4) (hi : i < 100)
    (hQ : Q (.inl (some (.int (ab_oi (match (List.range T.1).find? (fun p => decide (T.2.1 p u = some i)) with | some p => T.2.1 p v | none => none))))) m t) : ev_K w 48 [.ref 209, .int (Int32.ofNat u), .int (Int32.ofNat i), .int (Int32.ofNat v)] m t Q := by
  have hp : ev_prog[48]? = some ev_m48 := rfl
  obtain ⟨t1, t2, -, -, -, -⟩ := hT
  obtain ⟨k1, k2, -, -, -, -⟩ := hok
  have loop : ∀ (n k : Nat), k + n = T.1 → (List.range T.1).find? (fun p => decide (T.2.1 p u = some i)) = ((List.range T.1).drop k).find? (fun p => decide (T.2.1 p u = some i)) → ev_J w ev_m48 (ev_nd 48) Q 3 [some (.ref 209), some (.int (Int32.ofNat u)), some (.int (Int32.ofNat i)), some (.int (Int32.ofNat v)), some (.int (Int32.ofNat k))] [] m t := by
    intro n
    induction n with
    | zero =>
      intro k hk hall
      have ek := ev_ofNat_i (n := k) (by omega)
      refine ev_gK A hp [] 10 ?_
      refine And.intro (fun h => ?_) (fun h => ?_)
      · rw [List.drop_of_length_le (by rw [List.length_range]; omega)] at hall
        rw [hall] at hQ
        exact hQ
      · have h2 : (Int32.ofNat k).toInt < (m 209 2).toInt := h
        omega
    | succ n ih =>
      intro k hk hall
      have ek := ev_ofNat_i (n := k) (by omega)
      have hk' : k < T.1 := by omega
      have ei := ev_ofNat_i (n := i) (by omega)
      rw [List.drop_eq_getElem_cons (by rw [List.length_range]; exact hk'), List.getElem_range, List.find?_cons] at hall
      refine ev_gK A hp [3] 20 ?_
      refine And.intro (fun h => ?_) (fun h => ?_)
      · have h2 : (m 209 2).toInt ≤ (Int32.ofNat k).toInt := h
        omega
      show ev_K w 39 [.ref 209, .int (Int32.ofNat k), .int (Int32.ofNat u)] m t _
      refine ev_S39 A (by omega) hu ?_
      rw [t2 k hk' u hu]
      refine And.intro (fun h => ?_) (fun h => ?_)
      · have h2 : ¬ (ab_oi (T.2.1 k u)).toInt = (ab_oi (some i)).toInt := h
        show ev_J w ev_m48 (ev_nd 48) Q 3 [some (.ref 209), some (.int (Int32.ofNat u)), some (.int (Int32.ofNat i)), some (.int (Int32.ofNat v)), some (.int (Int32.ofNat k + 1))] [] m t
        rw [ev_succ (by omega)]
        rw [decide_eq_false (fun q => h2 (by rw [q]))] at hall
        exact ih (k + 1) (by omega) hall
      · have h2 : (ab_oi (T.2.1 k u)).toInt = (ab_oi (some i)).toInt := h
        have h3 : T.2.1 k u = some i := ab_oi_inj (fun x hx => by have := k2 k u x hx; omega) (fun x hx => by cases hx; omega) h2
        rw [decide_eq_true h3] at hall
        show ev_K w 39 [.ref 209, .int (Int32.ofNat k), .int (Int32.ofNat v)] m t _
        refine ev_S39 A (by omega) hv ?_
        rw [t2 k hk' v hv]
        rw [hall] at hQ
        exact hQ
  refine ⟨Or.inr ⟨209, _, rfl, rfl⟩, ev_m48, rfl, ev_gK A hp [3] 10 ?_⟩
  exact loop T.1 0 (by omega) rfl
end EvTable2
