/-! the class's words: what is asked of them -/
section EvWords
variable {w : ev_W} {Q : ev_QT} {m : ev_Mem} {t : ev_H}
def ab_bi (b : Bool) : Int32 := if b then 1 else 0
theorem ab_bi_eq {b : Bool} (h : ev_p0 .eq (ab_bi b)) : b = false := by
  cases b
  · rfl
  · exact (ev_ne10 h).elim
theorem ab_bi_neq {b : Bool} (h : ev_n0 .eq (ab_bi b)) : b = true := by
  cases b
  · exact absurd ev_eq00 h
  · rfl
theorem ab_bi_ne {b : Bool} (h : ev_p0 .ne (ab_bi b)) : b = true := by
  cases b
  · exact absurd ev_eq00 h
  · rfl
theorem ab_bi_nne {b : Bool} (h : ev_n0 .ne (ab_bi b)) : b = false := by
  cases b
  · rfl
  · exact (ev_ne10 h).elim
theorem ev_d10 {x : Nat} (h : x < 1000) : Int32.ofNat x / 10 = Int32.ofNat (x / 10) := by
  apply ev_eq_of
  have e1 := ev_ofNat_i (n := x) (by omega)
  have e2 : (10 : Int32).toInt = 10 := by decide
  rw [ev_div_i (by omega) (by omega), e1, e2, ev_ofNat_i (by omega)]
  omega
theorem ev_r10 {x : Nat} (h : x < 1000) : Int32.ofNat x - Int32.ofNat x / 10 * 10 = Int32.ofNat (x % 10) := by
  apply ev_eq_of
  have e1 := ev_ofNat_i (n := x) (by omega)
  have e2 : (10 : Int32).toInt = 10 := by decide
  rw [ev_rem_i (by omega) (by omega), e1, e2, ev_ofNat_i (by omega)]
  omega
theorem ev_on {k : Nat} (h : k < 2147483648) : (Int32.ofNat k).toNatClampNeg = k := by
  rw [ev_nat, ev_ofNat_i h]
  exact Int.toNat_natCast k
theorem ev_oin {k n : Nat} (h : k < n) (hn : n < 100000) : ev_in (Int32.ofNat k) n := by
  have e1 := ev_ofNat_i (n := k) (by omega)
  exact ⟨by omega, by omega⟩
/-- Words.count -/
theorem ev_S26 {k : Nat} (A : ev_all w) (hk : k < 4) (hQ : Q (.inl (some (.int (m 203 k)))) m t) : ev_K w 26 [.ref 40, .int (Int32.ofNat k)] m t Q := by
  have hp : ev_prog[26]? = some ev_m26 := rfl
  refine ⟨Or.inr ⟨40, _, rfl, rfl⟩, ev_m26, rfl, ev_gK A hp [] 20 ?_⟩
  refine And.intro (ev_oin hk (by decide)) ?_
  show Q (.inl (some (.int (m 203 (Int32.ofNat k).toNatClampNeg)))) m t
  rw [ev_on (by omega)]
  exact hQ
/-- Words.equalities -/
theorem ev_S31 (A : ev_all w) (hQ : Q (.inl (some (.int (m 40 7)))) m t) : ev_K w 31 [.ref 40] m t Q :=
  ⟨Or.inr ⟨40, [], rfl, rfl⟩, ev_m31, rfl, ev_gK A (k := 31) rfl [] 20 hQ⟩
/-- Words.formOf -/
theorem ev_S22 {x : Nat} (A : ev_all w) (hx : x < 40) (hQ : Q (.inl (some (.ref (45 + 4 * x)))) m t) : ev_K w 22 [.ref 40, .int (Int32.ofNat x)] m t Q := by
  have hp : ev_prog[22]? = some ev_m22 := rfl
  refine ⟨Or.inr ⟨40, _, rfl, rfl⟩, ev_m22, rfl, ev_gK A hp [] 20 ?_⟩
  refine And.intro (ev_oin hx (by decide)) ?_
  show Q (.inl (some (.ref (45 + 4 * (Int32.ofNat x).toNatClampNeg)))) m t
  rw [ev_on (by omega)]
  exact hQ
/-- Words.isGap -/
theorem ev_S21 {x : Nat} (A : ev_all w) (hx : x < 40) (hQ : Q (.inl (some (.int (ab_bi (decide ((m (45 + 4 * x) 1).toInt = -1)))))) m t) : ev_K w 21 [.ref 40, .int (Int32.ofNat x)] m t Q := by
  have hp : ev_prog[21]? = some ev_m21 := rfl
  refine ⟨Or.inr ⟨40, _, rfl, rfl⟩, ev_m21, rfl, ev_gK A hp [] 20 ?_⟩
  refine And.intro (ev_oin hx (by decide)) ?_
  show ev_K w 4 [.ref (45 + 4 * (Int32.ofNat x).toNatClampNeg)] m t _
  rw [ev_on (by omega)]
  refine ev_S4 A (ev_isLf hx) ?_
  by_cases h : (m (45 + 4 * x) 1).toInt = -1
  · rw [if_pos h]
    rw [decide_eq_true h] at hQ
    exact ⟨rfl, hQ⟩
  · rw [if_neg h]
    rw [decide_eq_false h] at hQ
    exact ⟨rfl, hQ⟩
/-- Words.isThere -/
def ab_th (m : ev_Mem) (x : Nat) : Bool := decide (((x % 10 : Nat) : Int) < (m 203 (x / 10)).toInt)
theorem ev_S24 {x : Nat} (A : ev_all w) (hx : x < 40) (hQ : Q (.inl (some (.int (ab_bi (ab_th m x))))) m t) : ev_K w 24 [.ref 40, .int (Int32.ofNat x)] m t Q := by
  have hp : ev_prog[24]? = some ev_m24 := rfl
  refine ⟨Or.inr ⟨40, _, rfl, rfl⟩, ev_m24, rfl, ev_gK A hp [] 5 ?_⟩
  refine And.intro (by decide) ?_
  show ev_J w ev_m24 (ev_nd 24) Q 8 [some (.ref 40), some (.int (Int32.ofNat x))] [.ref 203, .int (Int32.ofNat x - Int32.ofNat x / 10 * 10)] m t
  rw [ev_r10 (by omega)]
  refine ev_gK A hp [] 3 ?_
  refine And.intro (by decide) ?_
  show ev_J w ev_m24 (ev_nd 24) Q 12 [some (.ref 40), some (.int (Int32.ofNat x))] [.int (Int32.ofNat x / 10), .ref 203, .int (Int32.ofNat (x % 10))] m t
  rw [ev_d10 (by omega)]
  refine ev_gK A hp [] 20 ?_
  refine And.intro (ev_oin (by omega) (by decide)) ?_
  have e1 := ev_ofNat_i (n := x % 10) (by omega)
  have e2 : (Int32.ofNat (x / 10)).toNatClampNeg = x / 10 := ev_on (by omega)
  refine And.intro (fun h => ?_) (fun h => ?_)
  · have h2 : (m 203 (Int32.ofNat (x / 10)).toNatClampNeg).toInt ≤ (Int32.ofNat (x % 10)).toInt := h
    rw [e2] at h2
    rw [ab_th, decide_eq_false (by omega)] at hQ
    exact ⟨rfl, hQ⟩
  · have h2 : (Int32.ofNat (x % 10)).toInt < (m 203 (Int32.ofNat (x / 10)).toNatClampNeg).toInt := h
    rw [e2] at h2
    rw [ab_th, decide_eq_true (by omega)] at hQ
    exact ⟨rfl, hQ⟩
/-- Words.areAlike, Words.areEqual -/
def ab_eqm (m : ev_Mem) (c : Nat) (a b : Option Nat) : Bool := match a, b with
  | none, none => true
  | some x, some y => decide ((m c x).toInt = (m c y).toInt)
  | _, _ => false
theorem ab_oi_m1 {a : Option Nat} (h : ∀ x, a = some x → x < 100000) : (ab_oi a).toInt = -1 ↔ a = none := by
  cases a with
  | none => exact ⟨fun _ => rfl, fun _ => by decide⟩
  | some x =>
    have h1 := h x rfl
    have e1 : (ab_oi (some x)).toInt = (x : Int) := ev_ofNat_i (by omega)
    exact ⟨fun q => by omega, fun q => by cases q⟩
theorem ab_oi_inj {a b : Option Nat} (ha : ∀ x, a = some x → x < 100000) (hb : ∀ x, b = some x → x < 100000) (h : (ab_oi a).toInt = (ab_oi b).toInt) : a = b := by
  have e0 : (ab_oi none).toInt = -1 := by decide
  have es : ∀ x, x < 100000 → (ab_oi (some x)).toInt = (x : Int) := fun x hx => ev_ofNat_i (by omega)
  cases a with
  | none =>
    cases b with
    | none => rfl
    | some y => have h1 := es y (hb y rfl); omega
  | some x =>
    have h1 := es x (ha x rfl)
    cases b with
    | none => omega
    | some y =>
      have h2 := es y (hb y rfl)
      have h3 : x = y := by omega
      rw [h3]
theorem ev_S20 {a b : Option Nat} (A : ev_all w) (ha : ∀ x, a = some x → x < 40) (hb : ∀ x, b = some x → x < 40) (hQ : Q (.inl (some (.int (ab_bi (ab_eqm m 204 a b))))) m t) : ev_K w 20 [.ref 40, .int (ab_oi a), .int (ab_oi b)] m t Q := by
  have hp : ev_prog[20]? = some ev_m20 := rfl
  have ha' : ∀ x, a = some x → x < 100000 := fun x hx => by have := ha x hx; omega
  have hb' : ∀ x, b = some x → x < 100000 := fun x hx => by have := hb x hx; omega
  have em : (Int32.ofInt (-1)).toInt = -1 := by decide
  refine ⟨Or.inr ⟨40, _, rfl, rfl⟩, ev_m20, rfl, ev_gK A hp [10, 23] 20 ?_⟩
  have h10 : (a = none ∨ b = none) → ev_J w ev_m20 (ev_nd 20) Q 10 [some (.ref 40), some (.int (ab_oi a)), some (.int (ab_oi b))] [] m t := by
    intro hor
    refine ev_gK A hp [] 20 ?_
    refine And.intro (fun h => ?_) (fun h => ?_)
    · have h2 : ¬ (ab_oi a).toInt = (ab_oi b).toInt := h
      have h3 : ab_eqm m 204 a b = false := by
        cases a with
        | none => cases b with
          | none => exact absurd rfl h2
          | some y => rfl
        | some x => cases b with
          | none => rfl
          | some y => rcases hor with q | q <;> cases q
      rw [h3] at hQ
      exact ⟨rfl, hQ⟩
    · have h2 : (ab_oi a).toInt = (ab_oi b).toInt := h
      have h3 : a = b := ab_oi_inj ha' hb' h2
      have h4 : ab_eqm m 204 a b = true := by
        subst h3
        rcases hor with q | q <;> rw [q] <;> rfl
      rw [h4] at hQ
      exact ⟨rfl, hQ⟩
  refine And.intro (fun h => ?_) (fun h => ?_)
  · have h2 : (ab_oi a).toInt = (Int32.ofInt (-1)).toInt := h
    exact h10 (Or.inl ((ab_oi_m1 ha').mp (by omega)))
  · have h2 : ¬ (ab_oi a).toInt = (Int32.ofInt (-1)).toInt := h
    refine And.intro (fun h => ?_) (fun h => ?_)
    · have h3 : ¬ (ab_oi b).toInt = (Int32.ofInt (-1)).toInt := h
      cases a with
      | none => exact absurd rfl h2
      | some x => cases b with
        | none => exact absurd rfl h3
        | some y =>
          show ev_J w ev_m20 (ev_nd 20) Q 23 [some (.ref 40), some (.int (Int32.ofNat x)), some (.int (Int32.ofNat y))] [] m t
          have hx := ha x rfl
          have hy := hb y rfl
          refine ev_gK A hp [] 20 ?_
          refine And.intro (ev_oin hx (by decide)) ?_
          refine And.intro (ev_oin hy (by decide)) ?_
          have ex : (Int32.ofNat x).toNatClampNeg = x := ev_on (by omega)
          have ey : (Int32.ofNat y).toNatClampNeg = y := ev_on (by omega)
          refine And.intro (fun h => ?_) (fun h => ?_)
          · have h4 : ¬ (m 204 (Int32.ofNat x).toNatClampNeg).toInt = (m 204 (Int32.ofNat y).toNatClampNeg).toInt := h
            rw [ex, ey] at h4
            rw [ab_eqm, decide_eq_false h4] at hQ
            exact ⟨rfl, hQ⟩
          · have h4 : (m 204 (Int32.ofNat x).toNatClampNeg).toInt = (m 204 (Int32.ofNat y).toNatClampNeg).toInt := h
            rw [ex, ey] at h4
            rw [ab_eqm, decide_eq_true h4] at hQ
            exact ⟨rfl, hQ⟩
    · have h3 : (ab_oi b).toInt = (Int32.ofInt (-1)).toInt := h
      exact h10 (Or.inr ((ab_oi_m1 hb').mp (by omega)))
theorem ev_S25 {a b : Option Nat} (A : ev_all w) (ha : ∀ x, a = some x → x < 40) (hb : ∀ x, b = some x → x < 40) (hQ : Q (.inl (some (.int (ab_bi (ab_eqm m 205 a b))))) m t) : ev_K w 25 [.ref 40, .int (ab_oi a), .int (ab_oi b)] m t Q := by
  have hp : ev_prog[25]? = some ev_m25 := rfl
  have ha' : ∀ x, a = some x → x < 100000 := fun x hx => by have := ha x hx; omega
  have hb' : ∀ x, b = some x → x < 100000 := fun x hx => by have := hb x hx; omega
  have em : (Int32.ofInt (-1)).toInt = -1 := by decide
  refine ⟨Or.inr ⟨40, _, rfl, rfl⟩, ev_m25, rfl, ev_gK A hp [10, 23] 20 ?_⟩
  have h10 : (a = none ∨ b = none) → ev_J w ev_m25 (ev_nd 25) Q 10 [some (.ref 40), some (.int (ab_oi a)), some (.int (ab_oi b))] [] m t := by
    intro hor
    refine ev_gK A hp [] 20 ?_
    refine And.intro (fun h => ?_) (fun h => ?_)
    · have h2 : ¬ (ab_oi a).toInt = (ab_oi b).toInt := h
      have h3 : ab_eqm m 205 a b = false := by
        cases a with
        | none => cases b with
          | none => exact absurd rfl h2
          | some y => rfl
        | some x => cases b with
          | none => rfl
          | some y => rcases hor with q | q <;> cases q
      rw [h3] at hQ
      exact ⟨rfl, hQ⟩
    · have h2 : (ab_oi a).toInt = (ab_oi b).toInt := h
      have h3 : a = b := ab_oi_inj ha' hb' h2
      have h4 : ab_eqm m 205 a b = true := by
        subst h3
        rcases hor with q | q <;> rw [q] <;> rfl
      rw [h4] at hQ
      exact ⟨rfl, hQ⟩
  refine And.intro (fun h => ?_) (fun h => ?_)
  · have h2 : (ab_oi a).toInt = (Int32.ofInt (-1)).toInt := h
    exact h10 (Or.inl ((ab_oi_m1 ha').mp (by omega)))
  · have h2 : ¬ (ab_oi a).toInt = (Int32.ofInt (-1)).toInt := h
    refine And.intro (fun h => ?_) (fun h => ?_)
    · have h3 : ¬ (ab_oi b).toInt = (Int32.ofInt (-1)).toInt := h
      cases a with
      | none => exact absurd rfl h2
      | some x => cases b with
        | none => exact absurd rfl h3
        | some y =>
          show ev_J w ev_m25 (ev_nd 25) Q 23 [some (.ref 40), some (.int (Int32.ofNat x)), some (.int (Int32.ofNat y))] [] m t
          have hx := ha x rfl
          have hy := hb y rfl
          refine ev_gK A hp [] 20 ?_
          refine And.intro (ev_oin hx (by decide)) ?_
          refine And.intro (ev_oin hy (by decide)) ?_
          have ex : (Int32.ofNat x).toNatClampNeg = x := ev_on (by omega)
          have ey : (Int32.ofNat y).toNatClampNeg = y := ev_on (by omega)
          refine And.intro (fun h => ?_) (fun h => ?_)
          · have h4 : ¬ (m 205 (Int32.ofNat x).toNatClampNeg).toInt = (m 205 (Int32.ofNat y).toNatClampNeg).toInt := h
            rw [ex, ey] at h4
            rw [ab_eqm, decide_eq_false h4] at hQ
            exact ⟨rfl, hQ⟩
          · have h4 : (m 205 (Int32.ofNat x).toNatClampNeg).toInt = (m 205 (Int32.ofNat y).toNatClampNeg).toInt := h
            rw [ex, ey] at h4
            rw [ab_eqm, decide_eq_true h4] at hQ
            exact ⟨rfl, hQ⟩
    · have h3 : (ab_oi b).toInt = (Int32.ofInt (-1)).toInt := h
      exact h10 (Or.inr ((ab_oi_m1 hb').mp (by omega)))
end EvWords
