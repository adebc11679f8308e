/-! the class's table: what is asked of it -/
section EvTable
variable {w : ev_W} {Q : ev_QT} {m : ev_Mem} {t : ev_H}
/-- the table: how many places, their cells, choices, the joined, the base -/
abbrev ab_T : Type := Nat × (Nat → Nat → Option Nat) × (Nat → Option Nat) × List Nat × Option Nat
def ab_TC (m : ev_Mem) (T : ab_T) : Prop := (m 209 2).toInt = (T.1 : Int) ∧ (∀ p, p < T.1 → ∀ v, v < 4 → m 210 (4 * p + v) = ab_oi (T.2.1 p v)) ∧ (∀ p, p < T.1 → m 211 p = ab_oi (T.2.2.1 p)) ∧ (m 209 4).toInt = (T.2.2.2.1.length : Int) ∧ (∀ k, k < T.2.2.2.1.length → m 212 k = Int32.ofNat (T.2.2.2.1.getD k 0)) ∧ m 209 5 = ab_oi T.2.2.2.2
def ab_Tok (T : ab_T) : Prop := T.1 ≤ 24 ∧ (∀ p v i, T.2.1 p v = some i → i < 10) ∧ (∀ p v, T.2.2.1 p = some v → v < 4) ∧ T.2.2.2.1.length ≤ 4 ∧ (∀ v ∈ T.2.2.2.1, v < 4) ∧ (∀ v, T.2.2.2.2 = some v → v < 4)
theorem ab_oi_some {a : Option Nat} {x : Nat} (h : a = some x) : ab_oi a = Int32.ofNat x := by rw [h]; rfl
theorem ev_im1 : (Int32.ofInt (-1)).toInt = -1 := by decide
/-- Table.count -/
theorem ev_S36 (A : ev_all w) (hQ : Q (.inl (some (.int (m 209 2)))) m t) : ev_K w 36 [.ref 209] m t Q :=
  ⟨Or.inr ⟨209, [], rfl, rfl⟩, ev_m36, rfl, ev_gK A (k := 36) rfl [] 20 hQ⟩
theorem ev_cellN {p v : Nat} (hp : p < 1000) (hv : v < 1000) : Int32.ofNat p * 4 + Int32.ofNat v = Int32.ofNat (4 * p + v) := by
  apply ev_eq_of
  have e4 : (4 : Int32).toInt = 4 := by decide
  have ea := ev_ofNat_i (n := p) (by omega)
  have eb := ev_ofNat_i (n := v) (by omega)
  have e1 : (Int32.ofNat p * 4).toInt = (p : Int) * 4 := by rw [ev_mul_i (by rw [ea, e4]; omega) (by rw [ea, e4]; omega), ea, e4]
  rw [ev_add_i (by omega) (by omega), e1, eb, ev_ofNat_i (by omega)]
  omega
/-- Table.cell -/
theorem ev_S39 {p v : Nat} (A : ev_all w) (hp24 : p < 24) (hv : v < 4) (hQ : Q (.inl (some (.int (m 210 (4 * p + v))))) m t) : ev_K w 39 [.ref 209, .int (Int32.ofNat p), .int (Int32.ofNat v)] m t Q := by
  have hp : ev_prog[39]? = some ev_m39 := rfl
  refine ⟨Or.inr ⟨209, _, rfl, rfl⟩, ev_m39, rfl, ev_gK A hp [] 7 ?_⟩
  show ev_J w ev_m39 (ev_nd 39) Q 9 [some (.ref 209), some (.int (Int32.ofNat p)), some (.int (Int32.ofNat v))] [.int (Int32.ofNat p * 4 + Int32.ofNat v), .ref 210] m t
  rw [ev_cellN (by omega) (by omega)]
  refine ev_gK A hp [] 10 ?_
  refine And.intro (ev_oin (by omega) (by decide)) ?_
  show Q (.inl (some (.int (m 210 (Int32.ofNat (4 * p + v)).toNatClampNeg)))) m t
  rw [ev_on (by omega)]
  exact hQ
/-- Table.putCell -/
theorem ev_S42 {p v : Nat} {x : Int32} (A : ev_all w) (hp24 : p < 24) (hv : v < 4) (hQ : Q (.inl none) (ev_up m 210 (4 * p + v) x) t) : ev_K w 42 [.ref 209, .int (Int32.ofNat p), .int (Int32.ofNat v), .int x] m t Q := by
  have hp : ev_prog[42]? = some ev_m42 := rfl
  refine ⟨Or.inr ⟨209, _, rfl, rfl⟩, ev_m42, rfl, ev_gK A hp [] 8 ?_⟩
  show ev_J w ev_m42 (ev_nd 42) Q 10 [some (.ref 209), some (.int (Int32.ofNat p)), some (.int (Int32.ofNat v)), some (.int x)] [.int x, .int (Int32.ofNat p * 4 + Int32.ofNat v), .ref 210] m t
  rw [ev_cellN (by omega) (by omega)]
  refine ev_gK A hp [] 10 ?_
  refine And.intro (ev_oin (by omega) (by decide)) ?_
  show Q (.inl none) (ev_up m 210 (Int32.ofNat (4 * p + v)).toNatClampNeg x) t
  rw [ev_on (by omega)]
  exact hQ
/-- Table.numberAt -/
def ab_num (v : Nat) (o : Option Nat) : Option Nat := o.map (fun i => 10 * v + i)
theorem ev_S38 {p v : Nat} {o : Option Nat} (A : ev_all w) (hp24 : p < 24) (hv : v < 4) (ho : m 210 (4 * p + v) = ab_oi o) (ho10 : ∀ i, o = some i → i < 10) (hQ : Q (.inl (some (.int (ab_oi (ab_num v o))))) m t) : ev_K w 38 [.ref 209, .int (Int32.ofNat p), .int (Int32.ofNat v)] m t Q := by
  have hp : ev_prog[38]? = some ev_m38 := rfl
  refine ⟨Or.inr ⟨209, _, rfl, rfl⟩, ev_m38, rfl, ev_gK A hp [] 20 ?_⟩
  refine ev_S39 A hp24 hv ?_
  rw [ho]
  refine And.intro (fun h => ?_) (fun h => ?_)
  · have h2 : ¬ (ab_oi o).toInt = (Int32.ofInt (-1)).toInt := h
    cases o with
    | none => exact absurd rfl h2
    | some i =>
      show ev_K w 106 [.int (Int32.ofNat v), .int (Int32.ofNat i)] m t _
      have hi := ho10 i rfl
      exact ev_S106 A (by omega) (by omega) hQ
  · have h2 : (ab_oi o).toInt = (Int32.ofInt (-1)).toInt := h
    rw [ev_im1] at h2
    have h3 := (ab_oi_m1 (fun x hx => by have := ho10 x hx; omega)).mp h2
    rw [h3] at hQ
    exact hQ
/-- Table.isJoined: any number is asked -/
def ab_isJ (js : List Nat) (x : Int32) : Bool := js.any (fun v => decide (Int32.ofNat v = x))
theorem ev_S40 {x : Int32} {T : ab_T} (A : ev_all w) (hT : ab_TC m T) (hok : ab_Tok T) (hQ : Q (.inl (some (.int (ab_bi (ab_isJ T.2.2.2.1 x))))) m t) : ev_K w 40 [.ref 209, .int x] m t Q := by
  have hp : ev_prog[40]? = some ev_m40 := rfl
  obtain ⟨-, -, -, t4, t5, -⟩ := hT
  obtain ⟨-, -, -, k4, -, -⟩ := hok
  generalize T.2.2.2.1 = js at *
  have loop : ∀ (n k : Nat), k + n = js.length → ab_isJ js x = ab_isJ (js.drop k) x → ev_J w ev_m40 (ev_nd 40) Q 2 [some (.ref 209), some (.int x), some (.int (Int32.ofNat k))] [] m t := by
    intro n
    induction n with
    | zero =>
      intro k hk hall
      have ek := ev_ofNat_i (n := k) (by omega)
      refine ev_gK A hp [] 10 ?_
      refine And.intro (fun h => ?_) (fun h => ?_)
      · rw [List.drop_of_length_le (by omega)] at hall
        rw [hall] at hQ
        exact ⟨rfl, hQ⟩
      · have h2 : (Int32.ofNat k).toInt < (m 209 4).toInt := h
        omega
    | succ n ih =>
      intro k hk hall
      have ek := ev_ofNat_i (n := k) (by omega)
      have hk' : k < js.length := by omega
      have nk : (Int32.ofNat k).toNatClampNeg = k := ev_on (by omega)
      have hv : m 212 k = Int32.ofNat (js.getD k 0) := t5 k hk'
      rw [List.drop_eq_getElem_cons hk'] at hall
      have eg : js.getD k 0 = js[k] := by rw [List.getD_eq_getElem?_getD, List.getElem?_eq_getElem hk']; rfl
      refine ev_gK A hp [2] 20 ?_
      refine And.intro (fun h => ?_) (fun h => ?_)
      · have h2 : (m 209 4).toInt ≤ (Int32.ofNat k).toInt := h
        omega
      refine And.intro (ev_oin (by omega) (by decide)) ?_
      refine And.intro (fun h => ?_) (fun h => ?_)
      · have h2 : ¬ (m 212 (Int32.ofNat k).toNatClampNeg).toInt = x.toInt := h
        rw [nk, hv, eg] at h2
        show ev_J w ev_m40 (ev_nd 40) Q 2 [some (.ref 209), some (.int x), some (.int (Int32.ofNat k + 1))] [] m t
        rw [ev_succ (by omega)]
        refine ih (k + 1) (by omega) (hall.trans ?_)
        unfold ab_isJ
        rw [List.any_cons, decide_eq_false (fun q => h2 (by rw [q])), Bool.false_or]
      · have h2 : (m 212 (Int32.ofNat k).toNatClampNeg).toInt = x.toInt := h
        rw [nk, hv, eg] at h2
        unfold ab_isJ at hall hQ
        rw [List.any_cons, decide_eq_true (ev_eq_of h2), Bool.true_or] at hall
        rw [hall] at hQ
        exact ⟨rfl, hQ⟩
  refine ⟨Or.inr ⟨209, _, rfl, rfl⟩, ev_m40, rfl, ev_gK A hp [2] 10 ?_⟩
  exact loop js.length 0 (by omega) rfl
/-- Table.lastJoined -/
theorem ev_S45 {T : ab_T} (A : ev_all w) (hT : ab_TC m T) (hok : ab_Tok T) (hQ : Q (.inl (some (.int (ab_oi T.2.2.2.1.getLast?)))) m t) : ev_K w 45 [.ref 209] m t Q := by
  have hp : ev_prog[45]? = some ev_m45 := rfl
  obtain ⟨-, -, -, t4, t5, -⟩ := hT
  obtain ⟨-, -, -, k4, -, -⟩ := hok
  generalize T.2.2.2.1 = js at *
  have e4 : m 209 4 = Int32.ofNat js.length := by
    apply ev_eq_of
    rw [t4, ev_ofNat_i (by omega)]
  refine ⟨Or.inr ⟨209, _, rfl, rfl⟩, ev_m45, rfl, ev_gK A hp [11] 10 ?_⟩
  refine And.intro (fun h => ?_) (fun h => ?_)
  · have h2 : ¬ (m 209 4).toInt = 0 := h
    show ev_J w ev_m45 (ev_nd 45) Q 11 [some (.ref 209)] [] m t
    refine ev_gK A hp [] 6 ?_
    show ev_J w ev_m45 (ev_nd 45) Q 21 [some (.ref 209)] [.int (m 209 4 - 1), .ref 212] m t
    rw [e4, ev_pred (by omega) (by omega)]
    refine ev_gK A hp [] 6 ?_
    refine And.intro (ev_oin (by omega) (by decide)) ?_
    show Q (.inl (some (.int (m 212 (Int32.ofNat (js.length - 1)).toNatClampNeg)))) m t
    rw [ev_on (by omega), t5 _ (by omega)]
    rw [List.getLast?_eq_getElem?, List.getElem?_eq_getElem (by omega)] at hQ
    rw [List.getD_eq_getElem?_getD, List.getElem?_eq_getElem (by omega)]
    exact hQ
  · have h2 : (m 209 4).toInt = 0 := h
    have h3 : js = [] := List.eq_nil_of_length_eq_zero (by omega)
    rw [h3] at hQ
    exact hQ
/-- Table.lemma -/
def ab_lem (T : ab_T) (p : Nat) : Option Nat := match (match T.2.2.1 p with | none => T.2.2.2.2 | some v => some v) with
  | none => none
  | some v => ab_num v (T.2.1 p v)
theorem ev_S37 {p : Nat} {T : ab_T} (A : ev_all w) (hT : ab_TC m T) (hok : ab_Tok T) (hpn : p < T.1) (hQ : Q (.inl (some (.int (ab_oi (ab_lem T p))))) m t) : ev_K w 37 [.ref 209, .int (Int32.ofNat p)] m t Q := by
  have hp : ev_prog[37]? = some ev_m37 := rfl
  obtain ⟨t1, t2, t3, -, -, t6⟩ := hT
  obtain ⟨k1, k2, k3, -, -, k6⟩ := hok
  have np : (Int32.ofNat p).toNatClampNeg = p := ev_on (by omega)
  have hin : ev_in (Int32.ofNat p) 24 := ev_oin (by omega) (by decide)
  have hc : m 211 p = ab_oi (T.2.2.1 p) := t3 p hpn
  have h24 : ∀ r : Option Nat, (∀ v, r = some v → v < 4) → (match r with | none => none | some v => ab_num v (T.2.1 p v)) = ab_lem T p → ev_J w ev_m37 (ev_nd 37) Q 24 [some (.ref 209), some (.int (Int32.ofNat p)), some (.int (ab_oi r))] [] m t := by
    intro r hr hl
    refine ev_gK A hp [] 20 ?_
    refine And.intro (fun h => ?_) (fun h => ?_)
    · have h2 : ¬ (ab_oi r).toInt = (Int32.ofInt (-1)).toInt := h
      cases r with
      | none => exact absurd rfl h2
      | some v =>
        show ev_K w 38 [.ref 209, .int (Int32.ofNat p), .int (Int32.ofNat v)] m t _
        refine ev_S38 A (by omega) (hr v rfl) (t2 p hpn v (hr v rfl)) (fun i hi => k2 p v i hi) ?_
        dsimp only at hl
        rw [hl]
        exact hQ
    · have h2 : (ab_oi r).toInt = (Int32.ofInt (-1)).toInt := h
      rw [ev_im1] at h2
      have h3 := (ab_oi_m1 (fun x hx => by have := hr x hx; omega)).mp h2
      rw [h3] at hl
      dsimp only at hl
      rw [← hl] at hQ
      exact hQ
  refine ⟨Or.inr ⟨209, _, rfl, rfl⟩, ev_m37, rfl, ev_gK A hp [10, 17, 24] 10 ?_⟩
  refine And.intro hin ?_
  refine And.intro (fun h => ?_) (fun h => ?_)
  · have h2 : ¬ (m 211 (Int32.ofNat p).toNatClampNeg).toInt = (Int32.ofInt (-1)).toInt := h
    rw [np, hc] at h2
    show ev_J w ev_m37 (ev_nd 37) Q 17 [some (.ref 209), some (.int (Int32.ofNat p)), none] [] m t
    refine ev_gK A hp [24] 10 ?_
    refine And.intro hin ?_
    show ev_J w ev_m37 (ev_nd 37) Q 24 [some (.ref 209), some (.int (Int32.ofNat p)), some (.int (m 211 (Int32.ofNat p).toNatClampNeg))] [] m t
    rw [np, hc]
    refine h24 _ (fun v hv => k3 p v hv) ?_
    unfold ab_lem
    cases hch : T.2.2.1 p with
    | none => rw [hch] at h2; exact absurd rfl h2
    | some v => rfl
  · have h2 : (m 211 (Int32.ofNat p).toNatClampNeg).toInt = (Int32.ofInt (-1)).toInt := h
    rw [np, hc, ev_im1] at h2
    have h3 := (ab_oi_m1 (fun x hx => by have := k3 p x hx; omega)).mp h2
    show ev_J w ev_m37 (ev_nd 37) Q 10 [some (.ref 209), some (.int (Int32.ofNat p)), none] [] m t
    refine ev_gK A hp [24] 10 ?_
    show ev_J w ev_m37 (ev_nd 37) Q 24 [some (.ref 209), some (.int (Int32.ofNat p)), some (.int (m 209 5))] [] m t
    rw [t6]
    refine h24 _ (fun v hv => k6 v hv) ?_
    unfold ab_lem
    rw [h3]
end EvTable
