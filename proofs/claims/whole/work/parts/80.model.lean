/-! the model: its numbers, letters, rules -/
section EvModel
variable {w : ev_W} {Q : ev_QT} {m : ev_Mem} {t : ev_H}
/-- isWitness -/
theorem ev_S140 {x : Int32} (A : ev_all w) (hQ : Q (.inl (some (.int (ab_bi (ab_wi x).isSome)))) m t) : ev_K w 140 [.int x] m t Q := by
  have hp : ev_prog[140]? = some ev_m140 := rfl
  have i4 := ev_i4
  have no : ¬ (0 ≤ x.toInt ∧ x.toInt < 4) → Q (.inl (some (.int 0))) m t := fun h => by
    have e : ab_wi x = none := if_neg h
    rw [e] at hQ; exact hQ
  refine ⟨Or.inl rfl, ev_m140, rfl, ev_gK A hp [] 10 ?_⟩
  refine And.intro (fun (h : x.toInt < 0) => ⟨rfl, no (by omega)⟩) (fun (h : 0 ≤ x.toInt) => ?_)
  refine And.intro (fun (h2 : (Int32.ofInt 4).toInt ≤ x.toInt) => ⟨rfl, no (by omega)⟩) (fun (h2 : x.toInt < (Int32.ofInt 4).toInt) => ?_)
  have e : ab_wi x = some x.toInt.toNat := if_pos (by omega)
  rw [e] at hQ
  exact ⟨rfl, hQ⟩
/-- isJoined -/
def ab_MJ (m : ev_Mem) (js : List Nat) : Prop := m 277 19 = Int32.ofNat js.length ∧ ∀ k, k < js.length → m 292 k = Int32.ofNat (js.getD k 0)
theorem ev_S141 {x : Int32} {js : List Nat} (A : ev_all w) (hJ : ab_MJ m js) (hl : js.length ≤ 4) (hQ : Q (.inl (some (.int (ab_bi (ab_isJ js x))))) m t) : ev_K w 141 [.ref 277, .int x] m t Q := by
  have hp : ev_prog[141]? = some ev_m141 := rfl
  have e1 := ev_toI hJ.1 (by omega)
  have loop := ev_lup (P := fun k => ∀ (kk bb : Int32), kk = Int32.ofNat k → bb = ab_bi (ab_isJ (js.take k) x) → ev_J w ev_m141 (ev_nd 141) Q 4 [ev_vr 277, ev_vi x, ev_vi bb, ev_vi kk] [] m t) js.length (by
    intro k hk ih kk bb ekk ebb
    subst ekk ebb
    have ek := ev_ofNat_i (n := k) (by omega)
    refine ev_gK A hp [31] 20 ?_
    refine And.intro (fun (h : (m 277 19).toInt ≤ (Int32.ofNat k).toInt) => ?_) (fun (h : (Int32.ofNat k).toInt < (m 277 19).toInt) => ?_)
    · rw [List.take_of_length_le (by omega)]
      refine ⟨?_, hQ⟩
      cases ab_isJ js x <;> rfl
    have hkl : k < js.length := by omega
    have hs : ab_isJ (js.take (k + 1)) x = (ab_isJ (js.take k) x || decide (Int32.ofNat (js.getD k 0) = x)) := by
      rw [ab_take_succ (d := 0) hkl]
      unfold ab_isJ
      rw [List.any_append]
      simp
    have h31 : ∀ (b : Bool), b = ab_isJ (js.take (k + 1)) x → ev_J w ev_m141 (ev_nd 141) Q 31 [ev_vr 277, ev_vi x, ev_vi (ab_bi (ab_isJ (js.take k) x)), ev_vn k] [.int (ab_bi b)] m t := by
      intro b hb
      refine ev_gK A hp [4] 10 ?_
      exact ih hkl _ _ (ev_succ (by omega)) (by rw [hb])
    refine And.intro (fun h2 => ?_) (fun h2 => ?_)
    · exact h31 true (by rw [hs, ab_bi_ne h2]; rfl)
    · have h3 := ab_bi_nne h2
      refine And.intro (ev_oin (by omega) (by decide)) ?_
      refine And.intro (fun (h4 : ¬ (m 292 (Int32.ofNat k).toNatClampNeg).toInt = x.toInt) => ?_) (fun (h4 : (m 292 (Int32.ofNat k).toNatClampNeg).toInt = x.toInt) => ?_)
      · rw [ev_on (by omega), hJ.2 k hkl] at h4
        exact h31 false (by rw [hs, h3, decide_eq_false (fun q => h4 (by rw [q]))]; rfl)
      · rw [ev_on (by omega), hJ.2 k hkl] at h4
        exact h31 true (by rw [hs, h3, decide_eq_true (ev_eq_of h4)]; rfl))
  refine ⟨Or.inr ⟨277, _, rfl, rfl⟩, ev_m141, rfl, ev_gK A hp [4] 10 ?_⟩
  exact loop 0 (by omega) _ _ rfl rfl
/-- isThere -/
def ab_MS (m : ev_Mem) (W : Nat → List ab_Ls) : Prop := ∀ v, v < 4 → m 279 v = Int32.ofNat (W v).length
theorem ev_S143 {x : Nat} {W : Nat → List ab_Ls} (A : ev_all w) (hS : ab_MS m W) (hW : ab_Wok W) (hx : x < 40) (hQ : Q (.inl (some (.int (ab_bi (ab_there W x))))) m t) : ev_K w 143 [.ref 277, .int (Int32.ofNat x)] m t Q := by
  have hp : ev_prog[143]? = some ev_m143 := rfl
  have n10 : ¬ (10 : Int32) = 0 := by decide
  have hw := (hW (x / 10) (by omega)).1
  have e1 := ev_toI (hS (x / 10) (by omega)) (by omega)
  have e2 := ev_ofNat_i (n := x % 10) (by omega)
  refine ⟨Or.inr ⟨277, _, rfl, rfl⟩, ev_m143, rfl, ev_gK A hp [] 3 ?_⟩
  refine And.intro n10 ?_
  show ev_J w ev_m143 (ev_nd 143) Q 4 [ev_vr 277, ev_vn x] [.int (Int32.ofNat x - Int32.ofNat x / 10 * 10)] m t
  rw [ev_r10 (by omega)]
  refine ev_gK A hp [] 5 ?_
  refine And.intro n10 ?_
  show ev_J w ev_m143 (ev_nd 143) Q 12 [ev_vr 277, ev_vn x] [.int (Int32.ofNat x / 10), .ref 279, .int (Int32.ofNat (x % 10))] m t
  rw [ev_d10 (by omega)]
  refine ev_gK A hp [] 10 ?_
  refine And.intro (ev_oin (by omega) (by decide)) ?_
  unfold ab_there at hQ
  refine And.intro (fun (h : (m 279 (Int32.ofNat (x / 10)).toNatClampNeg).toInt ≤ (Int32.ofNat (x % 10)).toInt) => ?_) (fun (h : (Int32.ofNat (x % 10)).toInt < (m 279 (Int32.ofNat (x / 10)).toNatClampNeg).toInt) => ?_)
  · rw [ev_on (by omega)] at h
    rw [decide_eq_false (by omega)] at hQ
    exact ⟨rfl, hQ⟩
  · rw [ev_on (by omega)] at h
    rw [decide_eq_true (by omega)] at hQ
    exact ⟨rfl, hQ⟩
/-- least -/
theorem ev_S158 {x y : Nat} (A : ev_all w) (hx : x < 1000000) (hy : y < 1000000) (hQ : Q (.inl (some (.int (Int32.ofNat (min x y))))) m t) : ev_K w 158 [.ref 277, .int (Int32.ofNat x), .int (Int32.ofNat y)] m t Q := by
  have hp : ev_prog[158]? = some ev_m158 := rfl
  have ex := ev_ofNat_i (n := x) (by omega)
  have ey := ev_ofNat_i (n := y) (by omega)
  refine ⟨Or.inr ⟨277, _, rfl, rfl⟩, ev_m158, rfl, ev_gK A hp [] 10 ?_⟩
  refine And.intro (fun (h : (Int32.ofNat y).toInt ≤ (Int32.ofNat x).toInt) => ?_) (fun (h : (Int32.ofNat x).toInt < (Int32.ofNat y).toInt) => ?_)
  · rw [Nat.min_eq_right (by omega)] at hQ
    exact hQ
  · rw [Nat.min_eq_left (by omega)] at hQ
    exact hQ
/-- a word's letters, or the draft's -/
def ab_sm (m : ev_Mem) (x : Option Nat) (l : ab_Ls) : Prop := match x with
  | none => l.length ≤ 8 ∧ ∀ k, k < l.length → m 278 k = l.getD k 0
  | some n => (n < 40 ∧ l.length ≤ 6) ∧ ∀ k, k < l.length → m 280 (6 * n + k) = l.getD k 0
theorem ab_sm_len {x : Option Nat} {l : ab_Ls} (h : ab_sm m x l) : l.length ≤ 8 := by
  cases x with
  | none => exact h.1
  | some n => have := h.1.2; omega
theorem ev_lin {c a b : Nat} (hc : c < 1000) (ha : a < 1000) (hb : b < 10000) : Int32.ofNat c * Int32.ofNat a + Int32.ofNat b = Int32.ofNat (c * a + b) := by
  have h : c * a < 1000000 := by
    have h1 : c * a ≤ 999 * 999 := Nat.mul_le_mul (by omega) (by omega)
    omega
  have ec := ev_ofNat_i (n := c) (by omega)
  have ea := ev_ofNat_i (n := a) (by omega)
  have eb := ev_ofNat_i (n := b) (by omega)
  have em : (Int32.ofNat c * Int32.ofNat a).toInt = ((c * a : Nat) : Int) := by
    rw [ev_mul_i (by rw [ec, ea, ← Int.natCast_mul]; omega) (by rw [ec, ea, ← Int.natCast_mul]; omega), ec, ea, ← Int.natCast_mul]
  apply ev_eq_of
  rw [ev_add_i (by omega) (by omega), em, eb, ev_ofNat_i (by omega)]
  omega
theorem ev_mulN {c a : Nat} (hc : c < 1000) (ha : a < 1000) : Int32.ofNat c * Int32.ofNat a = Int32.ofNat (c * a) := by
  have h : c * a < 1000000 := by
    have h1 : c * a ≤ 999 * 999 := Nat.mul_le_mul (by omega) (by omega)
    omega
  have ec := ev_ofNat_i (n := c) (by omega)
  have ea := ev_ofNat_i (n := a) (by omega)
  apply ev_eq_of
  rw [ev_mul_i (by rw [ec, ea, ← Int.natCast_mul]; omega) (by rw [ec, ea, ← Int.natCast_mul]; omega), ec, ea, ← Int.natCast_mul, ev_ofNat_i (by omega)]
/-- letter -/
theorem ev_S147 {x : Option Nat} {k : Nat} {l : ab_Ls} (A : ev_all w) (hl : ab_sm m x l) (hk : k < l.length) (hQ : Q (.inl (some (.int (l.getD k 0)))) m t) : ev_K w 147 [.ref 277, .int (ab_oi x), .int (Int32.ofNat k)] m t Q := by
  have hp : ev_prog[147]? = some ev_m147 := rfl
  have hlen := ab_sm_len hl
  refine ⟨Or.inr ⟨277, _, rfl, rfl⟩, ev_m147, rfl, ev_gK A hp [] 20 ?_⟩
  cases x with
  | none =>
    refine And.intro (fun (h : 0 ≤ (-1 : Int32).toInt) => absurd h (by decide)) (fun _ => ?_)
    refine And.intro (ev_oin (by omega) (by decide)) ?_
    show Q (.inl (some (.int (m 278 (Int32.ofNat k).toNatClampNeg)))) m t
    rw [ev_on (by omega), hl.2 k hk]
    exact hQ
  | some n =>
    obtain ⟨⟨hn, h6⟩, hr⟩ := hl
    have en := ev_ofNat_i (n := n) (by omega)
    have ei : (Int8.ofInt 6).toInt32 * Int32.ofNat n + Int32.ofNat k = Int32.ofNat (6 * n + k) := ev_lin (c := 6) (by omega) (by omega) (by omega)
    refine And.intro (fun _ => ?_) (fun (h : (Int32.ofNat n).toInt < 0) => by omega)
    refine And.intro (ev_iin ei (by omega) (by decide)) ?_
    show Q (.inl (some (.int (m 280 ((Int8.ofInt 6).toInt32 * Int32.ofNat n + Int32.ofNat k).toNatClampNeg)))) m t
    rw [ev_at ei (by omega), hr k hk]
    exact hQ
/-- rules -/
def ab_MR (m : ev_Mem) (rs : List (ab_Ls × ab_Ls)) : Prop := m 277 9 = Int32.ofNat rs.length ∧ ∀ r, r < rs.length → m 286 r = Int32.ofNat (rs.getD r ([], [])).1.length ∧ m 288 r = Int32.ofNat (rs.getD r ([], [])).2.length ∧ (∀ k, k < (rs.getD r ([], [])).1.length → m 285 (3 * r + k) = (rs.getD r ([], [])).1.getD k 0) ∧ (∀ k, k < (rs.getD r ([], [])).2.length → m 287 (2 * r + k) = (rs.getD r ([], [])).2.getD k 0)
def ab_stb (q l : ab_Ls) (f : Nat) : Nat → Bool
  | 0 => decide (f + q.length ≤ l.length)
  | k + 1 => ab_stb q l f k && decide (q.getD k 0 = l.getD (f + k) 0)
theorem ab_stb_iff {q l : ab_Ls} {f : Nat} : ∀ k, (ab_stb q l f k = true ↔ (f + q.length ≤ l.length ∧ ∀ j, j < k → q.getD j 0 = l.getD (f + j) 0))
  | 0 => by
    rw [ab_stb, decide_eq_true_eq]
    exact ⟨fun h => ⟨h, fun j hj => by omega⟩, fun h => h.1⟩
  | k + 1 => by
    rw [ab_stb, Bool.and_eq_true, ab_stb_iff k, decide_eq_true_eq]
    constructor
    · rintro ⟨⟨h1, h2⟩, h3⟩
      refine ⟨h1, fun j hj => ?_⟩
      by_cases hjk : j = k
      · rw [hjk]; exact h3
      · exact h2 j (by omega)
    · rintro ⟨h1, h2⟩
      exact ⟨⟨h1, fun j hj => h2 j (by omega)⟩, h2 k (by omega)⟩
theorem ab_stb_pre {q l : ab_Ls} {f : Nat} (hf : f ≤ l.length) : ab_stb q l f q.length = q.isPrefixOf (l.drop f) := by
  rw [Bool.eq_iff_iff, ab_stb_iff, List.isPrefixOf_iff_prefix, List.prefix_iff_getElem?]
  constructor
  · rintro ⟨h1, h2⟩ i hi
    have h3 := h2 i hi
    rw [List.getElem?_drop, List.getElem?_eq_getElem (by omega)]
    rw [List.getD_eq_getElem?_getD, List.getD_eq_getElem?_getD, List.getElem?_eq_getElem hi, List.getElem?_eq_getElem (by omega : f + i < l.length)] at h3
    exact congrArg some h3.symm
  · intro h
    have hlen : f + q.length ≤ l.length := by
      rcases Nat.eq_zero_or_pos q.length with z | z
      · omega
      · have h3 := h (q.length - 1) (by omega)
        rw [List.getElem?_drop] at h3
        have h4 := (List.getElem?_eq_some_iff.mp h3).1
        omega
    refine ⟨hlen, fun j hj => ?_⟩
    have h3 := h j hj
    rw [List.getElem?_drop] at h3
    rw [List.getD_eq_getElem?_getD, List.getD_eq_getElem?_getD, h3, List.getElem?_eq_getElem hj]
/-- stands -/
theorem ev_S146 {x : Option Nat} {r f : Nat} {l : ab_Ls} {rs : List (ab_Ls × ab_Ls)} (A : ev_all w) (hR : ab_MR m rs) (hRo : ab_Rok rs) (hl8 : rs.length ≤ 8) (hr : r < rs.length) (hl : ab_sm m x l) (hf : f ≤ l.length) (hQ : Q (.inl (some (.int (ab_bi ((rs.getD r ([], [])).1.isPrefixOf (l.drop f)))))) m t) : ev_K w 146 [.ref 277, .int (Int32.ofNat r), .int (ab_oi x), .int (Int32.ofNat f), .int (Int32.ofNat l.length)] m t Q := by
  have hp : ev_prog[146]? = some ev_m146 := rfl
  have hlen := ab_sm_len hl
  obtain ⟨o1, o2, -⟩ := ab_Rok_at hRo hr
  obtain ⟨r1, -, r3, -⟩ := hR.2 r hr
  generalize (rs.getD r ([], [])).1 = q at *
  have el := ev_ofNat_i (n := l.length) (by omega)
  have eq := ev_ofNat_i (n := q.length) (by omega)
  have erq : m 286 (Int32.ofNat r).toNatClampNeg = Int32.ofNat q.length := by rw [ev_on (by omega)]; exact r1
  rw [← ab_stb_pre hf] at hQ
  have loop := ev_lup (P := fun k => ∀ (kk bb : Int32), kk = Int32.ofNat k → bb = ab_bi (ab_stb q l f k) → ev_J w ev_m146 (ev_nd 146) Q 23 [ev_vr 277, ev_vn r, ev_vi (ab_oi x), ev_vn f, ev_vn l.length, ev_vi bb, ev_vi kk] [] m t) q.length (by
    intro k hk ih kk bb ekk ebb
    subst ekk ebb
    have ek := ev_ofNat_i (n := k) (by omega)
    refine ev_gK A hp [39, 75] 20 ?_
    refine And.intro (ev_oin (by omega) (by decide)) ?_
    refine And.intro (fun (h : (m 286 (Int32.ofNat r).toNatClampNeg).toInt ≤ (Int32.ofNat k).toInt) => ?_) (fun (h : (Int32.ofNat k).toInt < (m 286 (Int32.ofNat r).toNatClampNeg).toInt) => ?_)
    · rw [erq] at h
      have e : k = q.length := by omega
      subst e
      refine ev_gK A hp [] 10 ⟨?_, hQ⟩
      cases ab_stb q l f q.length <;> rfl
    · rw [erq] at h
      have hkq : k < q.length := by omega
      refine And.intro (fun h2 => ?_) (fun h2 => ?_)
      · have h3 := ab_bi_eq h2
        have hfin : ab_stb q l f q.length = false := by
          cases hb : ab_stb q l f q.length with
          | false => rfl
          | true =>
            have h4 := (ab_stb_iff q.length).mp hb
            have h5 := (ab_stb_iff k).mpr ⟨h4.1, fun j hj => h4.2 j (by omega)⟩
            rw [h5] at h3; cases h3
        rw [hfin] at hQ
        show ev_J w ev_m146 (ev_nd 146) Q 75 [ev_vr 277, ev_vn r, ev_vi (ab_oi x), ev_vn f, ev_vn l.length, ev_vi (ab_bi (ab_stb q l f k)), ev_vn k] [] m t
        rw [h3]
        exact ev_gK A hp [] 10 ⟨rfl, hQ⟩
      · have h3 := ab_bi_neq h2
        have h4 := (ab_stb_iff k).mp h3
        have ei : Int32.ofInt 3 * Int32.ofNat r + Int32.ofNat k = Int32.ofNat (3 * r + k) := ev_lin (c := 3) (by omega) (by omega) (by omega)
        show ev_J w ev_m146 (ev_nd 146) Q 39 [ev_vr 277, ev_vn r, ev_vi (ab_oi x), ev_vn f, ev_vn l.length, ev_vi (ab_bi (ab_stb q l f k)), ev_vn k] [] m t
        refine ev_gK A hp [] 13 ?_
        refine And.intro (ev_iin ei (by omega) (by decide)) ?_
        show ev_J w ev_m146 (ev_nd 146) Q 56 [ev_vr 277, ev_vn r, ev_vi (ab_oi x), ev_vn f, ev_vn l.length, ev_vi (ab_bi (ab_stb q l f k)), ev_vn k] [.int (Int32.ofNat f + Int32.ofNat k), .int (ab_oi x), .ref 277, .int (m 285 (Int32.ofInt 3 * Int32.ofNat r + Int32.ofNat k).toNatClampNeg)] m t
        rw [ev_addN (by omega), ev_at ei (by omega), r3 k hkq]
        have h67 : ∀ b : Bool, b = ab_stb q l f (k + 1) → ev_J w ev_m146 (ev_nd 146) Q 67 [ev_vr 277, ev_vn r, ev_vi (ab_oi x), ev_vn f, ev_vn l.length, ev_vi (ab_bi (ab_stb q l f k)), ev_vn k] [.int (ab_bi b)] m t := by
          intro b hb
          refine ev_gK A hp [23] 10 ?_
          exact ih hkq _ _ (ev_succ (by omega)) (by rw [hb])
        refine ev_gK A hp [67] 10 ?_
        refine ev_S147 A hl (by omega) ?_
        refine And.intro (fun (h5 : ¬ (q.getD k 0).toInt = (l.getD (f + k) 0).toInt) => ?_) (fun (h5 : (q.getD k 0).toInt = (l.getD (f + k) 0).toInt) => ?_)
        · exact h67 false (by rw [ab_stb, h3, decide_eq_false (fun e => h5 (by rw [e]))]; rfl)
        · exact h67 true (by rw [ab_stb, h3, decide_eq_true (ev_eq_of h5)]; rfl))
  have h18 : ∀ b : Bool, b = ab_stb q l f 0 → ev_J w ev_m146 (ev_nd 146) Q 18 [ev_vr 277, ev_vn r, ev_vi (ab_oi x), ev_vn f, ev_vn l.length, none, none] [.int (ab_bi b)] m t := by
    intro b hb
    refine ev_gK A hp [23] 10 ?_
    exact loop 0 (by omega) _ _ rfl (by rw [hb])
  refine ⟨Or.inr ⟨277, _, rfl, rfl⟩, ev_m146, rfl, ev_gK A hp [8] 10 ?_⟩
  refine And.intro (ev_oin (by omega) (by decide)) ?_
  show ev_J w ev_m146 (ev_nd 146) Q 8 [ev_vr 277, ev_vn r, ev_vi (ab_oi x), ev_vn f, ev_vn l.length, none, none] [.int (Int32.ofNat f + m 286 (Int32.ofNat r).toNatClampNeg)] m t
  rw [erq, ev_addN (by omega)]
  have efq := ev_ofNat_i (n := f + q.length) (by omega)
  refine ev_gK A hp [18] 10 ?_
  refine And.intro (fun (h : (Int32.ofNat l.length).toInt < (Int32.ofNat (f + q.length)).toInt) => ?_) (fun (h : (Int32.ofNat (f + q.length)).toInt ≤ (Int32.ofNat l.length).toInt) => ?_)
  · exact h18 false (by rw [ab_stb, decide_eq_false (by omega)])
  · exact h18 true (by rw [ab_stb, decide_eq_true (by omega)])
/-- the best rule, sought from the last -/
def ab_pd (l : ab_Ls) (f : Nat) : List (ab_Ls × ab_Ls) → Nat → Option (Nat × Nat)
  | [], _ => none
  | q :: rs, r => match ab_pd l f rs (r + 1) with
    | none => if q.1.isPrefixOf (l.drop f) = true then some (r, q.1.length) else none
    | some (i, n) => if n ≤ q.1.length ∧ q.1.isPrefixOf (l.drop f) = true then some (r, q.1.length) else some (i, n)
theorem ab_pk_pd (l : ab_Ls) (f : Nat) : ∀ (rs : List (ab_Ls × ab_Ls)) (r : Nat) (s : Option Nat × Nat), (∀ q ∈ rs, 1 ≤ q.1.length) → ab_pk l f rs r s = match ab_pd l f rs r with
    | none => s
    | some (i, n) => if s.2 < n then (some i, n) else s
  | [], _, _, _ => rfl
  | q :: rs, r, s, h => by
    have ih := ab_pk_pd l f rs (r + 1) (if s.2 < q.1.length ∧ q.1.isPrefixOf (l.drop f) = true then (some r, q.1.length) else s) (fun p hp => h p (List.mem_cons_of_mem _ hp))
    rw [ab_pk, ih, ab_pd]
    generalize q.1.isPrefixOf (l.drop f) = B
    generalize q.1.length = L
    cases ab_pd l f rs (r + 1) with
    | none =>
      cases B with
      | false => simp
      | true => simp
    | some p =>
      obtain ⟨i, n⟩ := p
      cases B with
      | false => simp
      | true =>
        by_cases hs : s.2 < L
        · by_cases hn : n ≤ L
          · have h1 : ¬ L < n := by omega
            simp [hs, hn, h1]
          · have h1 : L < n := by omega
            have h2 : s.2 < n := by omega
            simp [hs, hn, h1, h2]
        · by_cases hn : n ≤ L
          · have h1 : ¬ s.2 < n := by omega
            simp [hs, hn, h1]
          · simp [hs, hn]
theorem ab_pick_pd {l : ab_Ls} {f : Nat} {rs : List (ab_Ls × ab_Ls)} (h : ∀ q ∈ rs, 1 ≤ q.1.length) : ab_pick rs l f = (ab_pd l f rs 0).map (fun p => p.1) := by
  unfold ab_pick
  rw [ab_pk_pd l f rs 0 (none, 0) h]
  cases hd : ab_pd l f rs 0 with
  | none => rfl
  | some p =>
    obtain ⟨i, n⟩ := p
    have hn : 0 < n := by
      have key : ∀ (rs : List (ab_Ls × ab_Ls)) (r : Nat), (∀ q ∈ rs, 1 ≤ q.1.length) → ∀ i n, ab_pd l f rs r = some (i, n) → 0 < n := by
        intro rs
        induction rs with
        | nil => intro r _ i n h; cases h
        | cons q rs ih =>
          intro r hq i n h
          have hq1 := hq q List.mem_cons_self
          rw [ab_pd] at h
          split at h
          · split at h
            · cases h; omega
            · cases h
          · rename_i i' n' hd'
            split at h
            · cases h; omega
            · cases h; exact ih (r + 1) (fun p hp => hq p (List.mem_cons_of_mem _ hp)) _ _ hd'
      exact key rs 0 h i n hd
    simp only
    rw [if_pos hn]
    rfl
theorem ab_pd_lt {l : ab_Ls} {f : Nat} : ∀ (rs : List (ab_Ls × ab_Ls)) (r i n : Nat), ab_pd l f rs r = some (i, n) → r ≤ i ∧ i < r + rs.length ∧ n = (rs.getD (i - r) ([], [])).1.length
  | [], _, _, _, h => by cases h
  | q :: rs, r, i, n, h => by
    rw [ab_pd] at h
    rw [List.length_cons]
    split at h
    · split at h
      · cases h
        refine ⟨Nat.le_refl _, by omega, ?_⟩
        rw [Nat.sub_self]; rfl
      · cases h
    · rename_i i' n' hd
      split at h
      · cases h
        refine ⟨Nat.le_refl _, by omega, ?_⟩
        rw [Nat.sub_self]; rfl
      · cases h
        obtain ⟨a, b, c⟩ := ab_pd_lt rs (r + 1) i n hd
        refine ⟨by omega, by omega, ?_⟩
        rw [c]
        obtain ⟨k, hk⟩ : ∃ k, i - r = k + 1 := ⟨i - r - 1, by omega⟩
        rw [hk, (by omega : i - (r + 1) = k)]
        rfl
end EvModel
