/-! the class's joiner: one entry settled -/
section EvSettle
variable {w : ev_W} {Q : ev_QT} {m : ev_Mem} {t : ev_H}
/-- Joiner.offer -/
theorem ev_S55 {h s c d : Nat} (A : ev_all w) (hh : h < 275) (hc : c < 100000000) (hd : d < 100000000) (hm : m 214 h = Int32.ofNat d) (hQ : Q (.inl none) (if c < d then ev_up (ev_up m 214 h (Int32.ofNat c)) 215 h (Int32.ofNat s) else m) t) : ev_K w 55 [.ref 213, .int (Int32.ofNat h), .int (Int32.ofNat s), .int (Int32.ofNat c)] m t Q := by
  have hp : ev_prog[55]? = some ev_m55 := rfl
  have nh : (Int32.ofNat h).toNatClampNeg = h := ev_on (by omega)
  have ec := ev_ofNat_i (n := c) (by omega)
  have ed := ev_ofNat_i (n := d) (by omega)
  refine ⟨Or.inr ⟨213, _, rfl, rfl⟩, ev_m55, rfl, ev_gK A hp [10] 20 ?_⟩
  refine And.intro (ev_oin hh (by decide)) ?_
  refine And.intro (fun q => ?_) (fun q => ?_)
  · have h2 : (m 214 (Int32.ofNat h).toNatClampNeg).toInt ≤ (Int32.ofNat c).toInt := q
    rw [nh, hm] at h2
    rw [if_neg (by omega)] at hQ
    exact hQ
  · have h2 : (Int32.ofNat c).toInt < (m 214 (Int32.ofNat h).toNatClampNeg).toInt := q
    rw [nh, hm] at h2
    rw [if_pos (by omega)] at hQ
    show ev_J w ev_m55 (ev_nd 55) Q 10 [some (.ref 213), some (.int (Int32.ofNat h)), some (.int (Int32.ofNat s)), some (.int (Int32.ofNat c))] [] m t
    refine ev_gK A hp [] 20 ?_
    refine And.intro (ev_oin hh (by decide)) ?_
    refine And.intro (ev_oin hh (by decide)) ?_
    show Q (.inl none) (ev_up (ev_up m 214 (Int32.ofNat h).toNatClampNeg (Int32.ofNat c)) 215 (Int32.ofNat h).toNatClampNeg (Int32.ofNat s)) t
    rw [nh]
    exact hQ
theorem ev_row11 {p j : Nat} (hp : p < 1000) (hj : j < 1000) : Int32.ofNat p * 11 + Int32.ofNat j = Int32.ofNat (11 * p + j) := by
  apply ev_eq_of
  have e4 : (11 : Int32).toInt = 11 := by decide
  have ea := ev_ofNat_i (n := p) (by omega)
  have eb := ev_ofNat_i (n := j) (by omega)
  have e1 : (Int32.ofNat p * 11).toInt = (p : Int) * 11 := by rw [ev_mul_i (by rw [ea, e4]; omega) (by rw [ea, e4]; omega), ea, e4]
  rw [ev_add_i (by omega) (by omega), e1, eb, ev_ofNat_i (by omega)]
  omega
theorem ev_ne_of {a b : Nat} (ha : a < 100000) (hb : b < 100000) (h : (Int32.ofNat a).toInt = (Int32.ofNat b).toInt) : a = b := by
  rw [ev_ofNat_i (by omega), ev_ofNat_i (by omega)] at h
  omega
/-- behind an offer -/
def ab_of (m : ev_Mem) (h s c d : Nat) : ev_Mem := if c < d then ev_up (ev_up m 214 h (Int32.ofNat c)) 215 h (Int32.ofNat s) else m
theorem ab_of_fr (m : ev_Mem) (h s c d : Nat) {k j : Nat} (hk : ¬ ((k = 214 ∨ k = 215) ∧ j = h)) : ab_of m h s c d k j = m k j := by
  unfold ab_of
  split
  · unfold ev_up
    rw [if_neg (fun q => hk ⟨Or.inr q.1, q.2⟩), if_neg (fun q => hk ⟨Or.inl q.1, q.2⟩)]
  · rfl
theorem ab_of_c (m : ev_Mem) (h s c d : Nat) (hm : m 214 h = Int32.ofNat d) : ab_of m h s c d 214 h = Int32.ofNat (min c d) := by
  unfold ab_of
  split
  · rename_i q
    rw [ev_up_cell _ (by decide), ev_up_same, Nat.min_eq_left (by omega)]
  · rename_i q
    rw [hm, Nat.min_eq_right (by omega)]
theorem ab_of_s (m : ev_Mem) (h s c d : Nat) : ab_of m h s c d 215 h = if c < d then Int32.ofNat s else m 215 h := by
  unfold ab_of
  split
  · rw [ev_up_same]
  · rfl
/-- Joiner.settle: x, y, z: what is left behind a match, a pass, a putting in -/
def ab_b0 (p j N J : Nat) : Nat := if p = N ∧ j = J then 0 else 1000000
def ab_b1 (p j N J : Nat) (mc : Option Nat) (x : Nat) : Nat := match mc with
  | none => ab_b0 p j N J
  | some c => min (c + x) (ab_b0 p j N J)
def ab_b2 (p j N J : Nat) (mc : Option Nat) (x y : Nat) : Nat := if p < N then min (8 + y) (ab_b1 p j N J mc x) else ab_b1 p j N J mc x
def ab_b3 (p j N J : Nat) (mc : Option Nat) (x y z : Nat) : Nat := if j < J then min (8 + z) (ab_b2 p j N J mc x y) else ab_b2 p j N J mc x y
def ab_m1 (m : ev_Mem) (p j N J : Nat) (mc : Option Nat) (x : Nat) : ev_Mem := match mc with
  | none => ev_up m 214 (11 * p + j) (Int32.ofNat (ab_b0 p j N J))
  | some c => ab_of (ev_up m 214 (11 * p + j) (Int32.ofNat (ab_b0 p j N J))) (11 * p + j) 0 (c + x) (ab_b0 p j N J)
def ab_m2 (m : ev_Mem) (p j N J : Nat) (mc : Option Nat) (x y : Nat) : ev_Mem := if p < N then ab_of (ab_m1 m p j N J mc x) (11 * p + j) 1 (8 + y) (ab_b1 p j N J mc x) else ab_m1 m p j N J mc x
def ab_m3 (m : ev_Mem) (p j N J : Nat) (mc : Option Nat) (x y z : Nat) : ev_Mem := if j < J then ab_of (ab_m2 m p j N J mc x y) (11 * p + j) 2 (8 + z) (ab_b2 p j N J mc x y) else ab_m2 m p j N J mc x y
theorem ab_m1_fr (m : ev_Mem) (p j N J : Nat) (mc : Option Nat) (x : Nat) {k i : Nat} (h : ¬ ((k = 214 ∨ k = 215) ∧ i = 11 * p + j)) : ab_m1 m p j N J mc x k i = m k i := by
  have e1 : ev_up m 214 (11 * p + j) (Int32.ofNat (ab_b0 p j N J)) k i = m k i := if_neg (fun q => h ⟨Or.inl q.1, q.2⟩)
  unfold ab_m1
  split
  · exact e1
  · rw [ab_of_fr _ _ _ _ _ h]; exact e1
theorem ab_m2_fr (m : ev_Mem) (p j N J : Nat) (mc : Option Nat) (x y : Nat) {k i : Nat} (h : ¬ ((k = 214 ∨ k = 215) ∧ i = 11 * p + j)) : ab_m2 m p j N J mc x y k i = m k i := by
  unfold ab_m2
  split
  · rw [ab_of_fr _ _ _ _ _ h]; exact ab_m1_fr m p j N J mc x h
  · exact ab_m1_fr m p j N J mc x h
theorem ab_m3_fr (m : ev_Mem) (p j N J : Nat) (mc : Option Nat) (x y z : Nat) {k i : Nat} (h : ¬ ((k = 214 ∨ k = 215) ∧ i = 11 * p + j)) : ab_m3 m p j N J mc x y z k i = m k i := by
  unfold ab_m3
  split
  · rw [ab_of_fr _ _ _ _ _ h]; exact ab_m2_fr m p j N J mc x y h
  · exact ab_m2_fr m p j N J mc x y h
theorem ab_m1_c (m : ev_Mem) (p j N J : Nat) (mc : Option Nat) (x : Nat) : ab_m1 m p j N J mc x 214 (11 * p + j) = Int32.ofNat (ab_b1 p j N J mc x) := by
  unfold ab_m1 ab_b1
  cases mc with
  | none => exact ev_up_same _ _ _ _
  | some c => exact ab_of_c _ _ _ _ _ (ev_up_same _ _ _ _)
theorem ab_m2_c (m : ev_Mem) (p j N J : Nat) (mc : Option Nat) (x y : Nat) : ab_m2 m p j N J mc x y 214 (11 * p + j) = Int32.ofNat (ab_b2 p j N J mc x y) := by
  unfold ab_m2 ab_b2
  split
  · exact ab_of_c _ _ _ _ _ (ab_m1_c m p j N J mc x)
  · exact ab_m1_c m p j N J mc x
theorem ab_m3_c (m : ev_Mem) (p j N J : Nat) (mc : Option Nat) (x y z : Nat) : ab_m3 m p j N J mc x y z 214 (11 * p + j) = Int32.ofNat (ab_b3 p j N J mc x y z) := by
  unfold ab_m3 ab_b3
  split
  · exact ab_of_c _ _ _ _ _ (ab_m2_c m p j N J mc x y)
  · exact ab_m2_c m p j N J mc x y
theorem ab_b1_le (p j N J : Nat) (mc : Option Nat) (x : Nat) : ab_b1 p j N J mc x ≤ 1000000 := by
  have h0 : ab_b0 p j N J ≤ 1000000 := by unfold ab_b0; split <;> omega
  unfold ab_b1
  split <;> omega
theorem ab_b2_le (p j N J : Nat) (mc : Option Nat) (x y : Nat) : ab_b2 p j N J mc x y ≤ 1000000 := by
  have h0 := ab_b1_le p j N J mc x
  unfold ab_b2
  split <;> omega
/-- Joiner.settle -/
theorem ev_S54 {p j N J x y z : Nat} {mc : Option Nat} (A : ev_all w) (hN : m 213 4 = Int32.ofNat N) (hJ : m 213 5 = Int32.ofNat J) (hpN : p ≤ N) (hjJ : j ≤ J) (hN24 : N ≤ 24) (hJ10 : J ≤ 10) (hx : x < 1000000) (hy : y < 1000000) (hz : z < 1000000) (hmc : ∀ c, mc = some c → c < 1000000 ∧ p < N ∧ j < J)
    (h1 : ∀ c, mc = some c → m 214 (11 * p + j + 12) = Int32.ofNat x) (h2 : p < N → m 214 (11 * p + j + 11) = Int32.ofNat y) (h3 : j < J → m 214 (11 * p + j + 1) = Int32.ofNat z)
    (hQ : Q (.inl none) (ab_m3 m p j N J mc x y z) t) : ev_K w 54 [.ref 213, .int (Int32.ofNat p), .int (Int32.ofNat j), .int (ab_oi mc)] m t Q := by
  have hp : ev_prog[54]? = some ev_m54 := rfl
  have hh : 11 * p + j < 275 := by omega
  have nh : (Int32.ofNat (11 * p + j)).toNatClampNeg = 11 * p + j := ev_on (by omega)
  have eN := ev_ofNat_i (n := N) (by omega)
  have eJ := ev_ofNat_i (n := J) (by omega)
  have ep := ev_ofNat_i (n := p) (by omega)
  have ej := ev_ofNat_i (n := j) (by omega)
  have e8 : Int32.ofNat 8 + Int32.ofNat y = Int32.ofNat (8 + y) := ev_addN (by omega)
  have e8z : Int32.ofNat 8 + Int32.ofNat z = Int32.ofNat (8 + z) := ev_addN (by omega)
  -- the third offer
  have s3 : ∀ mk : ev_Mem, mk = ab_m2 m p j N J mc x y → ev_J w ev_m54 (ev_nd 54) Q 91 [some (.ref 213), some (.int (Int32.ofNat p)), some (.int (Int32.ofNat j)), some (.int (ab_oi mc)), some (.int (Int32.ofNat (11 * p + j)))] [] mk t := by
    intro mk hmk
    have hJk : mk 213 5 = Int32.ofNat J := by rw [hmk, ab_m2_fr _ _ _ _ _ _ _ _ (by omega)]; exact hJ
    refine ev_gK A hp [99] 10 ?_
    refine And.intro (fun h => ?_) (fun h => ?_)
    · have q : (mk 213 5).toInt ≤ (Int32.ofNat j).toInt := h
      rw [hJk] at q
      unfold ab_m3 at hQ
      rw [if_neg (by omega), ← hmk] at hQ
      exact hQ
    · have q : (Int32.ofNat j).toInt < (mk 213 5).toInt := h
      rw [hJk] at q
      have hjl : j < J := by omega
      unfold ab_m3 at hQ
      rw [if_pos hjl, ← hmk] at hQ
      show ev_J w ev_m54 (ev_nd 54) Q 99 [some (.ref 213), some (.int (Int32.ofNat p)), some (.int (Int32.ofNat j)), some (.int (ab_oi mc)), some (.int (Int32.ofNat (11 * p + j)))] [] mk t
      have ez : mk 214 (11 * p + j + 1) = Int32.ofNat z := by rw [hmk, ab_m2_fr _ _ _ _ _ _ _ _ (by omega)]; exact h3 hjl
      refine ev_gK A hp [] 9 ?_
      show ev_J w ev_m54 (ev_nd 54) Q 113 [some (.ref 213), some (.int (Int32.ofNat p)), some (.int (Int32.ofNat j)), some (.int (ab_oi mc)), some (.int (Int32.ofNat (11 * p + j)))] [.int (Int32.ofNat (11 * p + j) + Int32.ofNat 1), .ref 214, .int (Int32.ofNat 8), .int (Int32.ofNat 2), .int (Int32.ofNat (11 * p + j)), .ref 213] mk t
      rw [ev_addN (by omega)]
      refine ev_gK A hp [] 10 ?_
      refine And.intro (ev_oin (by omega) (by decide)) ?_
      show ev_K w 55 [.ref 213, .int (Int32.ofNat (11 * p + j)), .int (Int32.ofNat 2), .int (Int32.ofNat 8 + mk 214 (Int32.ofNat (11 * p + j + 1)).toNatClampNeg)] mk t _
      rw [ev_on (by omega), ez, e8z]
      exact ev_S55 (d := ab_b2 p j N J mc x y) A hh (by omega) (by have := ab_b2_le p j N J mc x y; omega) (by rw [hmk]; exact ab_m2_c m p j N J mc x y) hQ
  -- the second
  have s2 : ∀ mk : ev_Mem, mk = ab_m1 m p j N J mc x → ev_J w ev_m54 (ev_nd 54) Q 63 [some (.ref 213), some (.int (Int32.ofNat p)), some (.int (Int32.ofNat j)), some (.int (ab_oi mc)), some (.int (Int32.ofNat (11 * p + j)))] [] mk t := by
    intro mk hmk
    have hNk : mk 213 4 = Int32.ofNat N := by rw [hmk, ab_m1_fr _ _ _ _ _ _ _ (by omega)]; exact hN
    refine ev_gK A hp [71, 91] 10 ?_
    refine And.intro (fun h => ?_) (fun h => ?_)
    · have q : (mk 213 4).toInt ≤ (Int32.ofNat p).toInt := h
      rw [hNk] at q
      refine s3 mk ?_
      unfold ab_m2
      rw [if_neg (by omega)]
      exact hmk
    · have q : (Int32.ofNat p).toInt < (mk 213 4).toInt := h
      rw [hNk] at q
      have hpl : p < N := by omega
      show ev_J w ev_m54 (ev_nd 54) Q 71 [some (.ref 213), some (.int (Int32.ofNat p)), some (.int (Int32.ofNat j)), some (.int (ab_oi mc)), some (.int (Int32.ofNat (11 * p + j)))] [] mk t
      have ey : mk 214 (11 * p + j + 11) = Int32.ofNat y := by rw [hmk, ab_m1_fr _ _ _ _ _ _ _ (by omega)]; exact h2 hpl
      refine ev_gK A hp [] 9 ?_
      show ev_J w ev_m54 (ev_nd 54) Q 86 [some (.ref 213), some (.int (Int32.ofNat p)), some (.int (Int32.ofNat j)), some (.int (ab_oi mc)), some (.int (Int32.ofNat (11 * p + j)))] [.int (Int32.ofNat (11 * p + j) + Int32.ofNat 11), .ref 214, .int (Int32.ofNat 8), .int (Int32.ofNat 1), .int (Int32.ofNat (11 * p + j)), .ref 213] mk t
      rw [ev_addN (by omega)]
      refine ev_gK A hp [91] 10 ?_
      refine And.intro (ev_oin (by omega) (by decide)) ?_
      show ev_K w 55 [.ref 213, .int (Int32.ofNat (11 * p + j)), .int (Int32.ofNat 1), .int (Int32.ofNat 8 + mk 214 (Int32.ofNat (11 * p + j + 11)).toNatClampNeg)] mk t _
      rw [ev_on (by omega), ey, e8]
      refine ev_S55 (d := ab_b1 p j N J mc x) A hh (by omega) (by have := ab_b1_le p j N J mc x; omega) (by rw [hmk]; exact ab_m1_c m p j N J mc x) ?_
      refine s3 _ ?_
      unfold ab_m2
      rw [if_pos hpl, ← hmk]
      rfl
  -- the first
  have s1 : ev_J w ev_m54 (ev_nd 54) Q 37 [some (.ref 213), some (.int (Int32.ofNat p)), some (.int (Int32.ofNat j)), some (.int (ab_oi mc)), some (.int (Int32.ofNat (11 * p + j)))] [] (ev_up m 214 (11 * p + j) (Int32.ofNat (ab_b0 p j N J))) t := by
    have hb0 : ab_b0 p j N J ≤ 1000000 := by unfold ab_b0; split <;> omega
    refine ev_gK A hp [42, 63] 10 ?_
    refine And.intro (fun h => ?_) (fun h => ?_)
    · have q : (ab_oi mc).toInt = (Int32.ofInt (-1)).toInt := h
      cases mc with
      | none => exact s2 _ rfl
      | some c =>
        have hc := (hmc c rfl).1
        have e1 : (ab_oi (some c)).toInt = (c : Int) := ev_ofNat_i (by omega)
        rw [ev_im1] at q
        omega
    · have q : ¬ (ab_oi mc).toInt = (Int32.ofInt (-1)).toInt := h
      cases mc with
      | none => exact absurd rfl q
      | some c =>
        obtain ⟨c1, c2, c3⟩ := hmc c rfl
        show ev_J w ev_m54 (ev_nd 54) Q 42 [some (.ref 213), some (.int (Int32.ofNat p)), some (.int (Int32.ofNat j)), some (.int (Int32.ofNat c)), some (.int (Int32.ofNat (11 * p + j)))] [] (ev_up m 214 (11 * p + j) (Int32.ofNat (ab_b0 p j N J))) t
        refine ev_gK A hp [] 11 ?_
        show ev_J w ev_m54 (ev_nd 54) Q 58 [some (.ref 213), some (.int (Int32.ofNat p)), some (.int (Int32.ofNat j)), some (.int (Int32.ofNat c)), some (.int (Int32.ofNat (11 * p + j)))] [.int (Int32.ofNat (11 * p + j) + Int32.ofNat 11 + Int32.ofNat 1), .ref 214, .int (Int32.ofNat c), .int (Int32.ofNat 0), .int (Int32.ofNat (11 * p + j)), .ref 213] (ev_up m 214 (11 * p + j) (Int32.ofNat (ab_b0 p j N J))) t
        rw [ev_addN (by omega), ev_addN (by omega)]
        refine ev_gK A hp [63] 10 ?_
        refine And.intro (ev_oin (by omega) (by decide)) ?_
        show ev_K w 55 [.ref 213, .int (Int32.ofNat (11 * p + j)), .int (Int32.ofNat 0), .int (Int32.ofNat c + ev_up m 214 (11 * p + j) (Int32.ofNat (ab_b0 p j N J)) 214 (Int32.ofNat (11 * p + j + 11 + 1)).toNatClampNeg)] (ev_up m 214 (11 * p + j) (Int32.ofNat (ab_b0 p j N J))) t _
        rw [ev_on (by omega), ev_up_idx _ _ (by omega), h1 c rfl, ev_addN (by omega)]
        refine ev_S55 (d := ab_b0 p j N J) A hh (by omega) (by omega) (ev_up_same _ _ _ _) ?_
        exact s2 _ rfl
  -- the beginning
  have s0 : ∀ b : Nat, b = ab_b0 p j N J → ev_J w ev_m54 (ev_nd 54) Q 36 [some (.ref 213), some (.int (Int32.ofNat p)), some (.int (Int32.ofNat j)), some (.int (ab_oi mc)), some (.int (Int32.ofNat (11 * p + j)))] [.int (Int32.ofNat b), .int (Int32.ofNat (11 * p + j)), .ref 214] m t := by
    intro b hb
    refine ev_gK A hp [37] 10 ?_
    refine And.intro (ev_oin hh (by decide)) ?_
    show ev_J w ev_m54 (ev_nd 54) Q 37 [some (.ref 213), some (.int (Int32.ofNat p)), some (.int (Int32.ofNat j)), some (.int (ab_oi mc)), some (.int (Int32.ofNat (11 * p + j)))] [] (ev_up m 214 (Int32.ofNat (11 * p + j)).toNatClampNeg (Int32.ofNat b)) t
    rw [nh, hb]
    exact s1
  refine ⟨Or.inr ⟨213, _, rfl, rfl⟩, ev_m54, rfl, ev_gK A hp [] 6 ?_⟩
  show ev_J w ev_m54 (ev_nd 54) Q 8 [some (.ref 213), some (.int (Int32.ofNat p)), some (.int (Int32.ofNat j)), some (.int (ab_oi mc)), some (.int (Int32.ofNat p * 11 + Int32.ofNat j))] [] m t
  rw [ev_row11 (by omega) (by omega)]
  refine ev_gK A hp [36] 20 ?_
  refine And.intro (fun h => ?_) (fun h => ?_)
  · have q : ¬ (Int32.ofNat p).toInt = (m 213 4).toInt := h
    rw [hN] at q
    refine s0 1000000 ?_
    unfold ab_b0
    rw [if_neg (fun z => q (by rw [z.1]))]
  refine And.intro (fun h => ?_) (fun h => ?_)
  · have q : ¬ (Int32.ofNat j).toInt = (m 213 5).toInt := h
    rw [hJ] at q
    refine s0 1000000 ?_
    unfold ab_b0
    rw [if_neg (fun z => q (by rw [z.2]))]
  · rename_i hq
    have q1 : (Int32.ofNat p).toInt = (m 213 4).toInt := hq
    have q2 : (Int32.ofNat j).toInt = (m 213 5).toInt := h
    rw [hN] at q1
    rw [hJ] at q2
    refine s0 0 ?_
    unfold ab_b0
    rw [if_pos ⟨ev_ne_of (by omega) (by omega) q1, ev_ne_of (by omega) (by omega) q2⟩]
end EvSettle
