/-! the class's joiner: one entry settled -/
section EvSettle
variable {w : ev_W} {Q : ev_QT} {m : ev_Mem} {t : ev_H}
/-- Joiner.offer -/
theorem ev_S55 {h s c d : Nat} (A : ev_all w) (hh : h < 275) (hc : c < 100000000) (hd : d < 100000000) (hm : m 214 h = Int32.ofNat d) (hQ : Q (.inl none) (if c < d then ev_up (ev_up m 214 h (Int32.ofNat c)) 215 h (Int32.ofNat s) else m) t) : ev_K w 55 [.ref 213, .int (Int32.ofNat h), .int (Int32.ofNat s), .int (Int32.ofNat c)] m t Q := by
  have hp : ev_prog[55]? = some ev_m55 := rfl
  have nh : (Int32.ofNat h).toNatClampNeg = h := ev_on (by omega)
  have ec := ev_ofNat_i (n := c) (by omega)
  have ed := ev_ofNat_i (n := d) (by omega)
  refine ⟨Or.inr ⟨213, _, rfl, rfl⟩, ev_m55, rfl, ev_gK A hp [10] 20 ?_⟩
  refine And.intro (ev_oin hh (by decide)) ?_
  refine And.intro (fun q => ?_) (fun q => ?_)
  · have h2 : (m 214 (Int32.ofNat h).toNatClampNeg).toInt ≤ (Int32.ofNat c).toInt := q
    rw [nh, hm] at h2
    rw [if_neg (by omega)] at hQ
    exact hQ
  · have h2 : (Int32.ofNat c).toInt < (m 214 (Int32.ofNat h).toNatClampNeg).toInt := q
    rw [nh, hm] at h2
    rw [if_pos (by omega)] at hQ
    show ev_J w ev_m55 (ev_nd 55) Q 10 [some (.ref 213), some (.int (Int32.ofNat h)), some (.int (Int32.ofNat s)), some (.int (Int32.ofNat c))] [] m t
    refine ev_gK A hp [] 20 ?_
    refine And.intro (ev_oin hh (by decide)) ?_
    refine And.intro (ev_oin hh (by decide)) ?_
    show Q (.inl none) (ev_up (ev_up m 214 (Int32.ofNat h).toNatClampNeg (Int32.ofNat c)) 215 (Int32.ofNat h).toNatClampNeg (Int32.ofNat s)) t
    rw [nh]
    exact hQ
theorem ev_row11 {p j : Nat} (hp : p < 1000) (hj : j < 1000) : Int32.ofNat p * 11 + Int32.ofNat j = Int32.ofNat (11 * p + j) := by
  apply ev_eq_of
  have e4 : (11 : Int32).toInt = 11 := by decide
  have ea := ev_ofNat_i (n := p) (by omega)
  have eb := ev_ofNat_i (n := j) (by omega)
  have e1 : (Int32.ofNat p * 11).toInt = (p : Int) * 11 := by rw [ev_mul_i (by rw [ea, e4]; omega) (by rw [ea, e4]; omega), ea, e4]
  rw [ev_add_i (by omega) (by omega), e1, eb, ev_ofNat_i (by omega)]
  omega
theorem ev_ne_of {a b : Nat} (ha : a < 100000) (hb : b < 100000) (h : (Int32.ofNat a).toInt = (Int32.ofNat b).toInt) : a = b := by
  rw [ev_ofNat_i (by omega), ev_ofNat_i (by omega)] at h
  omega
/-- behind an offer -/
def ab_of (m : ev_Mem) (h s c d : Nat) : ev_Mem := if c < d then ev_up (ev_up m 214 h (Int32.ofNat c)) 215 h (Int32.ofNat s) else m
theorem ab_of_fr (m : ev_Mem) (h s c d : Nat) {k j : Nat} (hk : ¬ ((k = 214 ∨ k = 215) ∧ j = h)) : ab_of m h s c d k j = m k j := by
  unfold ab_of
  split
  · unfold ev_up
    rw [if_neg (fun q => hk ⟨Or.inr q.1, q.2⟩), if_neg (fun q => hk ⟨Or.inl q.1, q.2⟩)]
  · rfl
theorem ab_of_c (m : ev_Mem) (h s c d : Nat) (hm : m 214 h = Int32.ofNat d) : ab_of m h s c d 214 h = Int32.ofNat (min c d) := by
  unfold ab_of
  split
  · rename_i q
    rw [ev_up_cell _ (by decide), ev_up_same, Nat.min_eq_left (by omega)]
  · rename_i q
    rw [hm, Nat.min_eq_right (by omega)]
theorem ab_of_s (m : ev_Mem) (h s c d : Nat) : ab_of m h s c d 215 h = if c < d then Int32.ofNat s else m 215 h := by
  unfold ab_of
  split
  · rw [ev_up_same]
  · rfl
/-- Joiner.settle: x, y, z: what is left behind a match, a pass, a putting in -/
def ab_b0 (p j N J : Nat) : Nat := if p = N ∧ j = J then 0 else 1000000
def ab_b1 (p j N J : Nat) (mc : Option Nat) (x : Nat) : Nat := match mc with
  | none => ab_b0 p j N J
  | some c => min (c + x) (ab_b0 p j N J)
def ab_b2 (p j N J : Nat) (mc : Option Nat) (x y : Nat) : Nat := if p < N then min (8 + y) (ab_b1 p j N J mc x) else ab_b1 p j N J mc x
def ab_b3 (p j N J : Nat) (mc : Option Nat) (x y z : Nat) : Nat := if j < J then min (8 + z) (ab_b2 p j N J mc x y) else ab_b2 p j N J mc x y
def ab_st (p j N J : Nat) (mc : Option Nat) (x y z : Nat) (s : Int32) : Int32 :=
  if j < J ∧ 8 + z < ab_b2 p j N J mc x y then 2 else if p < N ∧ 8 + y < ab_b1 p j N J mc x then 1 else if (∃ c, mc = some c ∧ c + x < ab_b0 p j N J) then 0 else s
end EvSettle
