/-! the least cost of what is left: a places and b words -/
section EvCosts
def ab_Cn (prev f : Nat → Nat) : Nat → Nat
  | 0 => 8 + prev 0
  | b + 1 => min (f b + prev b) (min (8 + prev (b + 1)) (8 + ab_Cn prev f b))
def ab_C (g : Nat → Nat → Nat) : Nat → Nat → Nat
  | 0 => fun b => 8 * b
  | a + 1 => ab_Cn (ab_C g a) (g a)
theorem ab_C00 (g : Nat → Nat → Nat) : ab_C g 0 0 = 0 := rfl
theorem ab_C0s (g : Nat → Nat → Nat) (b : Nat) : ab_C g 0 (b + 1) = 8 + ab_C g 0 b := by show 8 * (b + 1) = 8 + 8 * b; omega
theorem ab_Cs0 (g : Nat → Nat → Nat) (a : Nat) : ab_C g (a + 1) 0 = 8 + ab_C g a 0 := rfl
theorem ab_Css (g : Nat → Nat → Nat) (a b : Nat) : ab_C g (a + 1) (b + 1) = min (g a b + ab_C g a b) (min (8 + ab_C g a (b + 1)) (8 + ab_C g (a + 1) b)) := rfl
theorem ab_C_le (g : Nat → Nat → Nat) : ∀ a b, ab_C g a b ≤ 8 * (a + b)
  | 0, b => by show 8 * b ≤ _; omega
  | a + 1, 0 => by
    have h := ab_C_le g a 0
    rw [ab_Cs0]; omega
  | a + 1, b + 1 => by
    have h := ab_C_le g a (b + 1)
    rw [ab_Css]; omega
/-- the step taken: 0 a match, 1 a place passed, 2 a word put in -/
def ab_S (g : Nat → Nat → Nat) (a b : Nat) : Nat :=
  if 0 < a ∧ 0 < b ∧ ab_C g a b = g (a - 1) (b - 1) + ab_C g (a - 1) (b - 1) then 0 else if 0 < a ∧ ab_C g a b = 8 + ab_C g (a - 1) b then 1 else 2
/-- what settle's row asks for, of what is left -/
def ab_mco (g : Nat → Nat → Nat) (a b : Nat) : Option Nat := if 0 < a ∧ 0 < b then some (g (a - 1) (b - 1)) else none
theorem ab_b3_C (g : Nat → Nat → Nat) (hg : ∀ a b, g a b ≤ 12) {p j N J : Nat} (hp : p ≤ N) (hj : j ≤ J) (hN : N ≤ 24) (hJ : J ≤ 10) : ab_b3 p j N J (ab_mco g (N - p) (J - j)) (ab_C g (N - p - 1) (J - j - 1)) (ab_C g (N - p - 1) (J - j)) (ab_C g (N - p) (J - j - 1)) = ab_C g (N - p) (J - j) := by
  have c1 := ab_C_le g (N - p) (J - j)
  obtain ⟨a, ha⟩ : ∃ a, N - p = a := ⟨_, rfl⟩
  obtain ⟨b, hb⟩ : ∃ b, J - j = b := ⟨_, rfl⟩
  rw [ha, hb] at c1
  rw [ha, hb]
  unfold ab_b3 ab_b2 ab_b1 ab_b0 ab_mco
  cases a with
  | zero =>
    cases b with
    | zero =>
      rw [if_neg (by omega), if_neg (by omega)]
      simp only [Nat.lt_irrefl, false_and, if_false]
      rw [if_pos ⟨by omega, by omega⟩]
      rfl
    | succ b =>
      have c2 := ab_C_le g 0 b
      rw [if_pos (by omega), if_neg (by omega)]
      simp only [Nat.lt_irrefl, false_and, if_false, Nat.add_sub_cancel]
      rw [if_neg (by omega), ab_C0s]
      omega
  | succ a =>
    cases b with
    | zero =>
      have c2 := ab_C_le g a 0
      rw [if_neg (by omega), if_pos (by omega)]
      simp only [Nat.lt_irrefl, and_false, if_false, Nat.add_sub_cancel]
      rw [if_neg (by omega), ab_Cs0]
      omega
    | succ b =>
      have c2 := ab_C_le g a (b + 1)
      have c3 := ab_C_le g (a + 1) b
      have c4 := ab_C_le g a b
      have c5 := hg a b
      rw [if_pos (by omega), if_pos (by omega)]
      simp only [Nat.zero_lt_succ, and_self, if_true, Nat.add_sub_cancel]
      rw [if_neg (by omega), ab_Css]
      omega
end EvCosts
