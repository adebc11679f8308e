/-! .. and the step that settle lays down -/
section EvSteps
theorem ab_m1_s (m : ev_Mem) (p j N J : Nat) (mc : Option Nat) (x : Nat) : ab_m1 m p j N J mc x 215 (11 * p + j) = match mc with | none => m 215 (11 * p + j) | some c => if c + x < ab_b0 p j N J then Int32.ofNat 0 else m 215 (11 * p + j) := by
  unfold ab_m1
  cases mc with
  | none => exact ev_up_cell _ (by decide) _ _ _
  | some c =>
    show ab_of _ _ _ _ _ 215 (11 * p + j) = _
    rw [ab_of_s, ev_up_cell _ (by decide)]
theorem ab_m2_s (m : ev_Mem) (p j N J : Nat) (mc : Option Nat) (x y : Nat) : ab_m2 m p j N J mc x y 215 (11 * p + j) = if p < N ∧ 8 + y < ab_b1 p j N J mc x then Int32.ofNat 1 else ab_m1 m p j N J mc x 215 (11 * p + j) := by
  unfold ab_m2
  by_cases hp : p < N
  · rw [if_pos hp, ab_of_s]
    by_cases h : 8 + y < ab_b1 p j N J mc x
    · rw [if_pos h, if_pos ⟨hp, h⟩]
    · rw [if_neg h, if_neg (fun q => h q.2)]
  · rw [if_neg hp, if_neg (fun q => hp q.1)]
theorem ab_m3_s (m : ev_Mem) (p j N J : Nat) (mc : Option Nat) (x y z : Nat) : ab_m3 m p j N J mc x y z 215 (11 * p + j) = if j < J ∧ 8 + z < ab_b2 p j N J mc x y then Int32.ofNat 2 else ab_m2 m p j N J mc x y 215 (11 * p + j) := by
  unfold ab_m3
  by_cases hp : j < J
  · rw [if_pos hp, ab_of_s]
    by_cases h : 8 + z < ab_b2 p j N J mc x y
    · rw [if_pos h, if_pos ⟨hp, h⟩]
    · rw [if_neg h, if_neg (fun q => h q.2)]
  · rw [if_neg hp, if_neg (fun q => hp q.1)]
theorem ab_m3_S (m : ev_Mem) (g : Nat → Nat → Nat) (hg : ∀ a b, g a b ≤ 12) {p j N J : Nat} (hp : p ≤ N) (hj : j ≤ J) (hN : N ≤ 24) (hJ : J ≤ 10) (hne : ¬ (p = N ∧ j = J)) :
    ab_m3 m p j N J (ab_mco g (N - p) (J - j)) (ab_C g (N - p - 1) (J - j - 1)) (ab_C g (N - p - 1) (J - j)) (ab_C g (N - p) (J - j - 1)) 215 (11 * p + j) = Int32.ofNat (ab_S g (N - p) (J - j)) := by
  rw [ab_m3_s, ab_m2_s, ab_m1_s]
  have c1 := ab_C_le g (N - p) (J - j)
  obtain ⟨a, ha⟩ : ∃ a, N - p = a := ⟨_, rfl⟩
  obtain ⟨b, hb⟩ : ∃ b, J - j = b := ⟨_, rfl⟩
  rw [ha, hb] at c1
  rw [ha, hb]
  have hb0 : ab_b0 p j N J = 1000000 := if_neg hne
  unfold ab_S ab_b2 ab_b1 ab_mco
  rw [hb0]
  cases a with
  | zero =>
    cases b with
    | zero => exact absurd ⟨by omega, by omega⟩ hne
    | succ b =>
      have c2 := ab_C_le g 0 b
      simp only [Nat.lt_irrefl, false_and, if_false, Nat.add_sub_cancel]
      rw [if_neg (by omega : ¬ p < N), if_pos ⟨by omega, by omega⟩]
  | succ a =>
    have hpN : p < N := by omega
    cases b with
    | zero =>
      have c2 := ab_C_le g a 0
      simp only [Nat.lt_irrefl, and_false, false_and, if_false, Nat.add_sub_cancel]
      rw [if_pos hpN, if_neg (by omega), if_pos ⟨hpN, by omega⟩, if_pos ⟨by omega, ab_Cs0 g a⟩]
    | succ b =>
      have hjJ : j < J := by omega
      have c2 := ab_C_le g a (b + 1)
      have c3 := ab_C_le g (a + 1) b
      have c4 := ab_C_le g a b
      have c5 := hg a b
      have e1 := ab_Css g a b
      simp only [Nat.zero_lt_succ, and_self, if_true, Nat.add_sub_cancel, true_and]
      rw [if_pos hpN, e1]
      generalize ab_C g a b = X at *
      generalize ab_C g a (b + 1) = Y at *
      generalize ab_C g (a + 1) b = Z at *
      generalize g a b = G at *
      by_cases h2 : 8 + Z < min (8 + Y) (min (G + X) 1000000)
      · rw [if_pos ⟨hjJ, h2⟩, if_neg (by omega), if_neg (by omega)]
      · rw [if_neg (fun q => h2 q.2)]
        by_cases h1 : 8 + Y < min (G + X) 1000000
        · rw [if_pos ⟨hpN, h1⟩, if_neg (by omega), if_pos (by omega)]
        · rw [if_neg (fun q => h1 q.2), if_pos (by omega), if_pos (by omega)]
end EvSteps
