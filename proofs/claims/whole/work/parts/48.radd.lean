/-! the class's rules: adding one -/
section EvRadd
variable {w : ev_W} {Q : ev_QT} {m : ev_Mem} {t : ev_H}
def ab_R0 (m : ev_Mem) (n : Nat) : Prop := ∀ r, n ≤ r → r < 8 → (m (8 + 4 * r) 1).toInt = 0 ∧ (m (10 + 4 * r) 1).toInt = 0
theorem ab_getD_take {l : ab_Ls} {n k : Nat} (h : k < n) : (l.take n).getD k 0 = l.getD k 0 := by
  rw [List.getD_eq_getElem?_getD, List.getD_eq_getElem?_getD, List.getElem?_take_of_lt h]
theorem ab_getD_drop {l : ab_Ls} {n k : Nat} : (l.drop n).getD k 0 = l.getD (n + k) 0 := by
  rw [List.getD_eq_getElem?_getD, List.getD_eq_getElem?_getD, List.getElem?_drop]
theorem ab_rs_app {rs : List (ab_Ls × ab_Ls)} {q : ab_Ls × ab_Ls} {r : Nat} (h : r < rs.length) : (rs ++ [q]).getD r ([], []) = rs.getD r ([], []) := by
  rw [List.getD_eq_getElem?_getD, List.getD_eq_getElem?_getD, List.getElem?_append_left h]
theorem ab_rs_last {rs : List (ab_Ls × ab_Ls)} {q : ab_Ls × ab_Ls} : (rs ++ [q]).getD rs.length ([], []) = q := by
  rw [List.getD_eq_getElem?_getD, List.getElem?_append_right (Nat.le_refl _), Nat.sub_self]
  rfl
/-- Rules.add -/
theorem ev_S18 {n : Nat} {l : ab_Ls} {rs : List (ab_Ls × ab_Ls)} (A : ev_all w) (hd : ab_L m 1 l) (hz : ab_az l) (hn3 : n ≤ 3) (hnl : n ≤ l.length) (hl2 : l.length ≤ n + 2) (hR : ab_RC m rs) (hR0 : ab_R0 m rs.length) (hr8 : rs.length < 8)
    (hQ : ∀ m', (∀ k j, ¬ (5 ≤ k ∧ k ≤ 39) → m' k j = m k j) → ab_RC m' (rs ++ [(l.take n, l.drop n)]) → ab_R0 m' (rs.length + 1) → Q (.inl none) m' t) : ev_K w 18 [.ref 5, .ref 1, .int (Int32.ofNat n)] m t Q := by
  have hp : ev_prog[18]? = some ev_m18 := rfl
  obtain ⟨hR1, hR2, hR3⟩ := hR
  obtain ⟨z1, z2⟩ := hR0 rs.length (Nat.le_refl _) hr8
  have ec : m 5 2 = Int32.ofNat rs.length := by
    apply ev_eq_of
    rw [hR1, ev_ofNat_i (by omega)]
  have nc : (Int32.ofNat rs.length).toNatClampNeg = rs.length := ev_on (by omega)
  have en := ev_ofNat_i (n := n) (by omega)
  have e0 : ((0 : Int32).toInt) = 0 := by decide
  have hd1 := hd.1
  refine ⟨Or.inr ⟨5, _, rfl, rfl⟩, ev_m18, rfl, ev_gK A hp [15, 33] 10 ?_⟩
  refine And.intro (by rw [ec]; exact ev_oin hr8 (by decide)) ?_
  show ev_K w 10 [.ref (8 + 4 * (m 5 2).toNatClampNeg), .ref 1, .int 0, .int (Int32.ofNat n)] m t _
  rw [ec, nc]
  refine ev_S10 A (ev_isLl hr8) ev_isLd (by omega) (by decide) (by decide) (by decide) (by omega) (by omega) (by omega) (by omega) (fun k h1 h2 => by have h3 := ab_row_ch hd.2 hz (k := k) (by omega); rwa [Nat.zero_add] at h3) (fun m1 q1 q2 q3 q4 => ?_)
  show ev_J w ev_m18 (ev_nd 18) Q 15 [some (.ref 5), some (.ref 1), some (.int (Int32.ofNat n))] [] m1 t
  have ec1 : m1 5 2 = Int32.ofNat rs.length := by rw [q4 5 2 (by omega) (by omega)]; exact ec
  have f1 : ∀ j, m1 1 j = m 1 j := fun j => q4 1 j (by omega) (by omega)
  have f2 : ∀ j, m1 2 j = m 2 j := fun j => q4 2 j (by omega) (by omega)
  refine ev_gK A hp [33] 12 ?_
  refine And.intro (by rw [ec1]; exact ev_oin hr8 (by decide)) ?_
  refine ev_S5 A ev_isLd ?_
  show ev_K w 10 [.ref (10 + 4 * (m1 5 2).toNatClampNeg), .ref 1, .int (Int32.ofNat n), .int (m1 1 1)] m1 t _
  rw [ec1, nc, f1]
  have g1 : (m1 (10 + 4 * rs.length) 1).toInt = 0 := by rw [q4 _ _ (by omega) (by omega)]; exact z2
  refine ev_S10 A (ev_isLr hr8) ev_isLd (by omega) (by decide) (by decide) (by omega) (by omega) (by omega) (by omega) (by omega) (fun k h1 h2 => by show ev_ch (m1 2 k); rw [f2]; have h3 := ab_row_ch hd.2 hz (k := k) (by omega); rwa [Nat.zero_add] at h3) (fun m2 r1 r2 r3 r4 => ?_)
  show ev_J w ev_m18 (ev_nd 18) Q 33 [some (.ref 5), some (.ref 1), some (.int (Int32.ofNat n))] [] m2 t
  have ec2 : m2 5 2 = Int32.ofNat rs.length := by rw [r4 5 2 (by omega) (by omega)]; exact ec1
  refine ev_gK A hp [] 12 ?_
  show Q (.inl none) (ev_up m2 5 2 (m2 5 2 + 1)) t
  rw [ec2, ev_succ (by omega)]
  refine hQ _ (fun k j hk => ?_) ⟨?_, ?_, fun r hr => ?_⟩ (fun r h1 h2 => ?_)
  · rw [ev_up_cell _ (by omega), r4 k j (by omega) (by omega), q4 k j (by omega) (by omega)]
  · rw [ev_up_same, ev_ofNat_i (by omega), List.length_append, List.length_singleton]
  · rw [List.length_append, List.length_singleton]; omega
  · rw [List.length_append, List.length_singleton] at hr
    by_cases hre : r = rs.length
    · subst hre
      rw [ab_rs_last]
      refine ⟨⟨?_, fun k hk => ?_⟩, ⟨?_, fun k hk => ?_⟩⟩
      · rw [ev_up_cell _ (by omega), r4 _ _ (by omega) (by omega), q1, z1, en, e0, List.length_take]; omega
      · rw [List.length_take] at hk
        rw [ev_up_cell _ (by omega), r4 _ _ (by omega) (by omega)]
        have h3 := q3 k (by omega)
        rw [z1, e0] at h3
        have h4 := hd.2 k (by omega)
        show m1 (8 + 4 * rs.length + 1) (0 + k) = (l.take n).getD k 0
        rw [ab_getD_take (by omega), ← h4]
        exact h3
      · rw [ev_up_cell _ (by omega), r1, g1, hd1, en, List.length_drop]; omega
      · rw [List.length_drop] at hk
        rw [ev_up_cell _ (by omega)]
        have h3 := r3 k (by omega)
        rw [g1, en, Int.toNat_natCast] at h3
        have h4 := hd.2 (n + k) (by omega)
        show m2 (10 + 4 * rs.length + 1) (0 + k) = (l.drop n).getD k 0
        rw [ab_getD_drop, ← h4]
        refine h3.trans ?_
        show m1 2 (n + k) = m 2 (0 + (n + k))
        rw [f2, Nat.zero_add]
    · rw [ab_rs_app (by omega)]
      obtain ⟨⟨a1, a2⟩, b1, b2⟩ := hR3 r (by omega)
      have hc : ∀ k j, k ≠ 5 → k ≠ 8 + 4 * rs.length → k ≠ 8 + 4 * rs.length + 1 → k ≠ 10 + 4 * rs.length → k ≠ 10 + 4 * rs.length + 1 → ev_up m2 5 2 (Int32.ofNat (rs.length + 1)) k j = m k j := fun k j c1 c2 c3 c4 c5 => by
        rw [ev_up_cell _ c1, r4 k j c4 c5, q4 k j c2 c3]
      exact ⟨⟨by rw [hc _ _ (by omega) (by omega) (by omega) (by omega) (by omega)]; exact a1, fun k hk => by rw [hc _ _ (by omega) (by omega) (by omega) (by omega) (by omega)]; exact a2 k hk⟩, ⟨by rw [hc _ _ (by omega) (by omega) (by omega) (by omega) (by omega)]; exact b1, fun k hk => by rw [hc _ _ (by omega) (by omega) (by omega) (by omega) (by omega)]; exact b2 k hk⟩⟩
  · rw [ev_up_cell _ (by omega), ev_up_cell _ (by omega), r4 _ _ (by omega) (by omega), r4 _ _ (by omega) (by omega), q4 _ _ (by omega) (by omega), q4 _ _ (by omega) (by omega)]
    exact hR0 r (by omega) h2
end EvRadd
