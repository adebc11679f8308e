/-! the class's joiner: the table of costs, worked out -/
section EvPlan
variable {w : ev_W} {Q : ev_QT} {m : ev_Mem} {t : ev_H}
theorem ev_dec1 {k : Nat} (h : k < 100000) : Int32.ofNat k + Int32.ofInt (-1) = Int32.ofInt ((k : Int) - 1) := by
  apply ev_eq_of
  have e2 := ev_ofNat_i (n := k) (by omega)
  have e1 : (Int32.ofInt (-1)).toInt = -1 := by decide
  rw [ev_add_i (by omega) (by omega), e2, e1, ev_ofInt_i (by omega) (by omega)]
  omega
theorem ev_inc1 {k : Nat} (h : k < 100000) : Int32.ofInt (((k + 1 : Nat) : Int) - 1) = Int32.ofNat k := by
  apply ev_eq_of
  rw [ev_ofInt_i (by omega) (by omega), ev_ofNat_i (by omega)]
  omega
def ab_dn (mk : ev_Mem) (g : Nat → Nat → Nat) (N J p l : Nat) : Prop := ∀ p' j', p' ≤ N → j' ≤ J → (p < p' ∨ (p' = p ∧ l ≤ j')) → mk 214 (11 * p' + j') = Int32.ofNat (ab_C g (N - p') (J - j')) ∧ (¬ (p' = N ∧ j' = J) → mk 215 (11 * p' + j') = Int32.ofNat (ab_S g (N - p') (J - j')))
def ab_gm (T : ab_T) (d : Nat → Nat → Nat) (v N J : Nat) (a b : Nat) : Nat := ab_mcn T (N - 1 - a) (d (10 * v + (J - 1 - b))) 4
/-- the two loops of Joiner.plan -/
theorem ev_plan {v N J : Nat} {T : ab_T} {fo : Nat → Option ab_Ls} (A : ev_all w) (hT : ab_TC m T) (hok : ab_Tok T) (hv : v < 4) (hN : N = T.1) (hJ10 : J ≤ 10) (hFO : ab_FO m fo) (hth : ∀ j, j < J → ab_th m (10 * v + j) = true) (hcell : ∀ p v i, p < T.1 → v < 4 → T.2.1 p v = some i → ab_th m (10 * v + i) = true) (haz : ∀ y l, y < 40 → ab_th m y = true → fo y = some l → ab_az l)
    (hm4 : m 213 4 = Int32.ofNat N) (hm5 : m 213 5 = Int32.ofNat J)
    (kont : ∀ (mk : ev_Mem) (o5 o6 : Option Value), (∀ c i, c ≠ 208 → c ≠ 214 → c ≠ 215 → mk c i = m c i) → ab_dn mk (ab_gm T (ab_dst m fo) v N J) N J 0 0 → ev_J w ev_m52 (ev_nd 52) Q 106 [some (.ref 213), some (.ref 209), some (.ref 40), some (.int (Int32.ofNat v)), some (.int (-1)), o5, o6] [] mk t) :
    ev_J w ev_m52 (ev_nd 52) Q 17 [some (.ref 213), some (.ref 209), some (.ref 40), some (.int (Int32.ofNat v)), none, none, none] [] m t := by
  have hp : ev_prog[52]? = some ev_m52 := rfl
  have k1 := hok.1
  have hN24 : N ≤ 24 := by omega
  have eN := ev_ofNat_i (n := N) (by omega)
  have eJ := ev_ofNat_i (n := J) (by omega)
  have em1 := ev_im1
  have hg : ∀ a b, ab_gm T (ab_dst m fo) v N J a b ≤ 12 := fun a b => ab_mcn_le _ _ _ _
  have hgp : ∀ p j, p < N → j < J → ab_gm T (ab_dst m fo) v N J (N - p - 1) (J - j - 1) = ab_mcn T p (ab_dst m fo (10 * v + j)) 4 := by
    intro p j h1 h2
    unfold ab_gm
    have q1 : N - 1 - (N - p - 1) = p := by omega
    have q2 : J - 1 - (J - j - 1) = j := by omega
    rw [q1, q2]
  generalize hgg : ab_gm T (ab_dst m fo) v N J = g at *
  have inner : ∀ (p : Nat), p ≤ N → (∀ (mk : ev_Mem) (o5 o6 : Option Value), (∀ c i, c ≠ 208 → c ≠ 214 → c ≠ 215 → mk c i = m c i) → ab_dn mk g N J p 0 → ev_J w ev_m52 (ev_nd 52) Q 23 [some (.ref 213), some (.ref 209), some (.ref 40), some (.int (Int32.ofNat v)), some (.int (Int32.ofInt ((p : Int) - 1))), o5, o6] [] mk t) →
      ∀ (l : Nat) (mk : ev_Mem) (o6 : Option Value), l ≤ J + 1 → (∀ c i, c ≠ 208 → c ≠ 214 → c ≠ 215 → mk c i = m c i) → ab_dn mk g N J p l → ev_J w ev_m52 (ev_nd 52) Q 34 [some (.ref 213), some (.ref 209), some (.ref 40), some (.int (Int32.ofNat v)), some (.int (Int32.ofNat p)), some (.int (Int32.ofInt ((l : Int) - 1))), o6] [] mk t := by
    intro p hpN kp l
    have ep := ev_ofNat_i (n := p) (by omega)
    induction l with
    | zero =>
      intro mk o6 hl hf hd
      refine ev_gK A hp [23, 100] 10 ?_
      refine And.intro (fun h => ?_) (fun h => ?_)
      · show ev_J w ev_m52 (ev_nd 52) Q 100 [some (.ref 213), some (.ref 209), some (.ref 40), some (.int (Int32.ofNat v)), some (.int (Int32.ofNat p)), some (.int (Int32.ofInt (((0 : Nat) : Int) - 1))), o6] [] mk t
        refine ev_gK A hp [23] 10 ?_
        show ev_J w ev_m52 (ev_nd 52) Q 23 [some (.ref 213), some (.ref 209), some (.ref 40), some (.int (Int32.ofNat v)), some (.int (Int32.ofNat p + Int32.ofInt (-1))), some (.int (Int32.ofInt (((0 : Nat) : Int) - 1))), o6] [] mk t
        rw [ev_dec1 (by omega)]
        exact kp mk _ _ hf hd
      · have h2 : 0 ≤ (Int32.ofInt (((0 : Nat) : Int) - 1)).toInt := h
        rw [ev_ofInt_i (by omega) (by omega)] at h2
        omega
    | succ l ih =>
      intro mk o6 hl hf hd
      rw [ev_inc1 (by omega)]
      have el := ev_ofNat_i (n := l) (by omega)
      have f4 : ∀ mk' : ev_Mem, (∀ c i, c ≠ 208 → c ≠ 214 → c ≠ 215 → mk' c i = m c i) → mk' 213 4 = Int32.ofNat N ∧ mk' 213 5 = Int32.ofNat J := fun mk' hf' => ⟨by rw [hf' _ _ (by decide) (by decide) (by decide)]; exact hm4, by rw [hf' _ _ (by decide) (by decide) (by decide)]; exact hm5⟩
      have h91 : ∀ (mk' : ev_Mem) (o6 : Option Value), (∀ c i, c ≠ 208 → c ≠ 214 → c ≠ 215 → mk' c i = m c i) → ab_dn mk' g N J p (l + 1) → ev_J w ev_m52 (ev_nd 52) Q 91 [some (.ref 213), some (.ref 209), some (.ref 40), some (.int (Int32.ofNat v)), some (.int (Int32.ofNat p)), some (.int (Int32.ofNat l)), o6] [.int (ab_oi (ab_mco g (N - p) (J - l))), .int (Int32.ofNat l), .int (Int32.ofNat p), .ref 213] mk' t := by
        intro mk' o6 hf' hd'
        have c1 := ab_C_le g (N - p - 1) (J - l - 1)
        have c2 := ab_C_le g (N - p - 1) (J - l)
        have c3 := ab_C_le g (N - p) (J - l - 1)
        refine ev_gK A hp [34] 10 ?_
        show ev_K w 54 [.ref 213, .int (Int32.ofNat p), .int (Int32.ofNat l), .int (ab_oi (ab_mco g (N - p) (J - l)))] mk' t _
        refine ev_S54 (N := N) (J := J) (x := ab_C g (N - p - 1) (J - l - 1)) (y := ab_C g (N - p - 1) (J - l)) (z := ab_C g (N - p) (J - l - 1)) A (f4 mk' hf').1 (f4 mk' hf').2 hpN (by omega) hN24 hJ10 (by omega) (by omega) (by omega) (fun c hc => ?_) (fun c hc => ?_) (fun hpl => ?_) (fun hjl => ?_) ?_
        · unfold ab_mco at hc
          split at hc
          · rename_i hab
            cases hc
            have := hg (N - p - 1) (J - l - 1)
            exact ⟨by omega, by omega, by omega⟩
          · cases hc
        · unfold ab_mco at hc
          split at hc
          · rename_i hab
            have q := (hd' (p + 1) (l + 1) (by omega) (by omega) (Or.inl (by omega))).1
            have e1 : 11 * (p + 1) + (l + 1) = 11 * p + l + 12 := by omega
            have e2 : N - (p + 1) = N - p - 1 := by omega
            have e3 : J - (l + 1) = J - l - 1 := by omega
            rw [e1, e2, e3] at q
            exact q
          · cases hc
        · have q := (hd' (p + 1) l (by omega) (by omega) (Or.inl (by omega))).1
          have e1 : 11 * (p + 1) + l = 11 * p + l + 11 := by omega
          have e2 : N - (p + 1) = N - p - 1 := by omega
          rw [e1, e2] at q
          exact q
        · have q := (hd' p (l + 1) hpN (by omega) (Or.inr ⟨rfl, Nat.le_refl _⟩)).1
          have e1 : 11 * p + (l + 1) = 11 * p + l + 1 := by omega
          have e3 : J - (l + 1) = J - l - 1 := by omega
          rw [e1, e3] at q
          exact q
        · show ev_J w ev_m52 (ev_nd 52) Q 34 [some (.ref 213), some (.ref 209), some (.ref 40), some (.int (Int32.ofNat v)), some (.int (Int32.ofNat p)), some (.int (Int32.ofNat l + Int32.ofInt (-1))), o6] [] (ab_m3 mk' p l N J (ab_mco g (N - p) (J - l)) (ab_C g (N - p - 1) (J - l - 1)) (ab_C g (N - p - 1) (J - l)) (ab_C g (N - p) (J - l - 1))) t
          rw [ev_dec1 (by omega)]
          refine ih _ _ (by omega) (fun c i z1 z2 z3 => ?_) (fun p' j' z1 z2 z3 => ?_)
          · rw [ab_m3_fr _ _ _ _ _ _ _ _ _ (by omega)]; exact hf' c i z1 z2 z3
          · by_cases hsame : p' = p ∧ j' = l
            · obtain ⟨rfl, rfl⟩ := hsame
              exact ⟨by rw [ab_m3_c, ab_b3_C g hg z1 z2 hN24 hJ10], fun hne => ab_m3_S mk' g hg z1 z2 hN24 hJ10 hne⟩
            · have hix : 11 * p' + j' ≠ 11 * p + l := by omega
              rw [ab_m3_fr _ _ _ _ _ _ _ _ _ (fun q => hix q.2), ab_m3_fr _ _ _ _ _ _ _ _ _ (fun q => hix q.2)]
              exact hd' p' j' z1 z2 (by omega)
      have h62 : ∀ cm : Bool, cm = decide (p < N ∧ l < J) → ev_J w ev_m52 (ev_nd 52) Q 62 [some (.ref 213), some (.ref 209), some (.ref 40), some (.int (Int32.ofNat v)), some (.int (Int32.ofNat p)), some (.int (Int32.ofNat l)), o6] [.int (ab_bi cm)] mk t := by
        intro cm hcm
        refine ev_gK A hp [91] 20 ?_
        refine And.intro (fun h => ?_) (fun h => ?_)
        · have hc := ab_bi_eq h
          rw [hcm] at hc
          have hc' := of_decide_eq_false hc
          have e1 : ab_mco g (N - p) (J - l) = none := if_neg (by omega)
          have h1 := h91 mk (some (.int (ab_bi cm))) hf hd
          rw [e1] at h1
          exact h1
        · have hc := ab_bi_neq h
          rw [hcm] at hc
          obtain ⟨hc1, hc2⟩ := of_decide_eq_true hc
          have e1 : ab_mco g (N - p) (J - l) = some (ab_mcn T p (ab_dst m fo (10 * v + l)) 4) := by
            unfold ab_mco
            rw [if_pos (by omega), hgp p l hc1 hc2]
          show ev_K w 106 [.int (Int32.ofNat v), .int (Int32.ofNat l)] mk t _
          refine ev_S106 A (by omega) (by omega) ?_
          show ev_K w 53 [.ref 209, .ref 40, .int (Int32.ofNat p), .int (Int32.ofNat (10 * v + l))] mk t _
          have hthk : ∀ z, ab_th mk z = ab_th m z := ab_th_cong (fun j => hf _ _ (by decide) (by decide) (by decide))
          have hFOk : ab_FO mk fo := by
            intro x hx ht
            rw [hthk] at ht
            obtain ⟨a, b⟩ := hFO x hx ht
            exact ⟨ab_F_cong (fun j => hf _ _ (by omega) (by omega) (by omega)) (fun j => hf _ _ (by omega) (by omega) (by omega)) a, b⟩
          refine ev_S53 (fo := fo) (T := T) A (ab_TC_cong (fun k j z1 z2 => hf k j (by omega) (by omega) (by omega)) hT) hok (by omega) (by omega) (by rw [hthk]; exact hth l hc2) hFOk (fun u i hu hi => by rw [hthk]; exact hcell p u i (by omega) hu hi) (fun y k hy ht hk => haz y k hy (by rw [← hthk]; exact ht) hk) (fun m' hf' => ?_)
          have ed : ab_dst mk fo (10 * v + l) = ab_dst m fo (10 * v + l) := by
            funext y
            unfold ab_dst
            rw [hf 205 _ (by decide) (by decide) (by decide), hf 205 _ (by decide) (by decide) (by decide)]
          rw [ed]
          have h1 := h91 m' (some (.int (ab_bi cm))) (fun c i z1 z2 z3 => (hf' c i z1).trans (hf c i z1 z2 z3)) (fun p' j' z1 z2 z3 => by rw [hf' _ _ (by decide), hf' _ _ (by decide)]; exact hd p' j' z1 z2 z3)
          rw [e1] at h1
          exact h1
      obtain ⟨q4, q5⟩ := f4 mk hf
      refine ev_gK A hp [62] 20 ?_
      refine And.intro (fun h => ?_) (fun h => ?_)
      · have h2 : (Int32.ofNat l).toInt < 0 := h
        omega
      refine And.intro (fun h => ?_) (fun h => ?_)
      · have h2 : (mk 213 4).toInt ≤ (Int32.ofNat p).toInt := h
        rw [q4] at h2
        exact h62 false (decide_eq_false (by omega)).symm
      refine And.intro (fun h' => ?_) (fun h' => ?_)
      · have h2 : (mk 213 5).toInt ≤ (Int32.ofNat l).toInt := h'
        rw [q5] at h2
        exact h62 false (decide_eq_false (by omega)).symm
      · have h2 : (Int32.ofNat p).toInt < (mk 213 4).toInt := h
        have h3 : (Int32.ofNat l).toInt < (mk 213 5).toInt := h'
        rw [q4] at h2
        rw [q5] at h3
        exact h62 true (decide_eq_true ⟨by omega, by omega⟩).symm
  have outer : ∀ (k : Nat) (mk : ev_Mem) (o5 o6 : Option Value), k ≤ N + 1 → (∀ c i, c ≠ 208 → c ≠ 214 → c ≠ 215 → mk c i = m c i) → (∀ p' j', p' ≤ N → j' ≤ J → k ≤ p' → mk 214 (11 * p' + j') = Int32.ofNat (ab_C g (N - p') (J - j')) ∧ (¬ (p' = N ∧ j' = J) → mk 215 (11 * p' + j') = Int32.ofNat (ab_S g (N - p') (J - j')))) →
      ev_J w ev_m52 (ev_nd 52) Q 23 [some (.ref 213), some (.ref 209), some (.ref 40), some (.int (Int32.ofNat v)), some (.int (Int32.ofInt ((k : Int) - 1))), o5, o6] [] mk t := by
    intro k
    induction k with
    | zero =>
      intro mk o5 o6 hk hf hd
      refine ev_gK A hp [106] 10 ?_
      refine And.intro (fun h => ?_) (fun h => ?_)
      · exact kont mk o5 o6 hf (fun p' j' z1 z2 _ => hd p' j' z1 z2 (Nat.zero_le _))
      · have h2 : 0 ≤ (Int32.ofInt (((0 : Nat) : Int) - 1)).toInt := h
        rw [ev_ofInt_i (by omega) (by omega)] at h2
        omega
    | succ k ih =>
      intro mk o5 o6 hk hf hd
      rw [ev_inc1 (by omega)]
      have ek := ev_ofNat_i (n := k) (by omega)
      refine ev_gK A hp [34] 10 ?_
      refine And.intro (fun h => ?_) (fun h => ?_)
      · have h2 : (Int32.ofNat k).toInt < 0 := h
        omega
      show ev_J w ev_m52 (ev_nd 52) Q 34 [some (.ref 213), some (.ref 209), some (.ref 40), some (.int (Int32.ofNat v)), some (.int (Int32.ofNat k)), some (.int (mk 213 5)), o6] [] mk t
      have e5 : mk 213 5 = Int32.ofInt (((J + 1 : Nat) : Int) - 1) := by
        rw [hf _ _ (by decide) (by decide) (by decide), hm5, ev_inc1 (by omega)]
      rw [e5]
      refine inner k (by omega) (fun mk' o5 o6 hf' hd' => ih mk' o5 o6 (by omega) hf' (fun p' j' z1 z2 z3 => hd' p' j' z1 z2 (by omega))) (J + 1) mk o6 (Nat.le_refl _) hf (fun p' j' z1 z2 z3 => hd p' j' z1 z2 (by omega))
  refine ev_gK A hp [23] 10 ?_
  show ev_J w ev_m52 (ev_nd 52) Q 23 [some (.ref 213), some (.ref 209), some (.ref 40), some (.int (Int32.ofNat v)), some (.int (m 213 4)), none, none] [] m t
  have e4 : m 213 4 = Int32.ofInt (((N + 1 : Nat) : Int) - 1) := by rw [hm4, ev_inc1 (by omega)]
  rw [e4]
  exact outer (N + 1) m _ _ (Nat.le_refl _) (fun _ _ _ _ _ => rfl) (fun p' j' z1 z2 z3 => by omega)
end EvPlan
