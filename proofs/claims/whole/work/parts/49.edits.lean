/-! the class's words: how far apart -/
section EvEdits
variable {w : ev_W} {Q : ev_QT} {m : ev_Mem} {t : ev_H}
def ab_Dn (prev f : Nat → Nat) (i : Nat) : Nat → Nat
  | 0 => i + 1
  | j + 1 => min (prev j + f j) (min (prev (j + 1)) (ab_Dn prev f i j) + 1)
def ab_ne (a b : ab_Ls) (i j : Nat) : Nat := if a.getD i 0 = b.getD j 0 then 0 else 1
def ab_D (a b : ab_Ls) : Nat → Nat → Nat
  | 0 => fun j => j
  | i + 1 => ab_Dn (ab_D a b i) (ab_ne a b i) i
theorem ab_D_le (a b : ab_Ls) : ∀ (i j : Nat), ab_D a b i j ≤ i + j
  | 0, j => by show j ≤ 0 + j; omega
  | i + 1, 0 => by show i + 1 ≤ i + 1 + 0; omega
  | i + 1, j + 1 => by
    have h1 := ab_D_le a b i (j + 1)
    have h2 : min (ab_D a b i j + ab_ne a b i j) (min (ab_D a b i (j + 1)) (ab_D a b (i + 1) j) + 1) ≤ ab_D a b i (j + 1) + 1 := by omega
    show min (ab_D a b i j + ab_ne a b i j) (min (ab_D a b i (j + 1)) (ab_D a b (i + 1) j) + 1) ≤ _
    omega
theorem ev_pred {k : Nat} (h : 1 ≤ k) (h2 : k < 2147483647) : Int32.ofNat k - 1 = Int32.ofNat (k - 1) := by
  apply ev_eq_of
  have e1 : (1 : Int32).toInt = 1 := by decide
  have e2 := ev_ofNat_i (n := k) (by omega)
  rw [ev_sub_i (by omega) (by omega), e2, e1, ev_ofNat_i (by omega)]
  omega
theorem ev_minN {a b : Nat} (ha : a < 2147483648) (hb : b < 2147483648) : (if (Int32.ofNat a).toInt ≤ (Int32.ofNat b).toInt then Int32.ofNat a else Int32.ofNat b) = Int32.ofNat (min a b) := by
  rw [ev_ofNat_i ha, ev_ofNat_i hb]
  by_cases h : a ≤ b
  · rw [if_pos (by omega), Nat.min_eq_left h]
  · rw [if_neg (by omega), Nat.min_eq_right (by omega)]
theorem ev_addN {a b : Nat} (h : a + b < 2147483648) : Int32.ofNat a + Int32.ofNat b = Int32.ofNat (a + b) := by
  apply ev_eq_of
  have e1 := ev_ofNat_i (n := a) (by omega)
  have e2 := ev_ofNat_i (n := b) (by omega)
  rw [ev_add_i (by omega) (by omega), e1, e2, ev_ofNat_i h]
  omega
/-- Words.edits -/
theorem ev_S34 {y z e c : Nat} {a b : ab_Ls} (A : ev_all w) (hy : ev_isL y e) (hz : ev_isL z c) (hy8 : y ≠ 208) (hz8 : z ≠ 208) (hy9 : y + 1 ≠ 208) (hz9 : z + 1 ≠ 208) (ha : ab_L m y a) (hb : ab_L m z b) (haz : ab_az a) (hbz : ab_az b) (hae : a.length ≤ e) (hbc : b.length ≤ c) (ha12 : a.length ≤ 12) (hb12 : b.length ≤ 12) (he : e < 5000) (hc : c < 5000)
    (hQ : ∀ m', (∀ k j, k ≠ 208 → m' k j = m k j) → Q (.inl (some (.int (Int32.ofNat (ab_D a b a.length b.length))))) m' t) : ev_K w 34 [.ref 40, .ref y, .ref z] m t Q := by
  have hp : ev_prog[34]? = some ev_m34 := rfl
  have ha1 := ha.1
  have hb1 := hb.1
  have hsa : ∀ mk : ev_Mem, (∀ k j, k ≠ 208 → mk k j = m k j) → (mk y 1).toInt = (a.length : Int) ∧ ∀ i, i < a.length → mk (y + 1) i = a.getD i 0 := fun mk hf => ⟨by rw [hf _ _ hy8]; exact ha1, fun i hi => by rw [hf _ _ hy9]; have h := ha.2 i hi; rwa [Nat.zero_add] at h⟩
  have hsb : ∀ mk : ev_Mem, (∀ k j, k ≠ 208 → mk k j = m k j) → (mk z 1).toInt = (b.length : Int) ∧ ∀ i, i < b.length → mk (z + 1) i = b.getD i 0 := fun mk hf => ⟨by rw [hf _ _ hz8]; exact hb1, fun i hi => by rw [hf _ _ hz9]; have h := hb.2 i hi; rwa [Nat.zero_add] at h⟩
  -- the rows behind the first
  have loopi : ∀ (n i : Nat) (mk : ev_Mem) (o4 o5 o6 : Option Value), i + n = a.length + 1 → 1 ≤ i → (∀ k j, k ≠ 208 → mk k j = m k j) → (∀ k, k ≤ b.length → mk 208 k = Int32.ofNat (ab_D a b (i - 1) k)) →
      ev_J w ev_m34 (ev_nd 34) Q 25 [some (.ref 40), some (.ref y), some (.ref z), some (.int (Int32.ofNat i)), o4, o5, o6] [] mk t := by
    intro n
    induction n with
    | zero =>
      intro i mk o4 o5 o6 hi hi1 hf hrow
      have ei := ev_ofNat_i (n := i) (by omega)
      have sa := (hsa mk hf).1
      have sb := (hsb mk hf).1
      refine ev_gK A hp [142] 10 ?_
      refine ev_S5 A hy ?_
      refine And.intro (fun h => ?_) (fun h => ?_)
      · show ev_J w ev_m34 (ev_nd 34) Q 142 [some (.ref 40), some (.ref y), some (.ref z), some (.int (Int32.ofNat i)), o4, o5, o6] [] mk t
        refine ev_gK A hp [] 10 ?_
        refine ev_S5 A hz ?_
        refine And.intro ⟨by omega, by omega⟩ ?_
        show Q (.inl (some (.int (mk 208 (mk z 1).toNatClampNeg)))) mk t
        have e1 : (mk z 1).toNatClampNeg = b.length := by rw [ev_nat]; omega
        have e2 : i - 1 = a.length := by omega
        rw [e1, hrow _ (Nat.le_refl _), e2]
        exact hQ mk hf
      · have h2 : (Int32.ofNat i).toInt ≤ (mk y 1).toInt := h
        omega
    | succ n ih =>
      intro i mk o4 o5 o6 hi hi1 hf hrow
      have ei := ev_ofNat_i (n := i) (by omega)
      have sa := (hsa mk hf).1
      obtain ⟨i', rfl⟩ : ∃ i', i = i' + 1 := ⟨i - 1, by omega⟩
      have hrow' : ∀ k, k ≤ b.length → mk 208 k = Int32.ofNat (ab_D a b i' k) := hrow
      have loopj : ∀ (n' j : Nat) (ml : ev_Mem) (o6 : Option Value), j + n' = b.length + 1 → 1 ≤ j → (∀ k j, k ≠ 208 → ml k j = m k j) → (∀ k, k < j → ml 208 k = Int32.ofNat (ab_D a b (i' + 1) k)) → (∀ k, j ≤ k → k ≤ b.length → ml 208 k = Int32.ofNat (ab_D a b i' k)) →
          ev_J w ev_m34 (ev_nd 34) Q 51 [some (.ref 40), some (.ref y), some (.ref z), some (.int (Int32.ofNat (i' + 1))), some (.int (Int32.ofNat (ab_D a b i' (j - 1)))), some (.int (Int32.ofNat j)), o6] [] ml t := by
        intro n'
        induction n' with
        | zero =>
          intro j ml o6 hj hj1 hfl hlow hhigh
          have ej := ev_ofNat_i (n := j) (by omega)
          have sb := (hsb ml hfl).1
          refine ev_gK A hp [25] 10 ?_
          refine ev_S5 A hz ?_
          refine And.intro (fun h => ?_) (fun h => ?_)
          · show ev_J w ev_m34 (ev_nd 34) Q 25 [some (.ref 40), some (.ref y), some (.ref z), some (.int (Int32.ofNat (i' + 1) + 1)), some (.int (Int32.ofNat (ab_D a b i' (j - 1)))), some (.int (Int32.ofNat j)), o6] [] ml t
            rw [ev_succ (by omega)]
            exact ih (i' + 1 + 1) ml _ _ _ (by omega) (by omega) hfl (fun k hk => hlow k (by omega))
          · have h2 : (Int32.ofNat j).toInt ≤ (ml z 1).toInt := h
            omega
        | succ n' ihj =>
          intro j ml o6 hj hj1 hfl hlow hhigh
          have ej := ev_ofNat_i (n := j) (by omega)
          obtain ⟨sb, rb⟩ := hsb ml hfl
          obtain ⟨-, ra⟩ := hsa ml hfl
          obtain ⟨j', rfl⟩ : ∃ j', j = j' + 1 := ⟨j - 1, by omega⟩
          have hD1 := ab_D_le a b i' j'
          have hD2 := ab_D_le a b i' (j' + 1)
          have hD3 := ab_D_le a b (i' + 1) j'
          have hne : ab_ne a b i' j' ≤ 1 := by unfold ab_ne; split <;> omega
          have h85 : ∀ cc : Int32, cc = Int32.ofNat (ab_ne a b i' j') → ev_J w ev_m34 (ev_nd 34) Q 85 [some (.ref 40), some (.ref y), some (.ref z), some (.int (Int32.ofNat (i' + 1))), some (.int (Int32.ofNat (ab_D a b i' j'))), some (.int (Int32.ofNat (j' + 1))), o6] [.int cc, .int (Int32.ofNat (ab_D a b i' j'))] ml t := by
            intro cc hcc
            have nj : (Int32.ofNat (j' + 1)).toNatClampNeg = j' + 1 := ev_on (by omega)
            have hinj : ev_in (Int32.ofNat (j' + 1)) 13 := ev_oin (by omega) (by decide)
            refine ev_gK A hp [97] 20 ?_
            refine And.intro hinj ?_
            show ev_J w ev_m34 (ev_nd 34) Q 97 [some (.ref 40), some (.ref y), some (.ref z), some (.int (Int32.ofNat (i' + 1))), some (.int (ml 208 (Int32.ofNat (j' + 1)).toNatClampNeg)), some (.int (Int32.ofNat (j' + 1))), some (.int (Int32.ofNat (ab_D a b i' j') + cc))] [] ml t
            rw [hcc, ev_addN (by omega), nj, hhigh (j' + 1) (Nat.le_refl _) (by omega)]
            refine ev_gK A hp [51] 30 ?_
            refine And.intro hinj ?_
            refine And.intro ?_ ?_
            · show ev_in (Int32.ofNat (j' + 1) - 1) 13
              rw [ev_pred (by omega) (by omega)]
              exact ev_oin (by omega) (by decide)
            show ev_K w 0 [.int (ml 208 (Int32.ofNat (j' + 1)).toNatClampNeg), .int (ml 208 (Int32.ofNat (j' + 1) - 1).toNatClampNeg)] ml t _
            rw [nj, ev_pred (by omega) (by omega), ev_on (by omega), Nat.add_sub_cancel, hhigh (j' + 1) (Nat.le_refl _) (by omega), hlow j' (by omega)]
            refine ev_S0 A ?_
            rw [ev_minN (by omega) (by omega)]
            show ev_K w 0 [.int (Int32.ofNat (ab_D a b i' j' + ab_ne a b i' j')), .int (Int32.ofNat (min (ab_D a b i' (j' + 1)) (ab_D a b (i' + 1) j')) + 1)] ml t _
            rw [ev_succ (by omega)]
            refine ev_S0 A ?_
            rw [ev_minN (by omega) (by omega)]
            refine And.intro hinj ?_
            show ev_J w ev_m34 (ev_nd 34) Q 51 [some (.ref 40), some (.ref y), some (.ref z), some (.int (Int32.ofNat (i' + 1))), some (.int (Int32.ofNat (ab_D a b i' (j' + 1)))), some (.int (Int32.ofNat (j' + 1) + 1)), some (.int (Int32.ofNat (ab_D a b i' j' + ab_ne a b i' j')))] [] (ev_up ml 208 (Int32.ofNat (j' + 1)).toNatClampNeg (Int32.ofNat (ab_D a b (i' + 1) (j' + 1)))) t
            rw [ev_succ (by omega), nj]
            refine ihj (j' + 1 + 1) _ _ (by omega) (by omega) (fun k j hk => by rw [ev_up_cell _ hk]; exact hfl k j hk) (fun k hk => ?_) (fun k h1 h2 => ?_)
            · by_cases hkj : k = j' + 1
              · rw [hkj, ev_up_same]
              · rw [ev_up_idx _ _ hkj]; exact hlow k (by omega)
            · rw [ev_up_idx _ _ (by omega)]; exact hhigh k (by omega) h2
          refine ev_gK A hp [85] 20 ?_
          refine ev_S5 A hz ?_
          refine And.intro (fun h => ?_) (fun h => ?_)
          · have h2 : (ml z 1).toInt < (Int32.ofNat (j' + 1)).toInt := h
            omega
          have hva : ml (y + 1) i' = a.getD i' 0 := ra i' (by omega)
          have hvb : ml (z + 1) j' = b.getD j' 0 := rb j' (by omega)
          show ev_K w 6 [.ref y, .int (Int32.ofNat (i' + 1) - 1)] ml t _
          rw [ev_pred (by omega) (by omega), Nat.add_sub_cancel]
          have ni : (Int32.ofNat i').toNatClampNeg = i' := ev_on (by omega)
          have nj' : (Int32.ofNat j').toNatClampNeg = j' := ev_on (by omega)
          refine ev_S6 A hy (ev_oin (by omega) (by omega)) (by rw [ni, hva]; exact ab_ch haz (ab_getD_mem (by omega))) ?_
          rw [ni, hva]
          show ev_K w 6 [.ref z, .int (Int32.ofNat (j' + 1) - 1)] ml t _
          rw [ev_pred (by omega) (by omega), Nat.add_sub_cancel]
          refine ev_S6 A hz (ev_oin (by omega) (by omega)) (by rw [nj', hvb]; exact ab_ch hbz (ab_getD_mem (by omega))) ?_
          rw [nj', hvb]
          refine And.intro (fun h => ?_) (fun h => ?_)
          · have h2 : ¬ (a.getD i' 0).toInt = (b.getD j' 0).toInt := h
            refine h85 1 ?_
            unfold ab_ne
            rw [if_neg (fun q => h2 (by rw [q]))]
            rfl
          · have h2 : (a.getD i' 0).toInt = (b.getD j' 0).toInt := h
            refine h85 0 ?_
            unfold ab_ne
            rw [if_pos (ev_eq_of h2)]
            rfl
      refine ev_gK A hp [51] 20 ?_
      refine ev_S5 A hy ?_
      refine And.intro (fun h => ?_) (fun h => ?_)
      · have h2 : (mk y 1).toInt < (Int32.ofNat (i' + 1)).toInt := h
        omega
      refine And.intro ⟨by decide, by decide⟩ ?_
      refine And.intro ⟨by decide, by decide⟩ ?_
      show ev_J w ev_m34 (ev_nd 34) Q 51 [some (.ref 40), some (.ref y), some (.ref z), some (.int (Int32.ofNat (i' + 1))), some (.int (mk 208 0)), some (.int (Int32.ofNat 1)), o6] [] (ev_up mk 208 0 (Int32.ofNat (i' + 1))) t
      rw [hrow' 0 (Nat.zero_le _)]
      refine loopj b.length 1 _ _ (by omega) (Nat.le_refl _) (fun k j hk => by rw [ev_up_cell _ hk]; exact hf k j hk) (fun k hk => ?_) (fun k h1 h2 => ?_)
      · have hk0 : k = 0 := by omega
        rw [hk0, ev_up_same]
        rfl
      · rw [ev_up_idx _ _ (by omega)]; exact hrow' k h2
  -- the first row
  have loop0 : ∀ (n j : Nat) (mk : ev_Mem), j + n = b.length + 1 → (∀ k j, k ≠ 208 → mk k j = m k j) → (∀ k, k < j → mk 208 k = Int32.ofNat k) →
      ev_J w ev_m34 (ev_nd 34) Q 2 [some (.ref 40), some (.ref y), some (.ref z), some (.int (Int32.ofNat j)), none, none, none] [] mk t := by
    intro n
    induction n with
    | zero =>
      intro j mk hj hf hlow
      have ej := ev_ofNat_i (n := j) (by omega)
      have sb := (hsb mk hf).1
      refine ev_gK A hp [25] 10 ?_
      refine ev_S5 A hz ?_
      refine And.intro (fun h => ?_) (fun h => ?_)
      · show ev_J w ev_m34 (ev_nd 34) Q 25 [some (.ref 40), some (.ref y), some (.ref z), some (.int (Int32.ofNat 1)), none, none, none] [] mk t
        exact loopi a.length 1 mk _ _ _ (by omega) (Nat.le_refl _) hf (fun k hk => hlow k (by omega))
      · have h2 : (Int32.ofNat j).toInt ≤ (mk z 1).toInt := h
        omega
    | succ n ih =>
      intro j mk hj hf hlow
      have ej := ev_ofNat_i (n := j) (by omega)
      have sb := (hsb mk hf).1
      have nj : (Int32.ofNat j).toNatClampNeg = j := ev_on (by omega)
      refine ev_gK A hp [2] 20 ?_
      refine ev_S5 A hz ?_
      refine And.intro (fun h => ?_) (fun h => ?_)
      · have h2 : (mk z 1).toInt < (Int32.ofNat j).toInt := h
        omega
      refine And.intro (ev_oin (by omega) (by decide)) ?_
      show ev_J w ev_m34 (ev_nd 34) Q 2 [some (.ref 40), some (.ref y), some (.ref z), some (.int (Int32.ofNat j + 1)), none, none, none] [] (ev_up mk 208 (Int32.ofNat j).toNatClampNeg (Int32.ofNat j)) t
      rw [ev_succ (by omega), nj]
      refine ih (j + 1) _ (by omega) (fun k j hk => by rw [ev_up_cell _ hk]; exact hf k j hk) (fun k hk => ?_)
      by_cases hkj : k = j
      · rw [hkj, ev_up_same]
      · rw [ev_up_idx _ _ hkj]; exact hlow k (by omega)
  refine ⟨Or.inr ⟨40, _, rfl, rfl⟩, ev_m34, rfl, ev_gK A hp [2] 10 ?_⟩
  exact loop0 (b.length + 1) 0 m (by omega) (fun _ _ _ => rfl) (fun k hk => absurd hk (Nat.not_lt_zero _))
/-- Words.apart -/
def ab_apart (a b : Option ab_Ls) : Nat := match a, b with
  | some l, some k => min 12 (2 * ab_D l k l.length k.length)
  | _, _ => 4
theorem ev_S33 {x y : Nat} {fo : Nat → Option ab_Ls} (A : ev_all w) (hx : x < 40) (hy : y < 40) (hFO : ab_FO m fo) (hxt : ab_th m x = true) (hyt : ab_th m y = true) (hxz : ∀ l, fo x = some l → ab_az l) (hyz : ∀ l, fo y = some l → ab_az l)
    (hQ : ∀ m', (∀ k j, k ≠ 208 → m' k j = m k j) → Q (.inl (some (.int (Int32.ofNat (if (m 205 x).toInt = (m 205 y).toInt then 0 else ab_apart (fo x) (fo y)))))) m' t) : ev_K w 33 [.ref 40, .int (Int32.ofNat x), .int (Int32.ofNat y)] m t Q := by
  have hp : ev_prog[33]? = some ev_m33 := rfl
  obtain ⟨fx, fx2⟩ := hFO x hx hxt
  obtain ⟨fy, fy2⟩ := hFO y hy hyt
  refine ⟨Or.inr ⟨40, _, rfl, rfl⟩, ev_m33, rfl, ev_gK A hp [11, 27, 29] 10 ?_⟩
  show ev_K w 25 [.ref 40, .int (ab_oi (some x)), .int (ab_oi (some y))] m t _
  refine ev_S25 A (fun z h => by cases h; exact hx) (fun z h => by cases h; exact hy) ?_
  refine And.intro (fun h => ?_) (fun h => ?_)
  · have h1 : ¬ (m 205 x).toInt = (m 205 y).toInt := of_decide_eq_false (ab_bi_eq h)
    rw [if_neg h1] at hQ
    show ev_J w ev_m33 (ev_nd 33) Q 11 [some (.ref 40), some (.int (Int32.ofNat x)), some (.int (Int32.ofNat y))] [] m t
    have h27 : ab_apart (fo x) (fo y) = 4 → ev_J w ev_m33 (ev_nd 33) Q 27 [some (.ref 40), some (.int (Int32.ofNat x)), some (.int (Int32.ofNat y))] [] m t := by
      intro h4
      refine ev_gK A hp [] 10 ?_
      rw [h4] at hQ
      exact hQ m (fun _ _ _ => rfl)
    refine ev_gK A hp [27, 29] 10 ?_
    refine ev_S21 A hx ?_
    refine And.intro (fun h => ?_) (fun h => ?_)
    · have h2 : (m (45 + 4 * x) 1).toInt = -1 := of_decide_eq_true (ab_bi_ne h)
      refine h27 ?_
      cases hfx : fo x with
      | none => rfl
      | some l =>
        rw [hfx] at fx
        have h3 := (show ab_L m (45 + 4 * x) l from fx).1
        omega
    refine ev_S21 A hy ?_
    have h2 : ¬ (m (45 + 4 * x) 1).toInt = -1 := of_decide_eq_false (ab_bi_nne h)
    refine And.intro (fun h => ?_) (fun h => ?_)
    · have h3 : ¬ (m (45 + 4 * y) 1).toInt = -1 := of_decide_eq_false (ab_bi_eq h)
      show ev_J w ev_m33 (ev_nd 33) Q 29 [some (.ref 40), some (.int (Int32.ofNat x)), some (.int (Int32.ofNat y))] [] m t
      cases hfx : fo x with
      | none => rw [hfx] at fx; exact absurd fx h2
      | some l =>
        cases hfy : fo y with
        | none => rw [hfy] at fy; exact absurd fy h3
        | some k =>
          rw [hfx] at fx fx2 hQ
          rw [hfy] at fy fy2 hQ
          have hl12 : l.length ≤ 12 := fx2
          have hk12 : k.length ≤ 12 := fy2
          have hD := ab_D_le l k l.length k.length
          refine ev_gK A hp [] 20 ?_
          refine And.intro (ev_oin hx (by decide)) ?_
          refine And.intro (ev_oin hy (by decide)) ?_
          show ev_K w 34 [.ref 40, .ref (45 + 4 * (Int32.ofNat x).toNatClampNeg), .ref (45 + 4 * (Int32.ofNat y).toNatClampNeg)] m t _
          rw [ev_on (by omega), ev_on (by omega)]
          refine ev_S34 A (ev_isLf hx) (ev_isLf hy) (by omega) (by omega) (by omega) (by omega) fx fy (hxz l hfx) (hyz k hfy) hl12 hk12 hl12 hk12 (by decide) (by decide) (fun m' hf => ?_)
          show ev_K w 0 [.int (Int32.ofNat 12), .int (Int32.ofNat 2 * Int32.ofNat (ab_D l k l.length k.length))] m' t _
          have e2 : Int32.ofNat 2 * Int32.ofNat (ab_D l k l.length k.length) = Int32.ofNat (2 * ab_D l k l.length k.length) := by
            apply ev_eq_of
            have q1 := ev_ofNat_i (n := 2) (by omega)
            have q2 := ev_ofNat_i (n := ab_D l k l.length k.length) (by omega)
            rw [ev_mul_i (by rw [q1, q2]; omega) (by rw [q1, q2]; omega), q1, q2, ev_ofNat_i (by omega)]
            omega
          rw [e2]
          refine ev_S0 A ?_
          rw [ev_minN (by omega) (by omega)]
          exact hQ m' hf
    · have h3 : (m (45 + 4 * y) 1).toInt = -1 := of_decide_eq_true (ab_bi_neq h)
      refine h27 ?_
      cases hfy : fo y with
      | none => cases fo x <;> rfl
      | some l =>
        rw [hfy] at fy
        have h4 := (show ab_L m (45 + 4 * y) l from fy).1
        omega
  · have h1 : (m 205 x).toInt = (m 205 y).toInt := of_decide_eq_true (ab_bi_neq h)
    rw [if_pos h1] at hQ
    exact hQ m (fun _ _ _ => rfl)
end EvEdits
