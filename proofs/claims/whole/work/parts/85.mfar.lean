/-! the model: how far apart -/
section EvMfar
variable {w : ev_W} {Q : ev_QT} {m : ev_Mem} {t : ev_H} {z : ab_Z}
theorem ab_D_sym (a b : ab_Ls) : ∀ (n i j : Nat), i + j ≤ n → ab_D a b i j = ab_D b a j i := by
  intro n
  induction n with
  | zero =>
    intro i j h
    have hi : i = 0 := by omega
    have hj : j = 0 := by omega
    subst hi hj
    rfl
  | succ n ih =>
    intro i j h
    cases i with
    | zero =>
      cases j with
      | zero => rfl
      | succ j => rfl
    | succ i =>
      cases j with
      | zero => rfl
      | succ j =>
        show min (ab_D a b i j + ab_ne a b i j) (min (ab_D a b i (j + 1)) (ab_D a b (i + 1) j) + 1) = min (ab_D b a j i + ab_ne b a j i) (min (ab_D b a j (i + 1)) (ab_D b a (j + 1) i) + 1)
        rw [ih i j (by omega), ih i (j + 1) (by omega), ih (i + 1) j (by omega)]
        have hne : ab_ne a b i j = ab_ne b a j i := by
          unfold ab_ne
          by_cases q : a.getD i 0 = b.getD j 0
          · rw [if_pos q, if_pos q.symm]
          · rw [if_neg q, if_neg (fun y => q y.symm)]
        rw [hne]
        omega
theorem ab_apart_sym (a b : Option ab_Ls) : ab_apart a b = ab_apart b a := by
  cases a with
  | none => cases b <;> rfl
  | some l => cases b with
    | none => rfl
    | some k =>
      show min 12 (2 * ab_D l k l.length k.length) = min 12 (2 * ab_D k l k.length l.length)
      rw [ab_D_sym l k _ _ _ (Nat.le_refl _)]
theorem zd_sym (x y : Nat) : zd z x y = zd z y x := by
  unfold zd zq
  by_cases h : zm z x = zm z y
  · rw [decide_eq_true h, decide_eq_true h.symm]; rfl
  · rw [decide_eq_false h, decide_eq_false (fun q => h q.symm), ab_apart_sym]
theorem ev_subNN {n c : Nat} (h : c ≤ n) (hn : n < 100000) : Int32.ofNat n - Int32.ofNat c = Int32.ofNat (n - c) := by
  have e1 := ev_ofNat_i (n := n) (by omega)
  have e2 := ev_ofNat_i (n := c) (by omega)
  apply ev_eq_of
  rw [ev_sub_i (by omega) (by omega), e1, e2, ev_ofNat_i (by omega)]
  omega
/-- apart -/
theorem ev_S157 {a b : Nat} {th : Nat → Bool} {fo : Nat → Option ab_Ls} (A : ev_all w) (hF : ab_MF m th fo 40) (ha : a < 40) (hb : b < 40) (hat : th a = true) (hbt : th b = true) (hQ : ∀ m', (∀ c i, c ≠ 297 → m' c i = m c i) → Q (.inl (some (.int (Int32.ofNat (ab_D (ab_fz (fo a)) (ab_fz (fo b)) (ab_fz (fo a)).length (ab_fz (fo b)).length))))) m' t) : ev_K w 157 [.ref 277, .int (Int32.ofNat a), .int (Int32.ofNat b)] m t Q := by
  have hp : ev_prog[157]? = some ev_m157 := rfl
  obtain ⟨⟨a1, a2⟩, a3⟩ := hF a ha hat
  obtain ⟨⟨b1, b2⟩, b3⟩ := hF b hb hbt
  have na : (Int32.ofNat a).toNatClampNeg = a := ev_on (by omega)
  have nb : (Int32.ofNat b).toNatClampNeg = b := ev_on (by omega)
  generalize ab_fz (fo a) = fa at *
  generalize ab_fz (fo b) = fb at *
  have ela := ev_ofNat_i (n := fa.length) (by omega)
  have elb := ev_ofNat_i (n := fb.length) (by omega)
  have lin : ∀ i j, i ≤ 12 → j ≤ 12 → (Int8.ofInt 13).toInt32 * Int32.ofNat i + Int32.ofNat j = Int32.ofNat (13 * i + j) := fun i j h1 h2 => ev_lin (c := 13) (by omega) (by omega) (by omega)
  have inner : ∀ i, i ≤ fa.length → (∀ (ii : Int32) (mk : ev_Mem) (o4 o5 : Option Value), ii = Int32.ofNat (i + 1) → (∀ c k, c ≠ 297 → mk c k = m c k) → (∀ i' j', i' < i + 1 → j' ≤ fb.length → mk 297 (13 * i' + j') = Int32.ofNat (ab_D fa fb i' j')) → ev_J w ev_m157 (ev_nd 157) Q 2 [ev_vr 277, ev_vn a, ev_vn b, ev_vi ii, o4, o5] [] mk t) →
      ∀ j, j ≤ fb.length + 1 → ∀ (jj : Int32) (mk : ev_Mem) (o5 : Option Value), jj = Int32.ofNat j → (∀ c k, c ≠ 297 → mk c k = m c k) → (∀ i' j', i' < i → j' ≤ fb.length → mk 297 (13 * i' + j') = Int32.ofNat (ab_D fa fb i' j')) → (∀ j', j' < j → mk 297 (13 * i + j') = Int32.ofNat (ab_D fa fb i j')) → ev_J w ev_m157 (ev_nd 157) Q 15 [ev_vr 277, ev_vn a, ev_vn b, ev_vn i, ev_vi jj, o5] [] mk t := by
    intro i hi kont
    refine ev_lup (P := fun j => ∀ (jj : Int32) (mk : ev_Mem) (o5 : Option Value), jj = Int32.ofNat j → (∀ c k, c ≠ 297 → mk c k = m c k) → (∀ i' j', i' < i → j' ≤ fb.length → mk 297 (13 * i' + j') = Int32.ofNat (ab_D fa fb i' j')) → (∀ j', j' < j → mk 297 (13 * i + j') = Int32.ofNat (ab_D fa fb i j')) → ev_J w ev_m157 (ev_nd 157) Q 15 [ev_vr 277, ev_vn a, ev_vn b, ev_vn i, ev_vi jj, o5] [] mk t) (fb.length + 1) (fun j hj ih jj mk o5 ejj fk h1 h2 => ?_)
    subst ejj
    have ei := ev_ofNat_i (n := i) (by omega)
    have ej := ev_ofNat_i (n := j) (by omega)
    have mb : mk 283 (Int32.ofNat b).toNatClampNeg = Int32.ofNat fb.length := by rw [nb, fk _ _ (by decide)]; exact b1
    refine ev_gK A hp [26, 166] 10 ?_
    refine And.intro (ev_oin hb (by decide)) ?_
    refine And.intro (fun (h : (mk 283 (Int32.ofNat b).toNatClampNeg).toInt < (Int32.ofNat j).toInt) => ?_) (fun (h : (Int32.ofNat j).toInt ≤ (mk 283 (Int32.ofNat b).toNatClampNeg).toInt) => ?_)
    · rw [mb] at h
      refine ev_gK A hp [2] 10 ?_
      refine kont _ mk _ _ (ev_succ (by omega)) fk (fun i' j' z1 z2 => ?_)
      by_cases hii : i' = i
      · rw [hii]; exact h2 j' (by omega)
      · exact h1 i' j' (by omega) z2
    rw [mb] at h
    have hjl : j ≤ fb.length := by omega
    have store : ∀ (v : Nat) (o5 : Option Value), v = ab_D fa fb i j → ∀ q : Nat, (q = 50 ∨ q = 159) → ev_J w ev_m157 (ev_nd 157) Q q [ev_vr 277, ev_vn a, ev_vn b, ev_vn i, ev_vn j, o5] [.int (Int32.ofNat v), .int (Int32.ofNat (13 * i + j)), .ref 297] mk t := by
      intro v o5 hv q hq
      have fin : ev_J w ev_m157 (ev_nd 157) Q 15 [ev_vr 277, ev_vn a, ev_vn b, ev_vn i, ev_vi (Int32.ofNat j + 1), o5] [] (ev_up mk 297 (13 * i + j) (Int32.ofNat v)) t := by
        refine ih (by omega) _ _ _ (ev_succ (by omega)) (fun c k z1 => by rw [ev_up_cell _ z1]; exact fk c k z1) (fun i' j' z1 z2 => by rw [ev_up_idx _ _ (by omega)]; exact h1 i' j' z1 z2) (fun j' z1 => ?_)
        by_cases hjj : j' = j
        · rw [hjj, ev_up_same, hv]
        · rw [ev_up_idx _ _ (by omega)]; exact h2 j' (by omega)
      rcases hq with rfl | rfl
      · refine ev_gK A hp [15] 10 ?_
        refine And.intro (ev_oin (by omega) (by decide)) ?_
        show ev_J w ev_m157 (ev_nd 157) Q 15 [ev_vr 277, ev_vn a, ev_vn b, ev_vn i, ev_vi (Int32.ofNat j + 1), o5] [] (ev_up mk 297 (Int32.ofNat (13 * i + j)).toNatClampNeg (Int32.ofNat v)) t
        rw [ev_on (by omega)]
        exact fin
      · refine ev_gK A hp [15] 10 ?_
        refine And.intro (ev_oin (by omega) (by decide)) ?_
        show ev_J w ev_m157 (ev_nd 157) Q 15 [ev_vr 277, ev_vn a, ev_vn b, ev_vn i, ev_vi (Int32.ofNat j + 1), o5] [] (ev_up mk 297 (Int32.ofNat (13 * i + j)).toNatClampNeg (Int32.ofNat v)) t
        rw [ev_on (by omega)]
        exact fin
    have edge : i = 0 ∨ j = 0 → ev_J w ev_m157 (ev_nd 157) Q 35 [ev_vr 277, ev_vn a, ev_vn b, ev_vn i, ev_vn j, o5] [] mk t := by
      intro h0
      refine ev_gK A hp [] 10 ?_
      show ev_J w ev_m157 (ev_nd 157) Q 50 [ev_vr 277, ev_vn a, ev_vn b, ev_vn i, ev_vn j, o5] [.int (Int32.ofNat i + Int32.ofNat j), .int ((Int8.ofInt 13).toInt32 * Int32.ofNat i + Int32.ofNat j), .ref 297] mk t
      rw [lin i j (by omega) (by omega), ev_addN (by omega)]
      refine store (i + j) _ ?_ 50 (Or.inl rfl)
      rcases h0 with rfl | rfl
      · show 0 + j = j; omega
      · cases i <;> rfl
    refine ev_gK A hp [35, 54] 10 ?_
    refine And.intro (fun (h3 : (Int32.ofNat i).toInt = 0) => edge (Or.inl (by omega))) (fun (h3 : ¬ (Int32.ofNat i).toInt = 0) => ?_)
    refine And.intro (fun (h4 : ¬ (Int32.ofNat j).toInt = 0) => ?_) (fun (h4 : (Int32.ofNat j).toInt = 0) => edge (Or.inr (by omega)))
    obtain ⟨i0, rfl⟩ : ∃ i0, i = i0 + 1 := ⟨i - 1, by omega⟩
    obtain ⟨j0, rfl⟩ : ∃ j0, j = j0 + 1 := ⟨j - 1, by omega⟩
    have xa : (Int8.ofInt 12).toInt32 * Int32.ofNat a + Int32.ofNat (i0 + 1) - Int32.ofInt 1 = Int32.ofNat (12 * a + i0) := by
      have e1 : (Int8.ofInt 12).toInt32 * Int32.ofNat a + Int32.ofNat (i0 + 1) = Int32.ofNat (12 * a + (i0 + 1)) := ev_lin (c := 12) (by omega) (by omega) (by omega)
      rw [e1]
      exact (ev_subNN (c := 1) (by omega) (by omega)).trans (by congr 1)
    have xb : (Int8.ofInt 12).toInt32 * Int32.ofNat b + Int32.ofNat (j0 + 1) - Int32.ofInt 1 = Int32.ofNat (12 * b + j0) := by
      have e1 : (Int8.ofInt 12).toInt32 * Int32.ofNat b + Int32.ofNat (j0 + 1) = Int32.ofNat (12 * b + (j0 + 1)) := ev_lin (c := 12) (by omega) (by omega) (by omega)
      rw [e1]
      exact (ev_subNN (c := 1) (by omega) (by omega)).trans (by congr 1)
    have y0 := lin (i0 + 1) (j0 + 1) (by omega) (by omega)
    have y14 : (Int8.ofInt 13).toInt32 * Int32.ofNat (i0 + 1) + Int32.ofNat (j0 + 1) - (Int8.ofInt 14).toInt32 = Int32.ofNat (13 * i0 + j0) := by
      rw [y0]
      exact (ev_subNN (c := 14) (by omega) (by omega)).trans (by congr 1; omega)
    have y13 : (Int8.ofInt 13).toInt32 * Int32.ofNat (i0 + 1) + Int32.ofNat (j0 + 1) - (Int8.ofInt 13).toInt32 = Int32.ofNat (13 * i0 + (j0 + 1)) := by
      rw [y0]
      exact (ev_subNN (c := 13) (by omega) (by omega)).trans (by congr 1; omega)
    have y1 : (Int8.ofInt 13).toInt32 * Int32.ofNat (i0 + 1) + Int32.ofNat (j0 + 1) - Int32.ofInt 1 = Int32.ofNat (13 * (i0 + 1) + j0) := by
      rw [y0]
      exact (ev_subNN (c := 1) (by omega) (by omega)).trans (by congr 1)
    have d1 := ab_D_le fa fb i0 j0
    have d2 := ab_D_le fa fb i0 (j0 + 1)
    have d3 := ab_D_le fa fb (i0 + 1) j0
    have h91 : ∀ s : Nat, s = ab_ne fa fb i0 j0 → ev_J w ev_m157 (ev_nd 157) Q 91 [ev_vr 277, ev_vn a, ev_vn b, ev_vn (i0 + 1), ev_vn (j0 + 1), ev_vn s] [] mk t := by
      intro s hs
      have hs1 : s ≤ 1 := by rw [hs]; unfold ab_ne; split <;> omega
      refine ev_gK A hp [] 43 ?_
      refine And.intro (ev_iin y14 (by omega) (by decide)) ?_
      refine And.intro (ev_iin y13 (by omega) (by decide)) ?_
      refine And.intro (ev_iin y1 (by omega) (by decide)) ?_
      show ev_K w 158 [.ref 277, .int (mk 297 ((Int8.ofInt 13).toInt32 * Int32.ofNat (i0 + 1) + Int32.ofNat (j0 + 1) - (Int8.ofInt 13).toInt32).toNatClampNeg), .int (mk 297 ((Int8.ofInt 13).toInt32 * Int32.ofNat (i0 + 1) + Int32.ofNat (j0 + 1) - Int32.ofInt 1).toNatClampNeg)] mk t _
      rw [ev_at y13 (by omega), ev_at y1 (by omega), h1 i0 (j0 + 1) (by omega) hjl, h2 j0 (by omega)]
      refine ev_S158 A (by omega) (by omega) ?_
      show ev_J w ev_m157 (ev_nd 157) Q 155 [ev_vr 277, ev_vn a, ev_vn b, ev_vn (i0 + 1), ev_vn (j0 + 1), ev_vn s] [.int (Int32.ofNat (min (ab_D fa fb i0 (j0 + 1)) (ab_D fa fb (i0 + 1) j0))), .int (Int32.ofNat 1), .int (mk 297 ((Int8.ofInt 13).toInt32 * Int32.ofNat (i0 + 1) + Int32.ofNat (j0 + 1) - (Int8.ofInt 14).toInt32).toNatClampNeg + Int32.ofNat s), .ref 277, .int ((Int8.ofInt 13).toInt32 * Int32.ofNat (i0 + 1) + Int32.ofNat (j0 + 1)), .ref 297] mk t
      rw [ev_at y14 (by omega), h1 i0 j0 (by omega) (by omega), ev_addN (by omega), y0]
      refine ev_gK A hp [] 1 ?_
      show ev_J w ev_m157 (ev_nd 157) Q 156 [ev_vr 277, ev_vn a, ev_vn b, ev_vn (i0 + 1), ev_vn (j0 + 1), ev_vn s] [.int (Int32.ofNat 1 + Int32.ofNat (min (ab_D fa fb i0 (j0 + 1)) (ab_D fa fb (i0 + 1) j0))), .int (Int32.ofNat (ab_D fa fb i0 j0 + s)), .ref 277, .int (Int32.ofNat (13 * (i0 + 1) + (j0 + 1))), .ref 297] mk t
      rw [ev_addN (by omega)]
      refine ev_gK A hp [] 1 ?_
      refine ev_S158 A (by omega) (by omega) ?_
      refine store _ _ ?_ 159 (Or.inr rfl)
      show _ = min (ab_D fa fb i0 j0 + ab_ne fa fb i0 j0) (min (ab_D fa fb i0 (j0 + 1)) (ab_D fa fb (i0 + 1) j0) + 1)
      rw [hs]
      omega
    refine ev_gK A hp [91] 30 ?_
    refine And.intro (ev_iin xa (by omega) (by decide)) ?_
    refine And.intro (ev_iin xb (by omega) (by decide)) ?_
    have va : mk 282 ((Int8.ofInt 12).toInt32 * Int32.ofNat a + Int32.ofNat (i0 + 1) - Int32.ofInt 1).toNatClampNeg = fa.getD i0 0 := by rw [ev_at xa (by omega), fk _ _ (by decide)]; exact a3 i0 (by omega)
    have vb : mk 282 ((Int8.ofInt 12).toInt32 * Int32.ofNat b + Int32.ofNat (j0 + 1) - Int32.ofInt 1).toNatClampNeg = fb.getD j0 0 := by rw [ev_at xb (by omega), fk _ _ (by decide)]; exact b3 j0 (by omega)
    refine And.intro (fun (h5 : ¬ (mk 282 ((Int8.ofInt 12).toInt32 * Int32.ofNat a + Int32.ofNat (i0 + 1) - Int32.ofInt 1).toNatClampNeg).toInt = (mk 282 ((Int8.ofInt 12).toInt32 * Int32.ofNat b + Int32.ofNat (j0 + 1) - Int32.ofInt 1).toNatClampNeg).toInt) => ?_) (fun (h5 : (mk 282 ((Int8.ofInt 12).toInt32 * Int32.ofNat a + Int32.ofNat (i0 + 1) - Int32.ofInt 1).toNatClampNeg).toInt = (mk 282 ((Int8.ofInt 12).toInt32 * Int32.ofNat b + Int32.ofNat (j0 + 1) - Int32.ofInt 1).toNatClampNeg).toInt) => ?_)
    · rw [va, vb] at h5
      exact h91 1 (by unfold ab_ne; rw [if_neg (fun q => h5 (by rw [q]))])
    · rw [va, vb] at h5
      exact h91 0 (by unfold ab_ne; rw [if_pos (ev_eq_of h5)])
  have outer := ev_lup (P := fun i => ∀ (ii : Int32) (mk : ev_Mem) (o4 o5 : Option Value), ii = Int32.ofNat i → (∀ c k, c ≠ 297 → mk c k = m c k) → (∀ i' j', i' < i → j' ≤ fb.length → mk 297 (13 * i' + j') = Int32.ofNat (ab_D fa fb i' j')) → ev_J w ev_m157 (ev_nd 157) Q 2 [ev_vr 277, ev_vn a, ev_vn b, ev_vi ii, o4, o5] [] mk t) (fa.length + 1) (by
    intro i hi ih ii mk o4 o5 eii fk h1
    subst eii
    have ei := ev_ofNat_i (n := i) (by omega)
    have ma : mk 283 a = Int32.ofNat fa.length := by rw [fk _ _ (by decide)]; exact a1
    have mb : mk 283 b = Int32.ofNat fb.length := by rw [fk _ _ (by decide)]; exact b1
    refine ev_gK A hp [15, 172] 10 ?_
    refine And.intro (ev_oin ha (by decide)) ?_
    refine And.intro (fun (h : (mk 283 (Int32.ofNat a).toNatClampNeg).toInt < (Int32.ofNat i).toInt) => ?_) (fun (h : (Int32.ofNat i).toInt ≤ (mk 283 (Int32.ofNat a).toNatClampNeg).toInt) => ?_)
    · rw [na, ma] at h
      have ex : (Int8.ofInt 13).toInt32 * mk 283 (Int32.ofNat a).toNatClampNeg + mk 283 (Int32.ofNat b).toNatClampNeg = Int32.ofNat (13 * fa.length + fb.length) := by rw [na, nb, ma, mb]; exact lin _ _ (by omega) (by omega)
      refine ev_gK A hp [] 20 ?_
      refine And.intro (ev_oin ha (by decide)) ?_
      refine And.intro (ev_oin hb (by decide)) ?_
      refine And.intro (ev_iin ex (by omega) (by decide)) ?_
      show Q (.inl (some (.int (mk 297 ((Int8.ofInt 13).toInt32 * mk 283 (Int32.ofNat a).toNatClampNeg + mk 283 (Int32.ofNat b).toNatClampNeg).toNatClampNeg)))) mk t
      rw [ev_at ex (by omega), h1 fa.length fb.length (by omega) (Nat.le_refl _)]
      exact hQ mk fk
    · rw [na, ma] at h
      exact inner i (by omega) (ih (by omega)) 0 (by omega) _ mk _ rfl fk h1 (fun j' z1 => by omega))
  refine ⟨Or.inr ⟨277, _, rfl, rfl⟩, ev_m157, rfl, ev_gK A hp [2] 10 ?_⟩
  exact outer 0 (by omega) _ m _ _ rfl (fun _ _ _ => rfl) (fun i' j' z1 => by omega)
/-- far -/
theorem ev_S156w {a b : Nat} (A : ev_all w) (c4 : ab_ML m (zW z)) (c5 : ab_MF m (zt z) (zf z) 40) (c6 : ab_MQ m z) (hW : ab_Wok (zW z)) (ha : a < 40) (hb : b < 40) (hat : zt z a = true) (hbt : zt z b = true) (hQ : ∀ m', (∀ c i, c ≠ 297 → m' c i = m c i) → Q (.inl (some (.int (Int32.ofNat (zd z a b))))) m' t) : ev_K w 156 [.ref 277, .int (Int32.ofNat a), .int (Int32.ofNat b)] m t Q := by
  have hp : ev_prog[156]? = some ev_m156 := rfl
  obtain ⟨g, g1, g2, g3⟩ := c6
  have na : (Int32.ofNat a).toNatClampNeg = a := ev_on (by omega)
  have nb : (Int32.ofNat b).toNatClampNeg = b := ev_on (by omega)
  have ea := ev_ofNat_i (n := g a) (by have := g2 a ha hat; omega)
  have eb := ev_ofNat_i (n := g b) (by have := g2 b hb hbt; omega)
  refine ⟨Or.inr ⟨277, _, rfl, rfl⟩, ev_m156, rfl, ev_gK A hp [19] 20 ?_⟩
  refine And.intro (ev_oin ha (by decide)) ?_
  refine And.intro (ev_oin hb (by decide)) ?_
  refine And.intro (fun (h : ¬ (m 284 (Int32.ofNat a).toNatClampNeg).toInt = (m 284 (Int32.ofNat b).toNatClampNeg).toInt) => ?_) (fun (h : (m 284 (Int32.ofNat a).toNatClampNeg).toInt = (m 284 (Int32.ofNat b).toNatClampNeg).toInt) => ?_)
  · rw [na, nb, g1 a ha hat, g1 b hb hbt] at h
    have hq : zq z a b = false := by
      cases hq : zq z a b with
      | false => rfl
      | true => have := (g3 a b ha hb hat hbt).mpr hq; omega
    have hd : zd z a b = ab_apart (zf z a) (zf z b) := by unfold zd; rw [hq]; rfl
    rw [hd] at hQ
    have four : zf z a = none ∨ zf z b = none → ab_apart (zf z a) (zf z b) = 4 := by
      intro q
      rcases q with q | q
      · rw [q]; rfl
      · rw [q]; cases zf z a <;> rfl
    show ev_J w ev_m156 (ev_nd 156) Q 19 [ev_vr 277, ev_vn a, ev_vn b] [] m t
    refine ev_gK A hp [39] 20 ?_
    refine ev_S149 (R := zR z) A c4 hW ha hat ?_
    refine And.intro (fun h2 => ?_) (fun h2 => ?_)
    · have h3 := four (Or.inl (of_decide_eq_true (ab_bi_ne h2)))
      rw [h3] at hQ
      exact hQ m (fun _ _ _ => rfl)
    have ha2 := of_decide_eq_false (ab_bi_nne h2)
    refine ev_S149 (R := zR z) A c4 hW hb hbt ?_
    refine And.intro (fun h3 => ?_) (fun h3 => ?_)
    · have hb2 := of_decide_eq_false (ab_bi_eq h3)
      show ev_J w ev_m156 (ev_nd 156) Q 39 [ev_vr 277, ev_vn a, ev_vn b] [] m t
      refine ev_gK A hp [] 7 ?_
      refine ev_S157 A c5 ha hb hat hbt (fun m1 f1 => ?_)
      have hd1 := ab_D_le (ab_fz (zf z a)) (ab_fz (zf z b)) (ab_fz (zf z a)).length (ab_fz (zf z b)).length
      have l1 := (c5 a ha hat).1.2
      have l2 := (c5 b hb hbt).1.2
      have hap : ab_apart (zf z a) (zf z b) = min 12 (2 * ab_D (ab_fz (zf z a)) (ab_fz (zf z b)) (ab_fz (zf z a)).length (ab_fz (zf z b)).length) := by
        cases h5 : zf z a with
        | none => exact absurd h5 ha2
        | some l => cases h6 : zf z b with
          | none => exact absurd h6 hb2
          | some k => rfl
      rw [hap] at hQ
      generalize ab_D (ab_fz (zf z a)) (ab_fz (zf z b)) (ab_fz (zf z a)).length (ab_fz (zf z b)).length = D at *
      show ev_J w ev_m156 (ev_nd 156) Q 49 [ev_vr 277, ev_vn a, ev_vn b] [.int (Int32.ofNat D), .int (Int32.ofNat 2), .int (Int32.ofNat 12), .ref 277] m1 t
      refine ev_gK A hp [] 1 ?_
      show ev_J w ev_m156 (ev_nd 156) Q 50 [ev_vr 277, ev_vn a, ev_vn b] [.int (Int32.ofNat 2 * Int32.ofNat D), .int (Int32.ofNat 12), .ref 277] m1 t
      rw [ev_mulN (by omega) (by omega)]
      refine ev_gK A hp [] 10 ?_
      refine ev_S158 A (by omega) (by omega) ?_
      exact hQ m1 f1
    · have h4 := four (Or.inr (of_decide_eq_true (ab_bi_neq h3)))
      rw [h4] at hQ
      exact hQ m (fun _ _ _ => rfl)
  · rw [na, nb, g1 a ha hat, g1 b hb hbt] at h
    have hq := (g3 a b ha hb hat hbt).mp (by omega)
    have hd : zd z a b = 0 := by unfold zd; rw [hq]; rfl
    rw [hd] at hQ
    exact hQ m (fun _ _ _ => rfl)
theorem ev_S156 {a b : Nat} (A : ev_all w) (hs : ab_RepM m z) (hok : ab_ok z) (ha : a < 40) (hb : b < 40) (hat : zt z a = true) (hbt : zt z b = true) (hQ : ∀ m', (∀ c i, c ≠ 297 → m' c i = m c i) → Q (.inl (some (.int (Int32.ofNat (zd z a b))))) m' t) : ev_K w 156 [.ref 277, .int (Int32.ofNat a), .int (Int32.ofNat b)] m t Q :=
  ev_S156w A hs.2.2.2.1 hs.2.2.2.2.1 hs.2.2.2.2.2.1 hok.2.2.1 ha hb hat hbt hQ
end EvMfar
