/-! the model: steps, places moved -/
section EvMjoin
variable {w : ev_W} {Q : ev_QT} {m : ev_Mem} {t : ev_H} {z : ab_Z}
def ab_CO (m : ev_Mem) (z : ab_Z) (v : Nat) : Prop := ∀ p j, p ≤ (zT z).1 → j ≤ (zW z v).length → m 296 (11 * p + j) = Int32.ofNat (ab_C (zg z v) ((zT z).1 - p) ((zW z v).length - j))
theorem ab_S_of (hok : ab_ok z) {v p j : Nat} (hv : v < 4) (hp : p ≤ (zT z).1) (hj : j ≤ (zW z v).length) : ab_S (zg z v) ((zT z).1 - p) ((zW z v).length - j) = if ab_C (zg z v) ((zT z).1 - p) ((zW z v).length - j) = ab_mt z v p j + ab_cs z v (p + 1) (j + 1) then 0 else if ab_C (zg z v) ((zT z).1 - p) ((zW z v).length - j) = 8 + ab_cs z v (p + 1) j then 1 else 2 := by
  have kk1 := hok.2.2.2.2.1.1.1
  have hw10 := (hok.2.2.1 v hv).1
  have c0 := ab_C_le (zg z v) ((zT z).1 - p) ((zW z v).length - j)
  unfold ab_S
  have e1 : (0 < (zT z).1 - p ∧ 0 < (zW z v).length - j ∧ ab_C (zg z v) ((zT z).1 - p) ((zW z v).length - j) = zg z v ((zT z).1 - p - 1) ((zW z v).length - j - 1) + ab_C (zg z v) ((zT z).1 - p - 1) ((zW z v).length - j - 1)) ↔ ab_C (zg z v) ((zT z).1 - p) ((zW z v).length - j) = ab_mt z v p j + ab_cs z v (p + 1) (j + 1) := by
    unfold ab_mt ab_cs
    by_cases hc : p < (zT z).1 ∧ j < (zW z v).length
    · rw [if_pos hc, if_pos (by omega), (by omega : (zT z).1 - (p + 1) = (zT z).1 - p - 1), (by omega : (zW z v).length - (j + 1) = (zW z v).length - j - 1)]
      exact ⟨fun h => h.2.2, fun h => ⟨by omega, by omega, h⟩⟩
    · rw [if_neg hc]
      exact ⟨fun h => by omega, fun h => by omega⟩
  have e2 : (0 < (zT z).1 - p ∧ ab_C (zg z v) ((zT z).1 - p) ((zW z v).length - j) = 8 + ab_C (zg z v) ((zT z).1 - p - 1) ((zW z v).length - j)) ↔ ab_C (zg z v) ((zT z).1 - p) ((zW z v).length - j) = 8 + ab_cs z v (p + 1) j := by
    unfold ab_cs
    by_cases hc : p < (zT z).1
    · rw [if_pos (by omega), (by omega : (zT z).1 - (p + 1) = (zT z).1 - p - 1)]
      exact ⟨fun h => h.2, fun h => ⟨by omega, h⟩⟩
    · rw [if_neg (by omega)]
      exact ⟨fun h => by omega, fun h => by omega⟩
  by_cases h1 : ab_C (zg z v) ((zT z).1 - p) ((zW z v).length - j) = ab_mt z v p j + ab_cs z v (p + 1) (j + 1)
  · rw [if_pos (e1.mpr h1), if_pos h1]
  · rw [if_neg (fun q => h1 (e1.mp q)), if_neg h1]
    by_cases h2 : ab_C (zg z v) ((zT z).1 - p) ((zW z v).length - j) = 8 + ab_cs z v (p + 1) j
    · rw [if_pos (e2.mpr h2), if_pos h2]
    · rw [if_neg (fun q => h2 (e2.mp q)), if_neg h2]
theorem ab_CO_cost {v p j : Nat} (hC : ab_CO m z v) : (if p ≤ (zT z).1 ∧ j ≤ (zW z v).length then m 296 (11 * p + j) else Int32.ofNat 1000) = Int32.ofNat (ab_cs z v p j) := by
  unfold ab_cs
  by_cases hc : p ≤ (zT z).1 ∧ j ≤ (zW z v).length
  · rw [if_pos hc, if_pos hc]; exact hC p j hc.1 hc.2
  · rw [if_neg hc, if_neg hc]
/-- step -/
theorem ev_S164 {v p j : Nat} (A : ev_all w) (hs : ab_RepM m z) (hok : ab_ok z) (hv : v < 4) (hC : ab_CO m z v) (hp' : p ≤ (zT z).1) (hj' : j ≤ (zW z v).length) (hQ : ∀ m', (∀ c i, c ≠ 297 → m' c i = m c i) → Q (.inl (some (.int (Int32.ofNat (ab_S (zg z v) ((zT z).1 - p) ((zW z v).length - j)))))) m' t) : ev_K w 164 [.ref 277, .int (Int32.ofNat p), .int (Int32.ofNat v), .int (Int32.ofNat j)] m t Q := by
  have hp : ev_prog[164]? = some ev_m164 := rfl
  have kk1 := hok.2.2.2.2.1.1.1
  have hw10 := (hok.2.2.1 v hv).1
  have hcs : ab_cs z v p j = ab_C (zg z v) ((zT z).1 - p) ((zW z v).length - j) := if_pos ⟨hp', hj'⟩
  rw [ab_S_of hok hv hp' hj', ← hcs] at hQ
  have b0 := ab_cs_le hok (p := p) (j := j) hv
  have b1 := ab_mt_le (z := z) v p j
  have b2 := ab_cs_le hok (p := p + 1) (j := j + 1) hv
  have b3 := ab_cs_le hok (p := p + 1) (j := j) hv
  refine ⟨Or.inr ⟨277, _, rfl, rfl⟩, ev_m164, rfl, ev_gK A hp [9] 10 ?_⟩
  refine ev_S162 A hs hok hv (by omega) (by omega) ?_
  rw [ab_CO_cost hC]
  show ev_J w ev_m164 (ev_nd 164) Q 9 [ev_vr 277, ev_vn p, ev_vn v, ev_vn j, ev_vn (ab_cs z v p j)] [] m t
  have e0 := ev_ofNat_i (n := ab_cs z v p j) (by omega)
  refine ev_gK A hp [] 6 ?_
  refine ev_S161 A hs hok hv (by omega) (by omega) (fun m1 f1 => ?_)
  have hs1 := ab_RM_0 hs (m' := m1) (fun c i hc => f1 c i (fun q => hc (by unfold ab_sM; omega)))
  have hC1 : ab_CO m1 z v := fun p j h1 h2 => by rw [f1 _ _ (by decide)]; exact hC p j h1 h2
  refine ev_gK A hp [] 9 ?_
  show ev_K w 162 [.ref 277, .int (Int32.ofNat p + 1), .int (Int32.ofNat v), .int (Int32.ofNat j + 1)] m1 t _
  rw [ev_succ (by omega), ev_succ (by omega)]
  refine ev_S162 A hs1 hok hv (by omega) (by omega) ?_
  rw [ab_CO_cost hC1]
  show ev_J w ev_m164 (ev_nd 164) Q 29 [ev_vr 277, ev_vn p, ev_vn v, ev_vn j, ev_vn (ab_cs z v p j)] [.int (Int32.ofNat (ab_cs z v (p + 1) (j + 1))), .int (Int32.ofNat (ab_mt z v p j)), .int (Int32.ofNat (ab_cs z v p j))] m1 t
  refine ev_gK A hp [] 1 ?_
  show ev_J w ev_m164 (ev_nd 164) Q 30 [ev_vr 277, ev_vn p, ev_vn v, ev_vn j, ev_vn (ab_cs z v p j)] [.int (Int32.ofNat (ab_mt z v p j) + Int32.ofNat (ab_cs z v (p + 1) (j + 1))), .int (Int32.ofNat (ab_cs z v p j))] m1 t
  rw [ev_addN (by omega)]
  have e1 := ev_ofNat_i (n := ab_mt z v p j + ab_cs z v (p + 1) (j + 1)) (by omega)
  refine ev_gK A hp [37] 10 ?_
  refine And.intro (fun (h : ¬ (Int32.ofNat (ab_cs z v p j)).toInt = (Int32.ofNat (ab_mt z v p j + ab_cs z v (p + 1) (j + 1))).toInt) => ?_) (fun (h : (Int32.ofNat (ab_cs z v p j)).toInt = (Int32.ofNat (ab_mt z v p j + ab_cs z v (p + 1) (j + 1))).toInt) => ?_)
  · rw [if_neg (by omega)] at hQ
    refine ev_gK A hp [] 9 ?_
    show ev_K w 162 [.ref 277, .int (Int32.ofNat p + 1), .int (Int32.ofNat v), .int (Int32.ofNat j)] m1 t _
    rw [ev_succ (by omega)]
    refine ev_S162 A hs1 hok hv (by omega) (by omega) ?_
    rw [ab_CO_cost hC1]
    show ev_J w ev_m164 (ev_nd 164) Q 50 [ev_vr 277, ev_vn p, ev_vn v, ev_vn j, ev_vn (ab_cs z v p j)] [.int (Int32.ofNat (ab_cs z v (p + 1) j)), .int (Int32.ofNat 8), .int (Int32.ofNat (ab_cs z v p j))] m1 t
    refine ev_gK A hp [] 1 ?_
    show ev_J w ev_m164 (ev_nd 164) Q 51 [ev_vr 277, ev_vn p, ev_vn v, ev_vn j, ev_vn (ab_cs z v p j)] [.int (Int32.ofNat 8 + Int32.ofNat (ab_cs z v (p + 1) j)), .int (Int32.ofNat (ab_cs z v p j))] m1 t
    rw [ev_addN (by omega)]
    have e2 := ev_ofNat_i (n := 8 + ab_cs z v (p + 1) j) (by omega)
    refine ev_gK A hp [] 10 ?_
    refine And.intro (fun (h2 : ¬ (Int32.ofNat (ab_cs z v p j)).toInt = (Int32.ofNat (8 + ab_cs z v (p + 1) j)).toInt) => ?_) (fun (h2 : (Int32.ofNat (ab_cs z v p j)).toInt = (Int32.ofNat (8 + ab_cs z v (p + 1) j)).toInt) => ?_)
    · rw [if_neg (by omega)] at hQ
      exact hQ m1 f1
    · rw [if_pos (by omega)] at hQ
      exact hQ m1 f1
  · rw [if_pos (by omega)] at hQ
    exact hQ m1 f1
/-- putIn -/
theorem ev_S163 {v : Nat} (A : ev_all w) (hs : ab_RepM m z) (hok : ab_ok z) (hv : v < 4) (hC : ab_CO m z v) (hQ : ∀ m', (∀ c i, c ≠ 297 → m' c i = m c i) → Q (.inl (some (.int (Int32.ofNat (ab_n2 (zp z v) (zp z v).length))))) m' t) : ev_K w 163 [.ref 277, .int (Int32.ofNat v)] m t Q := by
  have hp : ev_prog[163]? = some ev_m163 := rfl
  have kk1 := hok.2.2.2.2.1.1.1
  have hw10 := (hok.2.2.1 v hv).1
  obtain ⟨c1, c2, c3, c4, c5, c6, c7, c8, -⟩ := id hs
  have i2 : (Int32.ofInt 2).toInt = 2 := by decide
  have i1 : (Int32.ofInt 1).toInt = 1 := by decide
  have n2s : ∀ k, ab_n2 (zp z v) (k + 1) = ab_n2 (zp z v) k + if (zp z v).getD k 0 = 2 then 1 else 0 := by
    intro k
    unfold ab_n2
    rw [ab_cn]
    by_cases q : (zp z v).getD k 0 = 2
    · rw [if_pos q, if_pos (decide_eq_true q)]
    · rw [if_neg q, if_neg (by rw [decide_eq_true_eq]; exact q)]
  have loop : ∀ (n p j k : Nat) (pp jj nn : Int32) (mk : ev_Mem) (o5 : Option Value), ((zT z).1 - p) + ((zW z v).length - j) = n → p ≤ (zT z).1 → j ≤ (zW z v).length → pp = Int32.ofNat p → jj = Int32.ofNat j → nn = Int32.ofNat (ab_n2 (zp z v) k) → k ≤ (zp z v).length → (zp z v).drop k = ab_path (zg z v) ((zT z).1 - p) ((zW z v).length - j) → (∀ c i, c ≠ 297 → mk c i = m c i) → ev_J w ev_m163 (ev_nd 163) Q 7 [ev_vr 277, ev_vn v, ev_vi nn, ev_vi pp, ev_vi jj, o5] [] mk t := by
    intro n
    induction n using Nat.strongRecOn with
    | _ n ih =>
      intro p j k pp jj nn mk o5 hn hpN hjJ epp ejj enn hkl hdr fk
      subst epp ejj enn
      have ep := ev_ofNat_i (n := p) (by omega)
      have ej := ev_ofNat_i (n := j) (by omega)
      have hsk := ab_RM_0 hs (m' := mk) (fun c i hc => fk c i (fun q => hc (by unfold ab_sM; omega)))
      have mN : (mk 277 22).toInt = ((zT z).1 : Int) := by rw [fk _ _ (by decide)]; exact ev_toI c8.1 (by omega)
      have mJ : (mk 279 (Int32.ofNat v).toNatClampNeg).toInt = ((zW z v).length : Int) := by rw [ev_on (by omega), fk _ _ (by decide)]; exact ev_toI (c3 v hv) (by omega)
      have hCk : ab_CO mk z v := fun p j h1 h2 => by rw [fk _ _ (by decide)]; exact hC p j h1 h2
      have hn2 : ab_n2 (zp z v) k ≤ k := ab_cn_le _ _
      have hlen34 := (zp_facts hok hv).2.2.1
      have body : ¬ ((zT z).1 - p = 0 ∧ (zW z v).length - j = 0) → ev_J w ev_m163 (ev_nd 163) Q 26 [ev_vr 277, ev_vn v, ev_vn (ab_n2 (zp z v) k), ev_vn p, ev_vn j, o5] [] mk t := by
        intro hz
        rw [ab_path_step (zg z v) hz] at hdr
        obtain ⟨d1, d2, d3⟩ := ab_drop_cons (d := 0) hdr
        refine ev_gK A hp [36] 10 ?_
        refine ev_S164 A hsk hok hv hCk hpN hjJ (fun m1 f1 => ?_)
        have f1m : ∀ c i, c ≠ 297 → m1 c i = m c i := fun c i hc => (f1 c i hc).trans (fk c i hc)
        have hs2 := n2s k
        rw [d1] at hs2
        show ev_J w ev_m163 (ev_nd 163) Q 36 [ev_vr 277, ev_vn v, ev_vn (ab_n2 (zp z v) k), ev_vn p, ev_vn j, ev_vn (ab_S (zg z v) ((zT z).1 - p) ((zW z v).length - j))] [] m1 t
        rcases ab_S_cs (zg z v) hz with ⟨q, q1, q2⟩ | ⟨q, q1⟩ | ⟨q, q1⟩
        · rw [q] at hs2 d2 ⊢
          refine ev_gK A hp [7] 40 ?_
          refine And.intro (fun _ => ?_) (fun (h : (Int32.ofNat 0).toInt = (Int32.ofInt 2).toInt) => absurd h (by decide))
          refine And.intro (fun _ => ?_) (fun (h : (Int32.ofNat 0).toInt = (Int32.ofInt 2).toInt) => absurd h (by decide))
          refine And.intro (fun _ => ?_) (fun (h : (Int32.ofNat 0).toInt = (Int32.ofInt 1).toInt) => absurd h (by decide))
          exact ih (n - 2) (by omega) (p + 1) (j + 1) (k + 1) _ _ _ m1 _ (by omega) (by omega) (by omega) (ev_succ (by omega)) (ev_succ (by omega)) (by rw [hs2]; rfl) (by omega) d2 f1m
        · rw [q] at hs2 d2 ⊢
          refine ev_gK A hp [7] 40 ?_
          refine And.intro (fun _ => ?_) (fun (h : (Int32.ofNat 1).toInt = (Int32.ofInt 2).toInt) => absurd h (by decide))
          refine And.intro (fun _ => ?_) (fun (h : (Int32.ofNat 1).toInt = (Int32.ofInt 2).toInt) => absurd h (by decide))
          refine And.intro (fun (h : ¬ (Int32.ofNat 1).toInt = (Int32.ofInt 1).toInt) => absurd rfl h) (fun _ => ?_)
          exact ih (n - 1) (by omega) (p + 1) j (k + 1) _ _ _ m1 _ (by omega) (by omega) (by omega) (ev_succ (by omega)) rfl (by rw [hs2]; rfl) (by omega) d2 f1m
        · rw [q] at hs2 d2 ⊢
          refine ev_gK A hp [7] 40 ?_
          refine And.intro (fun (h : ¬ (Int32.ofNat 2).toInt = (Int32.ofInt 2).toInt) => absurd rfl h) (fun _ => ?_)
          refine And.intro (fun (h : ¬ (Int32.ofNat 2).toInt = (Int32.ofInt 2).toInt) => absurd rfl h) (fun _ => ?_)
          refine And.intro (fun _ => ?_) (fun (h : (Int32.ofNat 2).toInt = (Int32.ofInt 1).toInt) => absurd h (by decide))
          exact ih (n - 1) (by omega) p (j + 1) (k + 1) _ _ _ m1 _ (by omega) (by omega) (by omega) rfl (ev_succ (by omega)) (by rw [hs2]; exact ev_succ (by omega)) (by omega) d2 f1m
      refine ev_gK A hp [26] 20 ?_
      refine And.intro (fun (h : (Int32.ofNat p).toInt < (mk 277 22).toInt) => body (by omega)) (fun (h : (mk 277 22).toInt ≤ (Int32.ofNat p).toInt) => ?_)
      refine And.intro (ev_oin hv (by decide)) ?_
      refine And.intro (fun (h2 : (mk 279 (Int32.ofNat v).toNatClampNeg).toInt ≤ (Int32.ofNat j).toInt) => ?_) (fun (h2 : (Int32.ofNat j).toInt < (mk 279 (Int32.ofNat v).toNatClampNeg).toInt) => body (by omega))
      rw [(by omega : (zT z).1 - p = 0), (by omega : (zW z v).length - j = 0), ab_path_nil] at hdr
      have hl : (zp z v).length = k := by
        have := List.drop_eq_nil_iff.mp hdr
        omega
      rw [hl] at hQ
      exact hQ mk fk
  refine ⟨Or.inr ⟨277, _, rfl, rfl⟩, ev_m163, rfl, ev_gK A hp [7] 10 ?_⟩
  exact loop _ 0 0 0 _ _ _ m _ rfl (by omega) (by omega) rfl rfl rfl (by omega) rfl (fun _ _ _ => rfl)
/-- move -/
theorem ev_S167 {a b : Nat} (A : ev_all w) (ha : a < 24) (hb : b < 24) (hQ : ∀ m' : ev_Mem, (∀ c i, ¬ (c = 293 ∧ 4 * b ≤ i ∧ i < 4 * b + 4) → ¬ (c = 294 ∧ i = b) → m' c i = m c i) → (∀ u, u < 4 → m' 293 (4 * b + u) = m 293 (4 * a + u)) → m' 294 b = m 294 a → Q (.inl none) m' t) : ev_K w 167 [.ref 277, .int (Int32.ofNat a), .int (Int32.ofNat b)] m t Q := by
  have hp : ev_prog[167]? = some ev_m167 := rfl
  have i4 := ev_i4
  have loop := ev_lup (P := fun k => ∀ (kk : Int32) (mk : ev_Mem), kk = Int32.ofNat k → (∀ c i, ¬ (c = 293 ∧ 4 * b ≤ i ∧ i < 4 * b + k) → mk c i = m c i) → (∀ u, u < k → mk 293 (4 * b + u) = m 293 (4 * a + u)) → ev_J w ev_m167 (ev_nd 167) Q 2 [ev_vr 277, ev_vn a, ev_vn b, ev_vi kk] [] mk t) 4 (by
    intro k hk ih kk mk ekk fk hu
    subst ekk
    have ek := ev_ofNat_i (n := k) (by omega)
    have xa : Int32.ofInt 4 * Int32.ofNat a + Int32.ofNat k = Int32.ofNat (4 * a + k) := ev_lin (c := 4) (by omega) (by omega) (by omega)
    have xb : Int32.ofInt 4 * Int32.ofNat b + Int32.ofNat k = Int32.ofNat (4 * b + k) := ev_lin (c := 4) (by omega) (by omega) (by omega)
    refine ev_gK A hp [2, 33] 30 ?_
    refine And.intro (fun (h : (Int32.ofInt 4).toInt ≤ (Int32.ofNat k).toInt) => ?_) (fun (h : (Int32.ofNat k).toInt < (Int32.ofInt 4).toInt) => ?_)
    · have e : k = 4 := by omega
      subst e
      refine ev_gK A hp [] 10 ?_
      refine And.intro (ev_oin ha (by decide)) ?_
      refine And.intro (ev_oin hb (by decide)) ?_
      refine hQ _ (fun c i z1 z2 => ?_) (fun u hu' => ?_) ?_
      · rw [ev_on (by omega), show ev_up mk 294 b (mk 294 (Int32.ofNat a).toNatClampNeg) c i = mk c i from if_neg z2]
        exact fk c i z1
      · rw [ev_up_cell _ (by decide)]; exact hu u hu'
      · rw [ev_on (by omega), ev_up_same, ev_on (by omega), fk _ _ (by omega)]
    · refine And.intro (ev_iin xa (by omega) (by decide)) ?_
      refine And.intro (ev_iin xb (by omega) (by decide)) ?_
      refine ih (by omega) _ _ (ev_succ (by omega)) (fun c i z1 => ?_) (fun u hu' => ?_)
      · rw [ev_at xb (by omega), show ev_up mk 293 (4 * b + k) (mk 293 (Int32.ofInt 4 * Int32.ofNat a + Int32.ofNat k).toNatClampNeg) c i = mk c i from if_neg (by omega)]
        exact fk c i (by omega)
      · rw [ev_at xb (by omega)]
        by_cases huk : u = k
        · rw [huk, ev_up_same, ev_at xa (by omega), fk _ _ (by omega)]
        · rw [ev_up_idx _ _ (by omega)]; exact hu u (by omega))
  refine ⟨Or.inr ⟨277, _, rfl, rfl⟩, ev_m167, rfl, ev_gK A hp [2] 10 ?_⟩
  exact loop 0 (by omega) _ m rfl (fun _ _ _ => rfl) (fun u hu => by omega)
/-- open -/
theorem ev_S166 {p M x : Nat} (A : ev_all w) (hM : m 277 22 = Int32.ofNat M) (hM24 : M < 24) (hpM : p ≤ M) (hx : x < 40) (hQ : ∀ m' : ev_Mem, (∀ c i, c ≠ 293 → c ≠ 294 → ¬ (c = 277 ∧ i = 22) → m' c i = m c i) → m' 277 22 = Int32.ofNat (M + 1) → (∀ q, q < p → (∀ u, u < 4 → m' 293 (4 * q + u) = m 293 (4 * q + u)) ∧ m' 294 q = m 294 q) → (∀ q, p ≤ q → q < M → (∀ u, u < 4 → m' 293 (4 * (q + 1) + u) = m 293 (4 * q + u)) ∧ m' 294 (q + 1) = m 294 q) → (∀ u, u < 4 → m' 293 (4 * p + u) = ab_oi (if u = x / 10 then some x else none)) → m' 294 p = -1 → Q (.inl none) m' t) : ev_K w 166 [.ref 277, .int (Int32.ofNat p), .int (Int32.ofNat x)] m t Q := by
  have hp : ev_prog[166]? = some ev_m166 := rfl
  have i4 := ev_i4
  have ep := ev_ofNat_i (n := p) (by omega)
  have n10 : ¬ (10 : Int32) = 0 := by decide
  -- the new place
  have fill : ∀ mh : ev_Mem, (∀ c i, c ≠ 293 → c ≠ 294 → mh c i = m c i) → (∀ q, q < p → (∀ u, u < 4 → mh 293 (4 * q + u) = m 293 (4 * q + u)) ∧ mh 294 q = m 294 q) → (∀ q, p ≤ q → q < M → (∀ u, u < 4 → mh 293 (4 * (q + 1) + u) = m 293 (4 * q + u)) ∧ mh 294 (q + 1) = m 294 q) → ∀ k, k ≤ 4 → ∀ (kk : Int32) (mk : ev_Mem), kk = Int32.ofNat k → (∀ c i, ¬ (c = 293 ∧ 4 * p ≤ i ∧ i < 4 * p + k) → mk c i = mh c i) → (∀ u, u < k → mk 293 (4 * p + u) = ab_oi (if u = x / 10 then some x else none)) → ev_J w ev_m166 (ev_nd 166) Q 26 [ev_vr 277, ev_vn p, ev_vn x, ev_vi kk] [] mk t := by
    intro mh fh hlow hhigh
    refine ev_lup (P := fun k => ∀ (kk : Int32) (mk : ev_Mem), kk = Int32.ofNat k → (∀ c i, ¬ (c = 293 ∧ 4 * p ≤ i ∧ i < 4 * p + k) → mk c i = mh c i) → (∀ u, u < k → mk 293 (4 * p + u) = ab_oi (if u = x / 10 then some x else none)) → ev_J w ev_m166 (ev_nd 166) Q 26 [ev_vr 277, ev_vn p, ev_vn x, ev_vi kk] [] mk t) 4 (fun k hk ih kk mk ekk fk hu => ?_)
    subst ekk
    have ek := ev_ofNat_i (n := k) (by omega)
    have xp : Int32.ofInt 4 * Int32.ofNat p + Int32.ofNat k = Int32.ofNat (4 * p + k) := ev_lin (c := 4) (by omega) (by omega) (by omega)
    refine ev_gK A hp [31, 60] 10 ?_
    refine And.intro (fun (h : (Int32.ofInt 4).toInt ≤ (Int32.ofNat k).toInt) => ?_) (fun (h : (Int32.ofNat k).toInt < (Int32.ofInt 4).toInt) => ?_)
    · have e : k = 4 := by omega
      subst e
      have m22 : mk 277 22 = Int32.ofNat M := by rw [fk _ _ (by omega), fh _ _ (by decide) (by decide)]; exact hM
      refine ev_gK A hp [67] 10 ?_
      refine And.intro (ev_oin (by omega) (by decide)) ?_
      show ev_J w ev_m166 (ev_nd 166) Q 67 [ev_vr 277, ev_vn p, ev_vn x, ev_vn 4] [] (ev_up mk 294 (Int32.ofNat p).toNatClampNeg (Int32.ofInt (-1))) t
      rw [ev_on (by omega)]
      refine ev_gK A hp [] 10 ?_
      show Q (.inl none) (ev_up (ev_up mk 294 p (Int32.ofInt (-1))) 277 22 (ev_up mk 294 p (Int32.ofInt (-1)) 277 22 + 1)) t
      rw [show ev_up mk 294 p (Int32.ofInt (-1)) 277 22 + 1 = Int32.ofNat (M + 1) from by rw [ev_up_cell _ (by decide), m22]; exact ev_succ (by omega)]
      refine hQ _ (fun c i z1 z2 z3 => ?_) (ev_up_same _ _ _ _) (fun q hq => ⟨fun u hu' => ?_, ?_⟩) (fun q h1 h2 => ⟨fun u hu' => ?_, ?_⟩) (fun u hu' => ?_) ?_
      · rw [show ev_up (ev_up mk 294 p (Int32.ofInt (-1))) 277 22 (Int32.ofNat (M + 1)) c i = ev_up mk 294 p (Int32.ofInt (-1)) c i from if_neg z3, ev_up_cell _ z2, fk c i (by omega)]
        exact fh c i z1 z2
      · rw [ev_up_cell _ (by decide), ev_up_cell _ (by decide), fk _ _ (by omega)]; exact (hlow q hq).1 u hu'
      · rw [ev_up_cell _ (by decide), ev_up_idx _ _ (by omega), fk _ _ (by omega)]; exact (hlow q hq).2
      · rw [ev_up_cell _ (by decide), ev_up_cell _ (by decide), fk _ _ (by omega)]; exact (hhigh q h1 h2).1 u hu'
      · rw [ev_up_cell _ (by decide), ev_up_idx _ _ (by omega), fk _ _ (by omega)]; exact (hhigh q h1 h2).2
      · rw [ev_up_cell _ (by decide), ev_up_cell _ (by decide)]; exact hu u hu'
      · rw [ev_up_cell _ (by decide), ev_up_same]; rfl
    · have hk4 : k < 4 := by omega
      have h53 : ∀ o : Option Nat, o = (if k = x / 10 then some x else none) → ev_J w ev_m166 (ev_nd 166) Q 53 [ev_vr 277, ev_vn p, ev_vn x, ev_vn k] [.int (ab_oi o), .int (Int32.ofNat (4 * p + k)), .ref 293] mk t := by
        intro o ho
        refine ev_gK A hp [26] 10 ?_
        refine And.intro (ev_oin (by omega) (by decide)) ?_
        refine ih hk4 _ _ (ev_succ (by omega)) (fun c i z1 => ?_) (fun u hu' => ?_)
        · rw [ev_on (by omega), show ev_up mk 293 (4 * p + k) (ab_oi o) c i = mk c i from if_neg (by omega)]
          exact fk c i (by omega)
        · rw [ev_on (by omega)]
          by_cases huk : u = k
          · rw [huk, ev_up_same, ho]
          · rw [ev_up_idx _ _ (by omega)]; exact hu u (by omega)
      refine ev_gK A hp [] 7 ?_
      show ev_J w ev_m166 (ev_nd 166) Q 40 [ev_vr 277, ev_vn p, ev_vn x, ev_vn k] [.int (Int32.ofInt 4 * Int32.ofNat p + Int32.ofNat k), .ref 293] mk t
      rw [xp]
      refine ev_gK A hp [] 4 ?_
      refine And.intro n10 ?_
      show ev_J w ev_m166 (ev_nd 166) Q 45 [ev_vr 277, ev_vn p, ev_vn x, ev_vn k] [.int (Int32.ofNat x / 10), .int (Int32.ofNat k), .int (Int32.ofNat (4 * p + k)), .ref 293] mk t
      rw [ev_d10 (by omega)]
      have ex := ev_ofNat_i (n := x / 10) (by omega)
      refine ev_gK A hp [53] 10 ?_
      refine And.intro (fun (h2 : ¬ (Int32.ofNat k).toInt = (Int32.ofNat (x / 10)).toInt) => ?_) (fun (h2 : (Int32.ofNat k).toInt = (Int32.ofNat (x / 10)).toInt) => ?_)
      · exact h53 none (by rw [if_neg (by omega)])
      · exact h53 (some x) (by rw [if_pos (by omega)])
  have loop : ∀ (d k : Nat) (kk : Int32) (mk : ev_Mem), k = p + d → k ≤ M → kk = Int32.ofNat k → (∀ c i, c ≠ 293 → c ≠ 294 → mk c i = m c i) → (∀ q, q < k → (∀ u, u < 4 → mk 293 (4 * q + u) = m 293 (4 * q + u)) ∧ mk 294 q = m 294 q) → (∀ q, k ≤ q → q < M → (∀ u, u < 4 → mk 293 (4 * (q + 1) + u) = m 293 (4 * q + u)) ∧ mk 294 (q + 1) = m 294 q) → ev_J w ev_m166 (ev_nd 166) Q 5 [ev_vr 277, ev_vn p, ev_vn x, ev_vi kk] [] mk t := by
    intro d
    induction d with
    | zero =>
      intro k kk mk hk hkM ekk fk hlow hhigh
      subst ekk
      have ek := ev_ofNat_i (n := k) (by omega)
      have e : k = p := by omega
      subst e
      refine ev_gK A hp [26] 10 ?_
      refine And.intro (fun _ => ?_) (fun (h : (Int32.ofNat k).toInt < (Int32.ofNat k).toInt) => by omega)
      exact fill mk fk hlow hhigh 0 (by omega) _ mk rfl (fun _ _ _ => rfl) (fun u hu => by omega)
    | succ d ih =>
      intro k kk mk hk hkM ekk fk hlow hhigh
      subst ekk
      have ek := ev_ofNat_i (n := k) (by omega)
      refine ev_gK A hp [10] 10 ?_
      refine And.intro (fun (h : (Int32.ofNat k).toInt ≤ (Int32.ofNat p).toInt) => by omega) (fun _ => ?_)
      refine ev_gK A hp [] 4 ?_
      show ev_J w ev_m166 (ev_nd 166) Q 14 [ev_vr 277, ev_vn p, ev_vn x, ev_vn k] [.int (Int32.ofNat k - 1), .ref 277] mk t
      rw [ev_pred (by omega) (by omega)]
      refine ev_gK A hp [5] 10 ?_
      refine ev_S167 A (by omega) (by omega) (fun m1 f1 h1 h2 => ?_)
      refine ih (k - 1) _ m1 (by omega) (by omega) ?_ (fun c i z1 z2 => by rw [f1 c i (by omega) (by omega)]; exact fk c i z1 z2) (fun q hq => ⟨fun u hu => ?_, ?_⟩) (fun q z1 z2 => ⟨fun u hu => ?_, ?_⟩)
      · rw [ev_dec1 (by omega)]
        apply ev_eq_of
        rw [ev_ofInt_i (by omega) (by omega), ev_ofNat_i (by omega)]
        omega
      · rw [f1 _ _ (by omega) (by omega)]; exact (hlow q (by omega)).1 u hu
      · rw [f1 _ _ (by omega) (by omega)]; exact (hlow q (by omega)).2
      · by_cases hqk : q = k - 1
        · rw [(by omega : q + 1 = k), h1 u hu, hqk]
          exact (hlow (k - 1) (by omega)).1 u hu
        · rw [f1 _ _ (by omega) (by omega)]; exact (hhigh q (by omega) z2).1 u hu
      · by_cases hqk : q = k - 1
        · rw [(by omega : q + 1 = k), h2, hqk]
          exact (hlow (k - 1) (by omega)).2
        · rw [f1 _ _ (by omega) (by omega)]; exact (hhigh q (by omega) z2).2
  refine ⟨Or.inr ⟨277, _, rfl, rfl⟩, ev_m166, rfl, ev_gK A hp [5] 10 ?_⟩
  exact loop (M - p) M _ m (by omega) (Nat.le_refl _) hM (fun _ _ _ _ => rfl) (fun q hq => ⟨fun u hu => rfl, rfl⟩) (fun q z1 z2 => by omega)
end EvMjoin
