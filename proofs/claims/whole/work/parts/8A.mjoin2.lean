/-! the model: a witness joined -/
section EvMjoin2
variable {w : ev_W} {Q : ev_QT} {m : ev_Mem} {t : ev_H} {z : ab_Z}
/-- stepOf -/
theorem ev_S165 {v p j k : Nat} (A : ev_all w) (hok : ab_ok z) (c3 : ab_MS m (zW z)) (c4 : ab_ML m (zW z)) (c5 : ab_MF m (zt z) (zf z) 40) (c6 : ab_MQ m z) (hv : v < 4) (hC : ab_CO m z v) (hp' : p ≤ (zT z).1) (hj' : j ≤ (zW z v).length) (hpk : p ≤ k) (hk24 : k + ((zT z).1 - p) ≤ 24) (hne : ¬ ((zT z).1 - p = 0 ∧ (zW z v).length - j = 0))
    (hM : m 277 22 = Int32.ofNat (k + ((zT z).1 - p))) (hwd : p < (zT z).1 → ∀ u, u < 4 → m 293 (4 * k + u) = ab_oi (ab_nat (zT z) p u)) (hQ : ∀ m', (∀ c i, c ≠ 297 → m' c i = m c i) → Q (.inl (some (.int (Int32.ofNat (ab_S (zg z v) ((zT z).1 - p) ((zW z v).length - j)))))) m' t) : ev_K w 165 [.ref 277, .int (Int32.ofNat p), .int (Int32.ofNat v), .int (Int32.ofNat j), .int (Int32.ofNat (zT z).1)] m t Q := by
  have hp : ev_prog[165]? = some ev_m165 := rfl
  have kk1 := hok.2.2.2.2.1.1.1
  have k9 := hok.2.2.2.2.1.2
  have hw10 := (hok.2.2.1 v hv).1
  have i4 := ev_i4
  have i1000 : ((Int16.ofInt 1000).toInt32).toInt = 1000 := by decide
  obtain ⟨N, hN⟩ : ∃ N, (zT z).1 = N := ⟨_, rfl⟩
  obtain ⟨J, hJ⟩ : ∃ J, (zW z v).length = J := ⟨_, rfl⟩
  obtain ⟨d, hd⟩ : ∃ d, ab_C (zg z v) (N - p) (J - j) = d := ⟨_, rfl⟩
  have hCle := ab_C_le (zg z v) (N - p) (J - j)
  have hCpj := hC p j hp' hj'
  rw [hN, hJ, hd] at hCpj
  rw [hN] at hk24 hM hp' kk1
  rw [hJ] at hj' hw10
  have ep := ev_ofNat_i (n := p) (by omega)
  have ej := ev_ofNat_i (n := j) (by omega)
  have eN := ev_ofNat_i (n := N) (by omega)
  have ed := ev_ofNat_i (n := d) (by omega)
  have mJ : ∀ mk : ev_Mem, (∀ c i, c ≠ 297 → mk c i = m c i) → (mk 279 (Int32.ofNat v).toNatClampNeg).toInt = (J : Int) := fun mk fk => by rw [ev_on (by omega), fk _ _ (by decide), ← hJ]; exact ev_toI (c3 v hv) (by omega)
  have hS : ab_S (zg z v) (N - p) (J - j) = if 0 < N - p ∧ 0 < J - j ∧ d = zg z v (N - p - 1) (J - j - 1) + ab_C (zg z v) (N - p - 1) (J - j - 1) then 0 else if 0 < N - p ∧ d = 8 + ab_C (zg z v) (N - p - 1) (J - j) then 1 else 2 := by unfold ab_S; rw [hd]
  rw [hN, hJ, hS] at hQ
  have e11 : (Int8.ofInt 11).toInt32 * Int32.ofNat p + Int32.ofNat j = Int32.ofNat (11 * p + j) := ev_lin (c := 11) (by omega) (by omega) (by omega)
  have eNM : m 277 22 - Int32.ofNat N = Int32.ofNat (k - p) := by rw [hM, ev_subNN (by omega) (by omega)]; congr 1; omega
  -- the second question
  have h136 : ∀ (mk : ev_Mem) (bb kk : Int32) (o9 : Option Value), (∀ c i, c ≠ 297 → mk c i = m c i) → ¬ (0 < N - p ∧ 0 < J - j ∧ d = zg z v (N - p - 1) (J - j - 1) + ab_C (zg z v) (N - p - 1) (J - j - 1)) → ev_J w ev_m165 (ev_nd 165) Q 136 [ev_vr 277, ev_vn p, ev_vn v, ev_vn j, ev_vn N, ev_vn (k - p), ev_vn d, ev_vi bb, ev_vi kk, o9] [] mk t := by
    intro mk bb kk o9 fk hno
    rw [if_neg hno] at hQ
    refine ev_gK A hp [142] 10 ?_
    refine And.intro (fun (h : (Int32.ofNat N).toInt ≤ (Int32.ofNat p).toInt) => ?_) (fun (h : (Int32.ofNat p).toInt < (Int32.ofNat N).toInt) => ?_)
    · rw [if_neg (by omega)] at hQ
      exact hQ mk fk
    · have hpN : p < N := by omega
      have x11 : (Int8.ofInt 11).toInt32 * Int32.ofNat p + Int32.ofNat j + (Int8.ofInt 11).toInt32 = Int32.ofNat (11 * p + j + 11) := by rw [e11]; exact ev_addN (b := 11) (by omega)
      have hC2 := hC (p + 1) j (by omega) (by omega)
      rw [hN, hJ, (by omega : 11 * (p + 1) + j = 11 * p + j + 11), (by omega : N - (p + 1) = N - p - 1)] at hC2
      have hle2 := ab_C_le (zg z v) (N - p - 1) (J - j)
      refine ev_gK A hp [] 12 ?_
      refine And.intro (ev_iin x11 (by omega) (by decide)) ?_
      show ev_J w ev_m165 (ev_nd 165) Q 160 [ev_vr 277, ev_vn p, ev_vn v, ev_vn j, ev_vn N, ev_vn (k - p), ev_vn d, ev_vi bb, ev_vi kk, o9] [.int (mk 296 ((Int8.ofInt 11).toInt32 * Int32.ofNat p + Int32.ofNat j + (Int8.ofInt 11).toInt32).toNatClampNeg), .int (Int32.ofNat 8), .int (Int32.ofNat d)] mk t
      rw [ev_at x11 (by omega), fk _ _ (by decide), hC2]
      refine ev_gK A hp [] 1 ?_
      show ev_J w ev_m165 (ev_nd 165) Q 161 [ev_vr 277, ev_vn p, ev_vn v, ev_vn j, ev_vn N, ev_vn (k - p), ev_vn d, ev_vi bb, ev_vi kk, o9] [.int (Int32.ofNat 8 + Int32.ofNat (ab_C (zg z v) (N - p - 1) (J - j))), .int (Int32.ofNat d)] mk t
      rw [ev_addN (by omega)]
      have e8 := ev_ofNat_i (n := 8 + ab_C (zg z v) (N - p - 1) (J - j)) (by omega)
      refine ev_gK A hp [] 10 ?_
      refine And.intro (fun (h2 : ¬ (Int32.ofNat d).toInt = (Int32.ofNat (8 + ab_C (zg z v) (N - p - 1) (J - j))).toInt) => ?_) (fun (h2 : (Int32.ofNat d).toInt = (Int32.ofNat (8 + ab_C (zg z v) (N - p - 1) (J - j))).toInt) => ?_)
      · rw [if_neg (by omega)] at hQ
        exact hQ mk fk
      · rw [if_pos (by omega)] at hQ
        exact hQ mk fk
  -- the first
  have h104 : ∀ (mk : ev_Mem) (b : Nat) (bb kk : Int32) (o9 : Option Value), (∀ c i, c ≠ 297 → mk c i = m c i) → bb = Int32.ofNat b → b ≤ 1000 → (if p < N ∧ j < J then b = zg z v (N - p - 1) (J - j - 1) else b = 1000) → ev_J w ev_m165 (ev_nd 165) Q 104 [ev_vr 277, ev_vn p, ev_vn v, ev_vn j, ev_vn N, ev_vn (k - p), ev_vn d, ev_vi bb, ev_vi kk, o9] [] mk t := by
    intro mk b bb kk o9 fk ebb hb1000 hb
    subst ebb
    have eb := ev_ofNat_i (n := b) (by omega)
    refine ev_gK A hp [112, 136] 10 ?_
    refine And.intro (fun (h : ((Int16.ofInt 1000).toInt32).toInt ≤ (Int32.ofNat b).toInt) => ?_) (fun (h : (Int32.ofNat b).toInt < ((Int16.ofInt 1000).toInt32).toInt) => ?_)
    · refine h136 mk _ _ _ fk (fun q => ?_)
      rw [if_pos (by omega)] at hb
      have := zg_le (z := z) v (N - p - 1) (J - j - 1)
      omega
    · by_cases hpj : p < N ∧ j < J
      · rw [if_pos hpj] at hb
        have x12 : (Int8.ofInt 11).toInt32 * Int32.ofNat p + Int32.ofNat j + (Int8.ofInt 12).toInt32 = Int32.ofNat (11 * p + j + 12) := by rw [e11]; exact ev_addN (b := 12) (by omega)
        have hC2 := hC (p + 1) (j + 1) (by omega) (by omega)
        rw [hN, hJ, (by omega : 11 * (p + 1) + (j + 1) = 11 * p + j + 12), (by omega : N - (p + 1) = N - p - 1), (by omega : J - (j + 1) = J - j - 1)] at hC2
        have hle2 := ab_C_le (zg z v) (N - p - 1) (J - j - 1)
        refine ev_gK A hp [] 12 ?_
        refine And.intro (ev_iin x12 (by omega) (by decide)) ?_
        show ev_J w ev_m165 (ev_nd 165) Q 130 [ev_vr 277, ev_vn p, ev_vn v, ev_vn j, ev_vn N, ev_vn (k - p), ev_vn d, ev_vn b, ev_vi kk, o9] [.int (mk 296 ((Int8.ofInt 11).toInt32 * Int32.ofNat p + Int32.ofNat j + (Int8.ofInt 12).toInt32).toNatClampNeg), .int (Int32.ofNat b), .int (Int32.ofNat d)] mk t
        rw [ev_at x12 (by omega), fk _ _ (by decide), hC2]
        refine ev_gK A hp [] 1 ?_
        show ev_J w ev_m165 (ev_nd 165) Q 131 [ev_vr 277, ev_vn p, ev_vn v, ev_vn j, ev_vn N, ev_vn (k - p), ev_vn d, ev_vn b, ev_vi kk, o9] [.int (Int32.ofNat b + Int32.ofNat (ab_C (zg z v) (N - p - 1) (J - j - 1))), .int (Int32.ofNat d)] mk t
        rw [ev_addN (by omega)]
        have e8 := ev_ofNat_i (n := b + ab_C (zg z v) (N - p - 1) (J - j - 1)) (by omega)
        refine ev_gK A hp [136] 10 ?_
        refine And.intro (fun (h2 : ¬ (Int32.ofNat d).toInt = (Int32.ofNat (b + ab_C (zg z v) (N - p - 1) (J - j - 1))).toInt) => ?_) (fun (h2 : (Int32.ofNat d).toInt = (Int32.ofNat (b + ab_C (zg z v) (N - p - 1) (J - j - 1))).toInt) => ?_)
        · exact h136 mk _ _ _ fk (fun q => by rw [← hb] at q; omega)
        · rw [if_pos ⟨by omega, by omega, by rw [← hb]; omega⟩] at hQ
          exact hQ mk fk
      · rw [if_neg hpj] at hb
        omega
  have loop := ev_lup (P := fun u => ∀ (uu bb : Int32) (mk : ev_Mem) (o9 : Option Value), uu = Int32.ofNat u → bb = Int32.ofNat (ab_mc1 (zT z) p (fun y => zd z y (10 * v + j)) u) → (u = 0 ∨ (p < N ∧ j < J)) → (∀ c i, c ≠ 297 → mk c i = m c i) → ev_J w ev_m165 (ev_nd 165) Q 30 [ev_vr 277, ev_vn p, ev_vn v, ev_vn j, ev_vn N, ev_vn (k - p), ev_vn d, ev_vi bb, ev_vi uu, o9] [] mk t) 4 (by
    intro u hu ih uu bb mk o9 euu ebb hup fk
    subst euu ebb
    have eu := ev_ofNat_i (n := u) (by omega)
    have hle := ab_mc1_le (zT z) p (fun y => zd z y (10 * v + j)) u
    have bad : ¬ (p < N ∧ j < J) → ev_J w ev_m165 (ev_nd 165) Q 104 [ev_vr 277, ev_vn p, ev_vn v, ev_vn j, ev_vn N, ev_vn (k - p), ev_vn d, ev_vn (ab_mc1 (zT z) p (fun y => zd z y (10 * v + j)) u), ev_vn u, o9] [] mk t := by
      intro hn
      have hu0 : u = 0 := hup.resolve_right hn
      exact h104 mk _ _ _ _ fk rfl hle (by rw [if_neg hn, hu0]; rfl)
    refine ev_gK A hp [52, 104] 20 ?_
    refine And.intro (fun (h : (Int32.ofInt 4).toInt ≤ (Int32.ofNat u).toInt) => ?_) (fun (h : (Int32.ofNat u).toInt < (Int32.ofInt 4).toInt) => ?_)
    · have hu4 : u = 4 := by omega
      subst hu4
      have hpj := hup.resolve_left (by omega)
      refine h104 mk _ _ _ _ fk rfl hle ?_
      rw [if_pos hpj]
      have h5 := zg_mt hok (v := v) (p := p) (j := j) (by omega) (by omega)
      rw [hN, hJ] at h5
      exact h5
    refine And.intro (fun (h2 : (Int32.ofNat N).toInt ≤ (Int32.ofNat p).toInt) => bad (by omega)) (fun (h2 : (Int32.ofNat p).toInt < (Int32.ofNat N).toInt) => ?_)
    refine And.intro (ev_oin hv (by decide)) ?_
    refine And.intro (fun (h3 : (mk 279 (Int32.ofNat v).toNatClampNeg).toInt ≤ (Int32.ofNat j).toInt) => bad (by rw [mJ mk fk] at h3; omega)) (fun (h3 : (Int32.ofNat j).toInt < (mk 279 (Int32.ofNat v).toNatClampNeg).toInt) => ?_)
    rw [mJ mk fk] at h3
    have hpN : p < N := by omega
    have hjJ : j < J := by omega
    have hu4 : u < 4 := by omega
    have ekp : Int32.ofNat p + Int32.ofNat (k - p) = Int32.ofNat k := by rw [ev_addN (by omega)]; congr 1; omega
    have ex : (Int8.ofInt 10).toInt32 * Int32.ofNat v + Int32.ofNat j = Int32.ofNat (10 * v + j) := ev_lin (c := 10) (by omega) (by omega) (by omega)
    have ei : Int32.ofInt 4 * (Int32.ofNat p + Int32.ofNat (k - p)) + Int32.ofNat u = Int32.ofNat (4 * k + u) := by rw [ekp]; exact ev_lin (c := 4) (by omega) (by omega) (by omega)
    have mw : mk 293 (Int32.ofInt 4 * (Int32.ofNat p + Int32.ofNat (k - p)) + Int32.ofNat u).toNatClampNeg = ab_oi (ab_nat (zT z) p u) := by rw [ev_at ei (by omega), fk _ _ (by decide)]; exact hwd (by omega) u hu4
    refine ev_gK A hp [68] 20 ?_
    refine And.intro (ev_iin ei (by omega) (by decide)) ?_
    show ev_J w ev_m165 (ev_nd 165) Q 68 [ev_vr 277, ev_vn p, ev_vn v, ev_vn j, ev_vn N, ev_vn (k - p), ev_vn d, ev_vn (ab_mc1 (zT z) p (fun y => zd z y (10 * v + j)) u), ev_vn u, ev_vi (mk 293 (Int32.ofInt 4 * (Int32.ofNat p + Int32.ofNat (k - p)) + Int32.ofNat u).toNatClampNeg)] [] mk t
    rw [mw]
    cases hc : (zT z).2.1 p u with
    | none =>
      have hn : ab_nat (zT z) p u = none := by unfold ab_nat; rw [hc]; rfl
      rw [hn]
      refine ev_gK A hp [30, 78] 20 ?_
      refine And.intro (fun (h4 : 0 ≤ (-1 : Int32).toInt) => absurd h4 (by decide)) (fun _ => ?_)
      exact ih hu4 _ _ mk _ (ev_succ (by omega)) (by rw [ab_mc1, hc]) (Or.inr ⟨hpN, hjJ⟩) fk
    | some i =>
      have hn : ab_nat (zT z) p u = some (10 * u + i) := by unfold ab_nat; rw [hc]; rfl
      have hi := k9.1 p u i hc
      obtain ⟨y40, yt⟩ := ab_zthw hok hu4 hi
      obtain ⟨x40, xt⟩ := ab_zthw hok hv (k := j) (by omega)
      have en := ev_ofNat_i (n := 10 * u + i) (by omega)
      have hdl := zd_le (z := z) (10 * u + i) (10 * v + j)
      rw [hn]
      refine ev_gK A hp [78] 10 ?_
      refine And.intro (fun _ => ?_) (fun (h4 : (Int32.ofNat (10 * u + i)).toInt < 0) => by omega)
      show ev_J w ev_m165 (ev_nd 165) Q 78 [ev_vr 277, ev_vn p, ev_vn v, ev_vn j, ev_vn N, ev_vn (k - p), ev_vn d, ev_vn (ab_mc1 (zT z) p (fun y => zd z y (10 * v + j)) u), ev_vn u, ev_vn (10 * u + i)] [] mk t
      refine ev_gK A hp [] 9 ?_
      show ev_J w ev_m165 (ev_nd 165) Q 90 [ev_vr 277, ev_vn p, ev_vn v, ev_vn j, ev_vn N, ev_vn (k - p), ev_vn d, ev_vn (ab_mc1 (zT z) p (fun y => zd z y (10 * v + j)) u), ev_vn u, ev_vn (10 * u + i)] [.int ((Int8.ofInt 10).toInt32 * Int32.ofNat v + Int32.ofNat j), .int (Int32.ofNat (10 * u + i)), .ref 277, .int (Int32.ofNat (ab_mc1 (zT z) p (fun y => zd z y (10 * v + j)) u)), .ref 277] mk t
      rw [ex]
      refine ev_gK A hp [30] 20 ?_
      have cg4 : ab_ML mk (zW z) := fun x hx ht => ⟨by rw [fk _ _ (by decide)]; exact (c4 x hx ht).1, fun k hk => by rw [fk _ _ (by decide)]; exact (c4 x hx ht).2 k hk⟩
      have cg5 : ab_MF mk (zt z) (zf z) 40 := fun x hx ht => ⟨⟨by rw [fk _ _ (by decide)]; exact (c5 x hx ht).1.1, (c5 x hx ht).1.2⟩, fun k hk => by rw [fk _ _ (by decide)]; exact (c5 x hx ht).2 k hk⟩
      have cg6 : ab_MQ mk z := by
        obtain ⟨g, g1, g2, g3⟩ := c6
        exact ⟨g, fun x hx ht => by rw [fk _ _ (by decide)]; exact g1 x hx ht, g2, g3⟩
      refine ev_S156w A cg4 cg5 cg6 hok.2.2.1 y40 x40 yt xt (fun m1 f1 => ?_)
      refine ev_S158 A (by omega) (by omega) ?_
      refine ih hu4 _ _ m1 _ (ev_succ (by omega)) (by rw [ab_mc1, hc]) (Or.inr ⟨hpN, hjJ⟩) (fun c i hc => (f1 c i hc).trans (fk c i hc)))
  refine ⟨Or.inr ⟨277, _, rfl, rfl⟩, ev_m165, rfl, ev_gK A hp [9] 10 ?_⟩
  rw [hN]
  show ev_J w ev_m165 (ev_nd 165) Q 9 [ev_vr 277, ev_vn p, ev_vn v, ev_vn j, ev_vn N, ev_vi (m 277 22 - Int32.ofNat N), none, none, none, none] [] m t
  rw [eNM]
  refine ev_gK A hp [22] 10 ?_
  refine And.intro (ev_iin e11 (by omega) (by decide)) ?_
  show ev_J w ev_m165 (ev_nd 165) Q 22 [ev_vr 277, ev_vn p, ev_vn v, ev_vn j, ev_vn N, ev_vn (k - p), ev_vi (m 296 ((Int8.ofInt 11).toInt32 * Int32.ofNat p + Int32.ofNat j).toNatClampNeg), none, none, none] [] m t
  rw [ev_at e11 (by omega), hCpj]
  refine ev_gK A hp [30] 10 ?_
  exact loop 0 (by omega) _ _ m _ rfl rfl (Or.inl rfl) (fun _ _ _ => rfl)
/-- half joined -/
def ab_mid (m : ev_Mem) (T : ab_T) (v : Nat) (l : List Nat) (k : Nat) : Prop := m 277 22 = Int32.ofNat (k + (T.1 - ab_pn l k)) ∧ (∀ q, q < k → (∀ u, u < 4 → m 293 (4 * q + u) = ab_oi (ab_num u (ab_jc T v l q u))) ∧ m 294 q = ab_oi (ab_jch T l q)) ∧ (∀ q, ab_pn l k ≤ q → q < T.1 → (∀ u, u < 4 → m 293 (4 * (k + (q - ab_pn l k)) + u) = ab_oi (ab_nat T q u)) ∧ m 294 (k + (q - ab_pn l k)) = ab_oi (T.2.2.1 q))
theorem ab_pns (l : List Nat) (k : Nat) : ab_pn l (k + 1) = if l.getD k 0 = 2 then ab_pn l k else ab_pn l k + 1 := by
  unfold ab_pn
  rw [ab_cn]
  by_cases q : l.getD k 0 = 2
  · rw [if_pos q, if_neg (by rw [decide_eq_true_eq]; exact fun z => z q)]; rfl
  · rw [if_neg q, if_pos (decide_eq_true q)]
theorem ab_jns (l : List Nat) (k : Nat) : ab_jn l (k + 1) = if l.getD k 0 = 1 then ab_jn l k else ab_jn l k + 1 := by
  unfold ab_jn
  rw [ab_cn]
  by_cases q : l.getD k 0 = 1
  · rw [if_pos q, if_neg (by rw [decide_eq_true_eq]; exact fun z => z q)]; rfl
  · rw [if_neg q, if_pos (decide_eq_true q)]
theorem ab_pn_rest (l : List Nat) : ∀ (n k : Nat), ab_pn l (k + n) ≤ ab_pn l k + n
  | 0, _ => Nat.le_refl _
  | n + 1, k => by
    have h := ab_pn_rest l n k
    rw [← Nat.add_assoc, ab_pns]
    split <;> omega
theorem ab_pn_mono (l : List Nat) : ∀ (n k : Nat), ab_pn l k ≤ ab_pn l (k + n)
  | 0, _ => Nat.le_refl _
  | n + 1, k => by
    have h := ab_pn_mono l n k
    rw [← Nat.add_assoc, ab_pns]
    split <;> omega
theorem ab_jn_mono (l : List Nat) : ∀ (n k : Nat), ab_jn l k ≤ ab_jn l (k + n)
  | 0, _ => Nat.le_refl _
  | n + 1, k => by
    have h := ab_jn_mono l n k
    rw [← Nat.add_assoc, ab_jns]
    split <;> omega
/-- the path from any place of it on -/
theorem zp_drop (hok : ab_ok z) {v : Nat} (hv : v < 4) : ∀ k, k ≤ (zp z v).length → (zp z v).drop k = ab_path (zg z v) ((zT z).1 - ab_pn (zp z v) k) ((zW z v).length - ab_jn (zp z v) k) := by
  obtain ⟨f1, f2, f3, f4⟩ := zp_facts hok hv
  intro k
  induction k with
  | zero => intro _; rfl
  | succ k ih =>
    intro hk
    have h1 := ih (by omega)
    have hp1 := ab_pn_mono (zp z v) ((zp z v).length - (k + 1)) (k + 1)
    have hj1 := ab_jn_mono (zp z v) ((zp z v).length - (k + 1)) (k + 1)
    rw [(by omega : k + 1 + ((zp z v).length - (k + 1)) = (zp z v).length)] at hp1 hj1
    rw [f1] at hp1
    rw [f2] at hj1
    have hz : ¬ ((zT z).1 - ab_pn (zp z v) k = 0 ∧ (zW z v).length - ab_jn (zp z v) k = 0) := by
      rintro ⟨q1, q2⟩
      rw [q1, q2, ab_path_nil] at h1
      have := List.drop_eq_nil_iff.mp h1
      omega
    rw [ab_path_step (zg z v) hz] at h1
    obtain ⟨d1, d2, d3⟩ := ab_drop_cons (d := 0) h1
    rw [d2]
    rw [ab_pns, ab_jns] at *
    rw [d1] at *
    rcases ab_S_cs (zg z v) hz with ⟨q, q1, q2⟩ | ⟨q, q1⟩ | ⟨q, q1⟩
    · rw [q] at *
      simp only [(by decide : ¬ (0 : Nat) = 2), (by decide : ¬ (0 : Nat) = 1), if_false] at *
      rw [(by omega : (zT z).1 - ab_pn (zp z v) k - 1 = (zT z).1 - (ab_pn (zp z v) k + 1)), (by omega : (zW z v).length - ab_jn (zp z v) k - 1 = (zW z v).length - (ab_jn (zp z v) k + 1))]
    · rw [q] at *
      simp only [(by decide : ¬ (1 : Nat) = 2), if_false, if_true] at *
      rw [(by omega : (zT z).1 - ab_pn (zp z v) k - 1 = (zT z).1 - (ab_pn (zp z v) k + 1))]
    · rw [q] at *
      simp only [(by decide : ¬ (2 : Nat) = 1), if_false, if_true] at *
      rw [(by omega : (zW z v).length - ab_jn (zp z v) k - 1 = (zW z v).length - (ab_jn (zp z v) k + 1))]
end EvMjoin2
