/-! the model: what joining costs -/
section EvMcost
variable {w : ev_W} {Q : ev_QT} {m : ev_Mem} {t : ev_H} {z : ab_Z}
theorem zd_le (x y : Nat) : zd z x y ≤ 12 := by
  unfold zd
  split
  · omega
  · exact ab_apart_le _ _
def ab_mc1 (T : ab_T) (p : Nat) (g : Nat → Nat) : Nat → Nat
  | 0 => 1000
  | n + 1 => match T.2.1 p n with
    | none => ab_mc1 T p g n
    | some i => min (ab_mc1 T p g n) (g (10 * n + i))
theorem ab_mc1_le (T : ab_T) (p : Nat) (g : Nat → Nat) : ∀ n, ab_mc1 T p g n ≤ 1000
  | 0 => Nat.le_refl _
  | n + 1 => by
    have h := ab_mc1_le T p g n
    unfold ab_mc1
    split <;> omega
theorem ab_mc1_eq {T : ab_T} {p : Nat} {g : Nat → Nat} (hg : ∀ y, g y ≤ 12) : ∀ n, (∃ v i, v < n ∧ T.2.1 p v = some i) → ab_mc1 T p g n = ab_mcn T p g n := by
  have key : ∀ n, (ab_mc1 T p g n = ab_mcn T p g n) ∨ (ab_mc1 T p g n = 1000 ∧ ab_mcn T p g n = 12 ∧ ∀ v, v < n → T.2.1 p v = none) := by
    intro n
    induction n with
    | zero => exact Or.inr ⟨rfl, rfl, fun v hv => by omega⟩
    | succ n ih =>
      rw [ab_mc1, ab_mcn]
      cases hc : T.2.1 p n with
      | none =>
        simp only
        rcases ih with h | ⟨h1, h2, h3⟩
        · exact Or.inl h
        · refine Or.inr ⟨h1, h2, fun v hv => ?_⟩
          by_cases hvn : v = n
          · rw [hvn]; exact hc
          · exact h3 v (by omega)
      | some i =>
        simp only
        have hgi := hg (10 * n + i)
        rcases ih with h | ⟨h1, h2, h3⟩
        · exact Or.inl (by rw [h])
        · exact Or.inl (by rw [h1, h2]; omega)
  intro n ⟨v, i, hv, hi⟩
  rcases key n with h | ⟨h1, h2, h3⟩
  · exact h
  · rw [h3 v hv] at hi; cases hi
theorem zg_mt (hok : ab_ok z) {v p j : Nat} (hp : p < (zT z).1) (hj : j < (zW z v).length) : ab_mc1 (zT z) p (fun y => zd z y (10 * v + j)) 4 = zg z v ((zT z).1 - p - 1) ((zW z v).length - j - 1) := by
  have h1 := hok.2.2.2.2.1.2.2.2.2.2.2 p hp
  obtain ⟨u, i, hu, hi⟩ := h1
  rw [ab_mc1_eq (fun y => zd_le _ _) 4 ⟨u, i, hu, hi⟩]
  unfold zg ab_gm
  rw [(by omega : (zT z).1 - 1 - ((zT z).1 - p - 1) = p), (by omega : (zW z v).length - 1 - ((zW z v).length - j - 1) = j)]
  exact ab_mcn_cg (fun n i hn hc => zd_sym _ _) 4 (Nat.le_refl _)
theorem zg_le (v a b : Nat) : zg z v a b ≤ 12 := ab_mcn_le _ _ _ _
/-- match -/
def ab_mt (z : ab_Z) (v p j : Nat) : Nat := if p < (zT z).1 ∧ j < (zW z v).length then zg z v ((zT z).1 - p - 1) ((zW z v).length - j - 1) else 1000
theorem ev_S161 {v p j : Nat} (A : ev_all w) (hs : ab_RepM m z) (hok : ab_ok z) (hv : v < 4) (hp' : p < 100) (hj' : j < 100) (hQ : ∀ m', (∀ c i, c ≠ 297 → m' c i = m c i) → Q (.inl (some (.int (Int32.ofNat (ab_mt z v p j))))) m' t) : ev_K w 161 [.ref 277, .int (Int32.ofNat p), .int (Int32.ofNat v), .int (Int32.ofNat j)] m t Q := by
  have hp : ev_prog[161]? = some ev_m161 := rfl
  obtain ⟨c1, c2, c3, c4, c5, c6, c7, c8, -⟩ := id hs
  have k8 := hok.2.2.2.2.1.1
  have k9 := hok.2.2.2.2.1.2
  have kk1 := k8.1
  have hw10 := (hok.2.2.1 v hv).1
  have i4 := ev_i4
  have ep := ev_ofNat_i (n := p) (by omega)
  have ej := ev_ofNat_i (n := j) (by omega)
  have eN := ev_toI c8.1 (by omega)
  have eJ := ev_toI (c3 v hv) (by omega)
  have loop := ev_lup (P := fun k => ∀ (kk bb : Int32) (mk : ev_Mem), kk = Int32.ofNat k → bb = Int32.ofNat (ab_mc1 (zT z) p (fun y => zd z y (10 * v + j)) k) → (k = 0 ∨ (p < (zT z).1 ∧ j < (zW z v).length)) → (∀ c i, c ≠ 297 → mk c i = m c i) → ev_J w ev_m161 (ev_nd 161) Q 8 [ev_vr 277, ev_vn p, ev_vn v, ev_vn j, ev_vi bb, ev_vi kk] [] mk t) 4 (by
    intro k hk ih kk bb mk ekk ebb hkp fk
    subst ekk ebb
    have ek := ev_ofNat_i (n := k) (by omega)
    have hsk := ab_RM_0 hs (fun c i hc => fk c i (fun q => hc (by unfold ab_sM; omega)))
    have mN : (mk 277 22).toInt = ((zT z).1 : Int) := by rw [fk _ _ (by decide)]; exact eN
    have mJ : (mk 279 (Int32.ofNat v).toNatClampNeg).toInt = ((zW z v).length : Int) := by rw [ev_on (by omega), fk _ _ (by decide)]; exact eJ
    have bad : ¬ (p < (zT z).1 ∧ j < (zW z v).length) → Q (.inl (some (.int (Int32.ofNat (ab_mc1 (zT z) p (fun y => zd z y (10 * v + j)) k))))) mk t := by
      intro hn
      rcases hkp with h0 | h0
      · subst h0
        have e : ab_mt z v p j = 1000 := if_neg hn
        rw [e] at hQ
        exact hQ mk fk
      · exact absurd h0 hn
    refine ev_gK A hp [32, 86] 20 ?_
    refine And.intro (fun (h : (Int32.ofInt 4).toInt ≤ (Int32.ofNat k).toInt) => ?_) (fun (h : (Int32.ofNat k).toInt < (Int32.ofInt 4).toInt) => ?_)
    · have hk4 : k = 4 := by omega
      subst hk4
      have hpj : p < (zT z).1 ∧ j < (zW z v).length := hkp.resolve_left (by omega)
      have e : ab_mt z v p j = ab_mc1 (zT z) p (fun y => zd z y (10 * v + j)) 4 := by unfold ab_mt; rw [if_pos hpj, zg_mt hok hpj.1 hpj.2]
      rw [e] at hQ
      exact ev_gK A hp [] 10 (hQ mk fk)
    refine And.intro (fun (h2 : (mk 277 22).toInt ≤ (Int32.ofNat p).toInt) => ev_gK A hp [] 10 (bad (by omega))) (fun (h2 : (Int32.ofNat p).toInt < (mk 277 22).toInt) => ?_)
    refine And.intro (ev_oin hv (by decide)) ?_
    refine And.intro (fun (h3 : (mk 279 (Int32.ofNat v).toNatClampNeg).toInt ≤ (Int32.ofNat j).toInt) => ev_gK A hp [] 10 (bad (by omega))) (fun (h3 : (Int32.ofNat j).toInt < (mk 279 (Int32.ofNat v).toNatClampNeg).toInt) => ?_)
    have hpN : p < (zT z).1 := by omega
    have hjJ : j < (zW z v).length := by omega
    have hk4 : k < 4 := by omega
    have ei : Int32.ofInt 4 * Int32.ofNat p + Int32.ofNat k = Int32.ofNat (4 * p + k) := ev_lin (c := 4) (by omega) (by omega) (by omega)
    have ex : (Int8.ofInt 10).toInt32 * Int32.ofNat v + Int32.ofNat j = Int32.ofNat (10 * v + j) := ev_lin (c := 10) (by omega) (by omega) (by omega)
    have mw : mk 293 (Int32.ofInt 4 * Int32.ofNat p + Int32.ofNat k).toNatClampNeg = ab_oi (ab_nat (zT z) p k) := by rw [ev_at ei (by omega), fk _ _ (by decide)]; exact c8.2.1 p hpN k hk4
    have hle := ab_mc1_le (zT z) p (fun y => zd z y (10 * v + j)) k
    refine ev_gK A hp [51, 78] 20 ?_
    refine And.intro (ev_iin ei (by omega) (by decide)) ?_
    rw [mw]
    cases hc : (zT z).2.1 p k with
    | none =>
      have hn : ab_nat (zT z) p k = none := by unfold ab_nat; rw [hc]; rfl
      rw [hn]
      refine And.intro (fun (h4 : 0 ≤ (-1 : Int32).toInt) => absurd h4 (by decide)) (fun _ => ?_)
      refine ev_gK A hp [8] 10 ?_
      exact ih hk4 _ _ mk (ev_succ (by omega)) (by rw [ab_mc1, hc]) (Or.inr ⟨hpN, hjJ⟩) fk
    | some i =>
      have hn : ab_nat (zT z) p k = some (10 * k + i) := by unfold ab_nat; rw [hc]; rfl
      have hi := k9.1 p k i hc
      obtain ⟨y40, yt⟩ := ab_zthw hok hk4 hi
      obtain ⟨x40, xt⟩ := ab_zthw hok hv hjJ
      have en := ev_ofNat_i (n := 10 * k + i) (by omega)
      rw [hn]
      refine And.intro (fun _ => ?_) (fun (h4 : (Int32.ofNat (10 * k + i)).toInt < 0) => by omega)
      show ev_J w ev_m161 (ev_nd 161) Q 51 [ev_vr 277, ev_vn p, ev_vn v, ev_vn j, ev_vn (ab_mc1 (zT z) p (fun y => zd z y (10 * v + j)) k), ev_vn k] [] mk t
      refine ev_gK A hp [] 17 ?_
      refine And.intro (ev_iin ei (by omega) (by decide)) ?_
      show ev_K w 156 [.ref 277, .int (mk 293 (Int32.ofInt 4 * Int32.ofNat p + Int32.ofNat k).toNatClampNeg), .int ((Int8.ofInt 10).toInt32 * Int32.ofNat v + Int32.ofNat j)] mk t _
      rw [mw, hn, ex]
      refine ev_S156 A hsk hok y40 x40 yt xt (fun m1 f1 => ?_)
      have hdl := zd_le (z := z) (10 * k + i) (10 * v + j)
      refine ev_gK A hp [8] 10 ?_
      refine ev_S158 A (by omega) (by omega) ?_
      refine ih hk4 _ _ m1 (ev_succ (by omega)) (by rw [ab_mc1, hc]) (Or.inr ⟨hpN, hjJ⟩) (fun c i hc => (f1 c i hc).trans (fk c i hc)))
  refine ⟨Or.inr ⟨277, _, rfl, rfl⟩, ev_m161, rfl, ev_gK A hp [8] 10 ?_⟩
  exact loop 0 (by omega) _ _ m rfl rfl (Or.inl rfl) (fun _ _ _ => rfl)
/-- cost -/
theorem ev_S162 {v p j : Nat} (A : ev_all w) (hs : ab_RepM m z) (hok : ab_ok z) (hv : v < 4) (hp' : p < 100) (hj' : j < 100) (hQ : Q (.inl (some (.int (if p ≤ (zT z).1 ∧ j ≤ (zW z v).length then m 296 (11 * p + j) else Int32.ofNat 1000)))) m t) : ev_K w 162 [.ref 277, .int (Int32.ofNat p), .int (Int32.ofNat v), .int (Int32.ofNat j)] m t Q := by
  have hp : ev_prog[162]? = some ev_m162 := rfl
  obtain ⟨c1, c2, c3, c4, c5, c6, c7, c8, -⟩ := id hs
  have kk1 := hok.2.2.2.2.1.1.1
  have hw10 := (hok.2.2.1 v hv).1
  have ep := ev_ofNat_i (n := p) (by omega)
  have ej := ev_ofNat_i (n := j) (by omega)
  have eN := ev_toI c8.1 (by omega)
  have mJ : (m 279 (Int32.ofNat v).toNatClampNeg).toInt = ((zW z v).length : Int) := by rw [ev_on (by omega)]; exact ev_toI (c3 v hv) (by omega)
  have ei : (Int8.ofInt 11).toInt32 * Int32.ofNat p + Int32.ofNat j = Int32.ofNat (11 * p + j) := ev_lin (c := 11) (by omega) (by omega) (by omega)
  refine ⟨Or.inr ⟨277, _, rfl, rfl⟩, ev_m162, rfl, ev_gK A hp [] 20 ?_⟩
  refine And.intro (fun (h : (m 277 22).toInt < (Int32.ofNat p).toInt) => ?_) (fun (h : (Int32.ofNat p).toInt ≤ (m 277 22).toInt) => ?_)
  · rw [if_neg (by omega)] at hQ
    exact hQ
  refine And.intro (ev_oin hv (by decide)) ?_
  refine And.intro (fun (h2 : (Int32.ofNat j).toInt ≤ (m 279 (Int32.ofNat v).toNatClampNeg).toInt) => ?_) (fun (h2 : (m 279 (Int32.ofNat v).toNatClampNeg).toInt < (Int32.ofNat j).toInt) => ?_)
  · rw [if_pos (by omega)] at hQ
    refine And.intro (ev_iin ei (by omega) (by decide)) ?_
    show Q (.inl (some (.int (m 296 ((Int8.ofInt 11).toInt32 * Int32.ofNat p + Int32.ofNat j).toNatClampNeg)))) m t
    rw [ev_at ei (by omega)]
    exact hQ
  · rw [if_neg (by omega)] at hQ
    exact hQ
/-- what cost gives, once all behind is worked out -/
def ab_cs (z : ab_Z) (v p j : Nat) : Nat := if p ≤ (zT z).1 ∧ j ≤ (zW z v).length then ab_C (zg z v) ((zT z).1 - p) ((zW z v).length - j) else 1000
theorem ab_cs_le (hok : ab_ok z) {v p j : Nat} (hv : v < 4) : ab_cs z v p j ≤ 1000 := by
  have kk1 := hok.2.2.2.2.1.1.1
  have hw10 := (hok.2.2.1 v hv).1
  unfold ab_cs
  split
  · have := ab_C_le (zg z v) ((zT z).1 - p) ((zW z v).length - j)
    omega
  · omega
theorem ab_mt_le (v p j : Nat) : ab_mt z v p j ≤ 1000 := by
  unfold ab_mt
  split
  · have := zg_le (z := z) v ((zT z).1 - p - 1) ((zW z v).length - j - 1); omega
  · omega
/-- the cost, by what is behind -/
theorem ab_cs_step (hok : ab_ok z) {v p j : Nat} (hv : v < 4) (hp : p ≤ (zT z).1) (hj : j ≤ (zW z v).length) (hne : ¬ (p = (zT z).1 ∧ j = (zW z v).length)) : min (ab_mt z v p j + ab_cs z v (p + 1) (j + 1)) (8 + min (ab_cs z v (p + 1) j) (ab_cs z v p (j + 1))) = ab_C (zg z v) ((zT z).1 - p) ((zW z v).length - j) := by
  have kk1 := hok.2.2.2.2.1.1.1
  have hw10 := (hok.2.2.1 v hv).1
  have c0 := ab_C_le (zg z v) ((zT z).1 - p) ((zW z v).length - j)
  unfold ab_cs ab_mt
  by_cases hpN : p < (zT z).1
  · obtain ⟨a, ha⟩ : ∃ a, (zT z).1 - p = a + 1 := ⟨(zT z).1 - p - 1, by omega⟩
    rw [(by omega : (zT z).1 - (p + 1) = a)]
    by_cases hjJ : j < (zW z v).length
    · obtain ⟨b, hb⟩ : ∃ b, (zW z v).length - j = b + 1 := ⟨(zW z v).length - j - 1, by omega⟩
      rw [(by omega : (zW z v).length - (j + 1) = b), if_pos ⟨hpN, hjJ⟩, if_pos (by omega), if_pos (by omega), if_pos (by omega), ha, hb, ab_Css]
      rw [(by omega : a + 1 - 1 = a), (by omega : b + 1 - 1 = b)]
      omega
    · rw [if_neg (by omega), if_neg (by omega), if_pos (by omega), if_neg (by omega), (by omega : (zW z v).length - j = 0), ha, ab_Cs0]
      have c1 := ab_C_le (zg z v) a 0
      omega
  · have hjJ : j < (zW z v).length := by omega
    obtain ⟨b, hb⟩ : ∃ b, (zW z v).length - j = b + 1 := ⟨(zW z v).length - j - 1, by omega⟩
    rw [(by omega : (zW z v).length - (j + 1) = b), if_neg (by omega), if_neg (by omega), if_neg (by omega), if_pos (by omega), (by omega : (zT z).1 - p = 0), hb, ab_C0s]
    have c1 := ab_C_le (zg z v) 0 b
    omega
/-- workOut -/
theorem ev_S160 {v : Nat} (A : ev_all w) (hs : ab_RepM m z) (hok : ab_ok z) (hv : v < 4) (hQ : ∀ m', (∀ c i, c ≠ 296 → c ≠ 297 → m' c i = m c i) → (∀ p j, p ≤ (zT z).1 → j ≤ (zW z v).length → m' 296 (11 * p + j) = Int32.ofNat (ab_C (zg z v) ((zT z).1 - p) ((zW z v).length - j))) → Q (.inl none) m' t) : ev_K w 160 [.ref 277, .int (Int32.ofNat v)] m t Q := by
  have hp : ev_prog[160]? = some ev_m160 := rfl
  obtain ⟨c1, c2, c3, c4, c5, c6, c7, c8, -⟩ := id hs
  have kk1 := hok.2.2.2.2.1.1.1
  have hw10 := (hok.2.2.1 v hv).1
  obtain ⟨N, hN⟩ : ∃ N, (zT z).1 = N := ⟨_, rfl⟩
  obtain ⟨J, hJ⟩ : ∃ J, (zW z v).length = J := ⟨_, rfl⟩
  rw [hN] at kk1
  rw [hJ] at hw10
  have eN := ev_ofNat_i (n := N) (by omega)
  have eJ := ev_ofNat_i (n := J) (by omega)
  have frame : ∀ mk : ev_Mem, (∀ c i, c ≠ 296 → c ≠ 297 → mk c i = m c i) → ab_RepM mk z ∧ mk 277 22 = Int32.ofNat N ∧ mk 279 (Int32.ofNat v).toNatClampNeg = Int32.ofNat J := fun mk fk => ⟨ab_RM_0 hs (fun c i hc => fk c i (fun q => hc (by unfold ab_sM; omega)) (fun q => hc (by unfold ab_sM; omega))), by rw [fk _ _ (by decide) (by decide), ← hN]; exact c8.1, by rw [ev_on (by omega), fk _ _ (by decide) (by decide), ← hJ]; exact c3 v hv⟩
  let dn : ev_Mem → Nat → Nat → Prop := fun mk p l => ∀ p' j', p' ≤ N → j' ≤ J → (p < p' ∨ (p' = p ∧ l ≤ j')) → mk 296 (11 * p' + j') = Int32.ofNat (ab_C (zg z v) (N - p') (J - j'))
  have inner : ∀ p, p ≤ N → (∀ (mk : ev_Mem) (pp : Int32) (o3 o4 : Option Value), pp = Int32.ofInt ((p : Int) - 1) → (∀ c i, c ≠ 296 → c ≠ 297 → mk c i = m c i) → dn mk p 0 → ev_J w ev_m160 (ev_nd 160) Q 5 [ev_vr 277, ev_vn v, ev_vi pp, o3, o4] [] mk t) →
      ∀ (l : Nat) (mk : ev_Mem) (o4 : Option Value), l ≤ J + 1 → (∀ c i, c ≠ 296 → c ≠ 297 → mk c i = m c i) → dn mk p l → ev_J w ev_m160 (ev_nd 160) Q 16 [ev_vr 277, ev_vn v, ev_vn p, ev_vi (Int32.ofInt ((l : Int) - 1)), o4] [] mk t := by
    intro p hpN kont l
    have ep := ev_ofNat_i (n := p) (by omega)
    induction l with
    | zero =>
      intro mk o4 _ fk hd
      refine ev_gK A hp [5, 20] 10 ?_
      refine And.intro (fun _ => kont mk _ _ _ (ev_dec1 (by omega)) fk hd) (fun (h : 0 ≤ (Int32.ofInt (((0 : Nat) : Int) - 1)).toInt) => ?_)
      rw [ev_ofInt_i (by omega) (by omega)] at h
      omega
    | succ l ih =>
      intro mk o4 hl fk hd
      rw [ev_inc1 (by omega)]
      have el := ev_ofNat_i (n := l) (by omega)
      obtain ⟨hsk, m22, m79⟩ := frame mk fk
      -- what cost gives here
      have costv : ∀ (m2 : ev_Mem) p' j', (∀ c i, c ≠ 297 → m2 c i = mk c i) → p' ≤ p + 1 → j' ≤ l + 1 → (p < p' ∨ (p' = p ∧ l + 1 ≤ j')) → (if p' ≤ (zT z).1 ∧ j' ≤ (zW z v).length then m2 296 (11 * p' + j') else Int32.ofNat 1000) = Int32.ofNat (ab_cs z v p' j') := by
        intro m2 p' j' f2 h1 h2 h3
        unfold ab_cs
        rw [hN, hJ]
        by_cases hc : p' ≤ N ∧ j' ≤ J
        · rw [if_pos hc, if_pos hc, f2 _ _ (by decide)]
          exact hd p' j' hc.1 hc.2 h3
        · rw [if_neg hc, if_neg hc]
      refine ev_gK A hp [20] 10 ?_
      refine And.intro (fun (h : (Int32.ofNat l).toInt < 0) => by omega) (fun _ => ?_)
      show ev_J w ev_m160 (ev_nd 160) Q 20 [ev_vr 277, ev_vn v, ev_vn p, ev_vn l, o4] [] mk t
      refine ev_gK A hp [] 6 ?_
      refine ev_S161 A hsk hok hv (by omega) (by omega) (fun m1 f1 => ?_)
      have hs1 := ab_RM_0 hsk (m' := m1) (fun c i hc => f1 c i (fun q => hc (by unfold ab_sM; omega)))
      have b1 := ab_mt_le (z := z) v p l
      have b2 := ab_cs_le hok (p := p + 1) (j := l + 1) hv
      have b3 := ab_cs_le hok (p := p + 1) (j := l) hv
      have b4 := ab_cs_le hok (p := p) (j := l + 1) hv
      show ev_J w ev_m160 (ev_nd 160) Q 28 [ev_vr 277, ev_vn v, ev_vn p, ev_vn l, o4] [.int (Int32.ofNat (ab_mt z v p l)), .ref 277] m1 t
      refine ev_gK A hp [] 9 ?_
      show ev_K w 162 [.ref 277, .int (Int32.ofNat p + 1), .int (Int32.ofNat v), .int (Int32.ofNat l + 1)] m1 t _
      rw [ev_succ (by omega), ev_succ (by omega)]
      refine ev_S162 A hs1 hok hv (by omega) (by omega) ?_
      rw [costv m1 (p + 1) (l + 1) f1 (by omega) (by omega) (by omega)]
      show ev_J w ev_m160 (ev_nd 160) Q 39 [ev_vr 277, ev_vn v, ev_vn p, ev_vn l, o4] [.int (Int32.ofNat (ab_cs z v (p + 1) (l + 1))), .int (Int32.ofNat (ab_mt z v p l)), .ref 277] m1 t
      refine ev_gK A hp [] 1 ?_
      show ev_J w ev_m160 (ev_nd 160) Q 40 [ev_vr 277, ev_vn v, ev_vn p, ev_vn l, o4] [.int (Int32.ofNat (ab_mt z v p l) + Int32.ofNat (ab_cs z v (p + 1) (l + 1))), .ref 277] m1 t
      rw [ev_addN (by omega)]
      refine ev_gK A hp [] 9 ?_
      show ev_K w 162 [.ref 277, .int (Int32.ofNat p + 1), .int (Int32.ofNat v), .int (Int32.ofNat l)] m1 t _
      rw [ev_succ (by omega)]
      refine ev_S162 A hs1 hok hv (by omega) (by omega) ?_
      rw [costv m1 (p + 1) l f1 (by omega) (by omega) (by omega)]
      show ev_J w ev_m160 (ev_nd 160) Q 52 [ev_vr 277, ev_vn v, ev_vn p, ev_vn l, o4] [.int (Int32.ofNat (ab_cs z v (p + 1) l)), .ref 277, .int (Int32.ofNat 8), .int (Int32.ofNat (ab_mt z v p l + ab_cs z v (p + 1) (l + 1))), .ref 277] m1 t
      refine ev_gK A hp [] 7 ?_
      show ev_K w 162 [.ref 277, .int (Int32.ofNat p), .int (Int32.ofNat v), .int (Int32.ofNat l + 1)] m1 t _
      rw [ev_succ (by omega)]
      refine ev_S162 A hs1 hok hv (by omega) (by omega) ?_
      rw [costv m1 p (l + 1) f1 (by omega) (by omega) (by omega)]
      show ev_J w ev_m160 (ev_nd 160) Q 61 [ev_vr 277, ev_vn v, ev_vn p, ev_vn l, o4] [.int (Int32.ofNat (ab_cs z v p (l + 1))), .int (Int32.ofNat (ab_cs z v (p + 1) l)), .ref 277, .int (Int32.ofNat 8), .int (Int32.ofNat (ab_mt z v p l + ab_cs z v (p + 1) (l + 1))), .ref 277] m1 t
      refine ev_gK A hp [] 1 ?_
      refine ev_S158 A (by omega) (by omega) ?_
      show ev_J w ev_m160 (ev_nd 160) Q 64 [ev_vr 277, ev_vn v, ev_vn p, ev_vn l, o4] [.int (Int32.ofNat (min (ab_cs z v (p + 1) l) (ab_cs z v p (l + 1)))), .int (Int32.ofNat 8), .int (Int32.ofNat (ab_mt z v p l + ab_cs z v (p + 1) (l + 1))), .ref 277] m1 t
      refine ev_gK A hp [] 1 ?_
      show ev_J w ev_m160 (ev_nd 160) Q 65 [ev_vr 277, ev_vn v, ev_vn p, ev_vn l, o4] [.int (Int32.ofNat 8 + Int32.ofNat (min (ab_cs z v (p + 1) l) (ab_cs z v p (l + 1)))), .int (Int32.ofNat (ab_mt z v p l + ab_cs z v (p + 1) (l + 1))), .ref 277] m1 t
      rw [ev_addN (by omega)]
      refine ev_gK A hp [70] 10 ?_
      refine ev_S158 A (by omega) (by omega) ?_
      generalize hbest : min (ab_mt z v p l + ab_cs z v (p + 1) (l + 1)) (8 + min (ab_cs z v (p + 1) l) (ab_cs z v p (l + 1))) = best
      show ev_J w ev_m160 (ev_nd 160) Q 70 [ev_vr 277, ev_vn v, ev_vn p, ev_vn l, ev_vn best] [] m1 t
      have f1m : ∀ c i, c ≠ 296 → c ≠ 297 → m1 c i = m c i := fun c i z1 z2 => (f1 c i z2).trans (fk c i z1 z2)
      obtain ⟨-, m22', m79'⟩ := frame m1 f1m
      have ei : (Int8.ofInt 11).toInt32 * Int32.ofNat p + Int32.ofNat l = Int32.ofNat (11 * p + l) := ev_lin (c := 11) (by omega) (by omega) (by omega)
      have h104 : ∀ x : Nat, x = ab_C (zg z v) (N - p) (J - l) → ev_J w ev_m160 (ev_nd 160) Q 104 [ev_vr 277, ev_vn v, ev_vn p, ev_vn l, ev_vn best] [.int (Int32.ofNat x), .int ((Int8.ofInt 11).toInt32 * Int32.ofNat p + Int32.ofNat l), .ref 296] m1 t := by
        intro x hx
        refine ev_gK A hp [16] 10 ?_
        refine And.intro (ev_iin ei (by omega) (by decide)) ?_
        show ev_J w ev_m160 (ev_nd 160) Q 16 [ev_vr 277, ev_vn v, ev_vn p, ev_vi (Int32.ofNat l + Int32.ofInt (-1)), ev_vn best] [] (ev_up m1 296 ((Int8.ofInt 11).toInt32 * Int32.ofNat p + Int32.ofNat l).toNatClampNeg (Int32.ofNat x)) t
        rw [ev_dec1 (by omega), ev_at ei (by omega)]
        refine ih _ _ (by omega) (fun c i z1 z2 => by rw [ev_up_cell _ z1]; exact f1m c i z1 z2) (fun p' j' z1 z2 z3 => ?_)
        by_cases hsame : p' = p ∧ j' = l
        · rw [hsame.1, hsame.2, ev_up_same, hx]
        · rw [ev_up_idx _ _ (by omega), f1 _ _ (by decide)]
          exact hd p' j' z1 z2 (by omega)
      refine ev_gK A hp [104] 20 ?_
      have hstep : ¬ (p = N ∧ l = J) → best = ab_C (zg z v) (N - p) (J - l) := by
        intro hne
        have h5 := ab_cs_step hok (p := p) (j := l) hv (by omega) (by omega) (by rw [hN, hJ]; exact hne)
        rw [hN, hJ] at h5
        rw [← hbest]; exact h5
      refine And.intro (fun (h : ¬ (Int32.ofNat p).toInt = (m1 277 22).toInt) => ?_) (fun (h : (Int32.ofNat p).toInt = (m1 277 22).toInt) => ?_)
      · rw [m22'] at h
        exact h104 best (hstep (by omega))
      · rw [m22'] at h
        refine And.intro (ev_oin hv (by decide)) ?_
        refine And.intro (fun (h2 : ¬ (Int32.ofNat l).toInt = (m1 279 (Int32.ofNat v).toNatClampNeg).toInt) => ?_) (fun (h2 : (Int32.ofNat l).toInt = (m1 279 (Int32.ofNat v).toNatClampNeg).toInt) => ?_)
        · rw [m79'] at h2
          exact h104 best (hstep (by omega))
        · rw [m79'] at h2
          exact h104 0 (by rw [(by omega : N - p = 0), (by omega : J - l = 0)]; rfl)
  have outer : ∀ (k : Nat) (mk : ev_Mem) (pp : Int32) (o3 o4 : Option Value), k ≤ N + 1 → pp = Int32.ofInt ((k : Int) - 1) → (∀ c i, c ≠ 296 → c ≠ 297 → mk c i = m c i) → (∀ p' j', p' ≤ N → j' ≤ J → k ≤ p' → mk 296 (11 * p' + j') = Int32.ofNat (ab_C (zg z v) (N - p') (J - j'))) → ev_J w ev_m160 (ev_nd 160) Q 5 [ev_vr 277, ev_vn v, ev_vi pp, o3, o4] [] mk t := by
    intro k
    induction k with
    | zero =>
      intro mk pp o3 o4 hk epp fk hd
      subst epp
      refine ev_gK A hp [] 10 ?_
      refine And.intro (fun _ => hQ mk fk (fun p j z1 z2 => by rw [hN] at z1 ⊢; rw [hJ] at z2 ⊢; exact hd p j z1 z2 (by omega))) (fun (h : 0 ≤ (Int32.ofInt (((0 : Nat) : Int) - 1)).toInt) => ?_)
      rw [ev_ofInt_i (by omega) (by omega)] at h
      omega
    | succ k ih =>
      intro mk pp o3 o4 hk epp fk hd
      subst epp
      rw [ev_inc1 (by omega)]
      have ek := ev_ofNat_i (n := k) (by omega)
      obtain ⟨hsk, m22, m79⟩ := frame mk fk
      refine ev_gK A hp [16] 10 ?_
      refine And.intro (fun (h : (Int32.ofNat k).toInt < 0) => by omega) (fun _ => ?_)
      refine And.intro (ev_oin hv (by decide)) ?_
      show ev_J w ev_m160 (ev_nd 160) Q 16 [ev_vr 277, ev_vn v, ev_vn k, ev_vi (mk 279 (Int32.ofNat v).toNatClampNeg), o4] [] mk t
      have e5 : mk 279 (Int32.ofNat v).toNatClampNeg = Int32.ofInt (((J + 1 : Nat) : Int) - 1) := by rw [m79, ev_inc1 (by omega)]
      rw [e5]
      exact inner k (by omega) (fun mk' pp o3 o4 epp fk' hd' => ih mk' pp o3 o4 (by omega) epp fk' (fun p' j' z1 z2 z3 => hd' p' j' z1 z2 (by omega))) (J + 1) mk _ (Nat.le_refl _) fk (fun p' j' z1 z2 z3 => hd p' j' z1 z2 (by omega))
  refine ⟨Or.inr ⟨277, _, rfl, rfl⟩, ev_m160, rfl, ev_gK A hp [5] 10 ?_⟩
  refine outer (N + 1) m _ _ _ (Nat.le_refl _) ?_ (fun _ _ _ _ => rfl) (fun p' j' z1 z2 z3 => by omega)
  rw [ev_inc1 (by omega), ← hN]
  exact c8.1
end EvMcost
