/-! the model's calls: letters, words, rules, equalities -/
section EvMcalls
variable {w : ev_W} {Q : ev_QT} {m : ev_Mem} {t : ev_H} {z : ab_Z}
theorem ab_up0 (m : ev_Mem) (x : Int32) {c i : Nat} (h : ¬ (c = 277 ∧ i = 0)) : ev_up m 277 0 x c i = m c i := if_neg h
/-- type -/
theorem ev_S137 {c : Int32} (A : ev_all w) (hs : ab_RepM m z) (hok : ab_ok z) (hQ : ab_PM m t true (ab_type z c) Q) : ev_K w 137 [.ref 277, .int c] m t Q := by
  have hp : ev_prog[137]? = some ev_m137 := rfl
  have i97 : ((Int8.ofInt 97).toInt32).toInt = 97 := by decide
  have i122 : ((Int8.ofInt 122).toInt32).toInt = 122 := by decide
  have i8 : ((Int8.ofInt 8).toInt32).toInt = 8 := by decide
  have hD := hs.1
  have hD8 := hok.1.1
  have e2 := ev_toI hD.1 (by omega)
  have thr : ∀ k : Nat, 0 < k → k < 10 → ab_type z c = (k, 0, z) → ev_J w ev_m137 (ev_nd 137) Q 31 [ev_vr 277, ev_vi c] [.int (Int32.ofNat k), .ref 277] m t := by
    intro k hk hk2 e
    rw [e] at hQ
    have ek := ev_ofNat_i (n := k) (by omega)
    refine ev_gK A hp [43] 10 ?_
    refine And.intro (fun (h : (ev_up m 277 0 (Int32.ofNat k) 277 0).toInt ≤ 0) => by rw [ev_up_same] at h; omega) (fun _ => ?_)
    exact hQ _ 0 (ab_RM_th hs _) (fun c i hc => ab_up0 _ _ (by omega)) (ev_up_same _ _ _ _) (fun q => absurd q (by show ¬ k = 0; omega))
  refine ⟨Or.inr ⟨277, _, rfl, rfl⟩, ev_m137, rfl, ev_gK A hp [17, 31] 10 ?_⟩
  refine And.intro (fun (h : c.toInt < ((Int8.ofInt 97).toInt32).toInt) => thr 1 (by omega) (by omega) (if_pos (by omega))) (fun (h : ((Int8.ofInt 97).toInt32).toInt ≤ c.toInt) => ?_)
  refine And.intro (fun (h2 : c.toInt ≤ ((Int8.ofInt 122).toInt32).toInt) => ?_) (fun (h2 : ((Int8.ofInt 122).toInt32).toInt < c.toInt) => thr 1 (by omega) (by omega) (if_pos (by omega)))
  have hn : ¬ (c.toInt < 97 ∨ 122 < c.toInt) := by omega
  show ev_J w ev_m137 (ev_nd 137) Q 17 [ev_vr 277, ev_vi c] [.ref 277] m t
  refine ev_gK A hp [31] 10 ?_
  refine And.intro (fun (h3 : ¬ (m 277 2).toInt = ((Int8.ofInt 8).toInt32).toInt) => ?_) (fun (h3 : (m 277 2).toInt = ((Int8.ofInt 8).toInt32).toInt) => thr 2 (by omega) (by omega) (by unfold ab_type; rw [if_neg hn, if_pos (by omega)]))
  have e : ab_type z c = (0, Int32.ofNat ((zD z).length + 1), (zD z ++ [c], z.2)) := by unfold ab_type; rw [if_neg hn, if_neg (by omega)]
  rw [e] at hQ
  show ev_J w ev_m137 (ev_nd 137) Q 31 [ev_vr 277, ev_vi c] [.int (Int32.ofNat 0), .ref 277] m t
  refine ev_gK A hp [43] 10 ?_
  refine And.intro (fun _ => ?_) (fun (h : 0 < (ev_up m 277 0 (Int32.ofNat 0) 277 0).toInt) => by rw [ev_up_same] at h; exact absurd h (by decide))
  have g2 : ev_up m 277 0 (Int32.ofNat 0) 277 2 = Int32.ofNat (zD z).length := by rw [ab_up0 _ _ (by omega)]; exact hD.1
  refine ev_gK A hp [53] 10 ?_
  refine And.intro (ev_iin g2 (by omega) (by decide)) ?_
  show ev_J w ev_m137 (ev_nd 137) Q 53 [ev_vr 277, ev_vi c] [] (ev_up (ev_up m 277 0 (Int32.ofNat 0)) 278 (ev_up m 277 0 (Int32.ofNat 0) 277 2).toNatClampNeg c) t
  rw [ev_at g2 (by omega)]
  refine ev_gK A hp [] 20 ?_
  show Q (.inl (some (.int (ev_up (ev_up (ev_up m 277 0 (Int32.ofNat 0)) 278 (zD z).length c) 277 2 (ev_up (ev_up m 277 0 (Int32.ofNat 0)) 278 (zD z).length c 277 2 + 1) 277 2)))) (ev_up (ev_up (ev_up m 277 0 (Int32.ofNat 0)) 278 (zD z).length c) 277 2 (ev_up (ev_up m 277 0 (Int32.ofNat 0)) 278 (zD z).length c 277 2 + 1)) t
  rw [ev_up_same, ev_up_cell _ (by decide), g2, ev_succ (by omega)]
  refine hQ _ _ (ab_RM_D hs (fun a i q1 q2 => ?_) ⟨?_, fun k hk => ?_⟩) (fun a i ha => ?_) ?_ (fun _ => rfl)
  · rw [show ev_up (ev_up (ev_up m 277 0 (Int32.ofNat 0)) 278 (zD z).length c) 277 2 (Int32.ofNat ((zD z).length + 1)) a i = ev_up (ev_up m 277 0 (Int32.ofNat 0)) 278 (zD z).length c a i from if_neg (by omega), ev_up_cell _ (by omega)]
    exact ab_up0 _ _ (fun q => q1 (by unfold ab_sM; omega))
  · rw [ev_up_same, List.length_append, List.length_singleton]
  · rw [List.length_append, List.length_singleton] at hk
    rw [ev_up_cell _ (by decide)]
    by_cases hkl : k = (zD z).length
    · rw [hkl, ev_up_same, List.getD_eq_getElem?_getD, List.getElem?_append_right (Nat.le_refl _), Nat.sub_self]; rfl
    · rw [ev_up_idx _ _ hkl, ab_up0 _ _ (by omega), ab_getD_app1 (by omega)]
      exact hD.2 k (by omega)
  · rw [ev_up_cell _ (by omega), ev_up_cell _ (by omega)]
    exact ab_up0 _ _ (by omega)
  · rw [ev_up_idx _ _ (by decide), ev_up_cell _ (by decide), ev_up_same]
/-- cut -/
theorem ev_S138 {n : Int32} (A : ev_all w) (hs : ab_RepM m z) (hok : ab_ok z) (hQ : ab_PM m t false (ab_cut z n) Q) : ev_K w 138 [.ref 277, .int n] m t Q := by
  have hp : ev_prog[138]? = some ev_m138 := rfl
  have hD := hs.1
  have hD8 := hok.1.1
  have e2 := ev_toI hD.1 (by omega)
  have no : n.toInt < 0 ∨ ((zD z).length : Int) < n.toInt → ev_J w ev_m138 (ev_nd 138) Q 18 [ev_vr 277, ev_vi n] [.int (Int32.ofNat 1), .ref 277] m t := by
    intro h
    have e : ab_cut z n = (1, 0, z) := if_pos h
    rw [e] at hQ
    refine ev_gK A hp [] 20 ?_
    refine And.intro (fun (h : (ev_up m 277 0 (Int32.ofNat 1) 277 0).toInt ≤ 0) => by rw [ev_up_same] at h; exact absurd h (by decide)) (fun _ => ?_)
    refine hQ _ 0 (ab_RM_0 hs (fun c i hc => ?_)) (fun c i hc => by rw [ev_up_cell _ (by omega)]; exact ab_up0 _ _ (by omega)) (by rw [ev_up_idx _ _ (by decide), ev_up_same]) (fun q => absurd q (Nat.succ_ne_zero _))
    by_cases hci : c = 277 ∧ i = 2
    · rw [hci.1, hci.2, ev_up_same]
      exact ab_up0 _ _ (by omega)
    · rw [show ev_up (ev_up m 277 0 (Int32.ofNat 1)) 277 2 (ev_up m 277 0 (Int32.ofNat 1) 277 2) c i = ev_up m 277 0 (Int32.ofNat 1) c i from if_neg hci]
      exact ab_up0 _ _ (fun q => hc (by unfold ab_sM; omega))
  refine ⟨Or.inr ⟨277, _, rfl, rfl⟩, ev_m138, rfl, ev_gK A hp [18] 10 ?_⟩
  refine And.intro (fun (h : n.toInt < 0) => no (by omega)) (fun (h : 0 ≤ n.toInt) => ?_)
  refine And.intro (fun (h2 : n.toInt ≤ (m 277 2).toInt) => ?_) (fun (h2 : (m 277 2).toInt < n.toInt) => no (by omega))
  have e : ab_cut z n = (0, 0, ((zD z).take n.toInt.toNat, z.2)) := if_neg (by omega)
  rw [e] at hQ
  show ev_J w ev_m138 (ev_nd 138) Q 18 [ev_vr 277, ev_vi n] [.int (Int32.ofNat 0), .ref 277] m t
  refine ev_gK A hp [] 20 ?_
  refine And.intro (fun _ => ?_) (fun (h : 0 < (ev_up m 277 0 (Int32.ofNat 0) 277 0).toInt) => by rw [ev_up_same] at h; exact absurd h (by decide))
  refine hQ _ 0 (ab_RM_D hs (fun c i q1 q2 => ?_) ⟨?_, fun k hk => ?_⟩) (fun c i hc => by rw [ev_up_cell _ (by omega)]; exact ab_up0 _ _ (by omega)) (by rw [ev_up_idx _ _ (by decide), ev_up_same]) (fun _ => rfl)
  · rw [show ev_up (ev_up m 277 0 (Int32.ofNat 0)) 277 2 n c i = ev_up m 277 0 (Int32.ofNat 0) c i from if_neg (by omega)]
    exact ab_up0 _ _ (fun q => q1 (by unfold ab_sM; omega))
  · rw [ev_up_same, List.length_take, Nat.min_eq_left (by omega)]
    exact (ev_ofNat_toNat h).symm
  · rw [List.length_take] at hk
    rw [ev_up_cell _ (by decide), ab_up0 _ _ (by omega), ab_getD_take (by omega)]
    exact hD.2 k (by omega)
/-- the model's numbers, once words, rules or pairs are new and settled -/
theorem ab_RM_W {m m1 m' : ev_Mem} {R : List (ab_Ls × ab_Ls)} {W : Nat → List ab_Ls} {P : List (Nat × Nat)} {D : ab_Ls} (h : ab_RepM m z) (hD : ab_MD m1 D) (hR : ab_MR m1 R) (hS : ab_MS m1 W) (hL : ab_ML m1 W) (hP : ab_MP m1 P) (h1 : ∀ c i, ¬ ab_sM c i → ¬ ab_gW c i → ¬ ((c = 277 ∧ i = 2) ∨ c = 278) → m1 c i = m c i) (f2 : ab_frg m1 m') (F2 : ab_MF m' (ab_there W) (ab_fo R W) 40)
    (G2 : ∃ g, ab_MG m' (ab_there W) g ∧ (∀ x, x < 40 → ab_there W x = true → g x < 40) ∧ ∀ x y, x < 40 → y < 40 → ab_there W x = true → ab_there W y = true → (g x = g y ↔ ab_mkp (ab_there W) (ab_fo R W) P x = ab_mkp (ab_there W) (ab_fo R W) P y)) : ab_RepM m' (D, R, W, P, z.2.2.2.2) := by
  obtain ⟨c1, c2, c3, c4, c5, c6, c7, c8, c9, c10, c11, c12, c13⟩ := h
  have hr : ∀ c i, ¬ ab_sM c i → ¬ ab_gW c i → ¬ ((c = 277 ∧ i = 2) ∨ c = 278) → m' c i = m c i := fun c i q1 q2 q3 => by
    rw [f2 c i (fun q => q1 (by unfold ab_sM; omega)) (fun q => q2 (by unfold ab_gW; omega)) (fun q => q1 (by unfold ab_sM; omega))]
    exact h1 c i q1 q2 q3
  obtain ⟨g, g1, g2, g3⟩ := G2
  refine ⟨ab_MD_cg (fun c i hc => f2 c i (by omega) (by omega) (by omega)) hD, ab_MR_frt (fun c i hc => f2 c i (by omega) (by omega) (by omega)) hR, fun v hv => by rw [f2 _ _ (by omega) (by omega) (by decide)]; exact hS v hv, fun x hx ht => ⟨by rw [f2 _ _ (by omega) (by omega) (by decide)]; exact (hL x hx ht).1, fun k hk => by rw [f2 _ _ (by omega) (by omega) (by decide)]; exact (hL x hx ht).2 k hk⟩, F2, ⟨g, g1, g2, fun x y hx hy hxt hyt => ?_⟩, ⟨by rw [f2 _ _ (by omega) (by omega) (by decide)]; exact hP.1, fun e he => ⟨by rw [f2 _ _ (by omega) (by omega) (by decide)]; exact (hP.2 e he).1, by rw [f2 _ _ (by omega) (by omega) (by decide)]; exact (hP.2 e he).2⟩⟩, ab_MT_cg (fun c i hc => ?_) c8, ab_MO_cg (fun c i hc => ?_) c9, ab_MB_cg (fun c i hc => ?_) c10, ab_MN_cg (fun c i hc => ?_) c11, ab_MK_cg (fun c i hc => ?_) c12, ab_MA_cg (fun i => ?_) c13⟩
  · rw [g3 x y hx hy hxt hyt]
    unfold zq
    rw [decide_eq_true_eq]
  all_goals first | exact hr _ _ (by unfold ab_gT at hc; unfold ab_sM; omega) (by unfold ab_gT at hc; unfold ab_gW; omega) (by unfold ab_gT at hc; omega) | exact hr _ _ (by unfold ab_sM; omega) (by unfold ab_gW; omega) (by omega)
/-- word -/
theorem ev_S139 {x : Int32} (A : ev_all w) (hs : ab_RepM m z) (hok : ab_ok z) (hQ : ab_PM m t true (ab_word z x) Q) : ev_K w 139 [.ref 277, .int x] m t Q := by
  have hp : ev_prog[139]? = some ev_m139 := rfl
  have i6 : ((Int8.ofInt 6).toInt32).toInt = 6 := by decide
  have i10 : ((Int8.ofInt 10).toInt32).toInt = 10 := by decide
  obtain ⟨⟨k1, k2⟩, ⟨k3, k4⟩, k5, ⟨k6, k7⟩, ⟨k8, k9⟩, -⟩ := id hok
  obtain ⟨c1, c2, c3, c4, c5, c6, c7, c8, -⟩ := id hs
  have e2 := ev_toI c1.1 (by omega)
  have thr : ∀ k : Nat, 0 < k → k < 10 → ab_word z x = (k, 0, z) → ev_J w ev_m139 (ev_nd 139) Q 53 [ev_vr 277, ev_vi x, none, none] [.int (Int32.ofNat k), .ref 277] m t := by
    intro k hk hk2 e
    rw [e] at hQ
    have ek := ev_ofNat_i (n := k) (by omega)
    refine ev_gK A hp [65] 10 ?_
    refine And.intro (fun (h : (ev_up m 277 0 (Int32.ofNat k) 277 0).toInt ≤ 0) => by rw [ev_up_same] at h; omega) (fun _ => ?_)
    exact hQ _ 0 (ab_RM_th hs _) (fun c i hc => ab_up0 _ _ (by omega)) (ev_up_same _ _ _ _) (fun q => absurd q (by show ¬ k = 0; omega))
  refine ⟨Or.inr ⟨277, _, rfl, rfl⟩, ev_m139, rfl, ev_gK A hp [12, 53] 10 ?_⟩
  refine ev_S140 A ?_
  cases hv : ab_wi x with
  | none =>
    refine And.intro (fun h => absurd ev_eq00 h) (fun _ => ?_)
    exact thr 1 (by omega) (by omega) (by unfold ab_word; rw [hv])
  | some v =>
    obtain ⟨hv4, rfl⟩ := ab_wi_some hv
    have hw10 := (k5 v hv4).1
    refine And.intro (fun _ => ?_) (fun h => absurd (h : (1 : Int32).toInt = 0) ev_ne10)
    show ev_J w ev_m139 (ev_nd 139) Q 12 [ev_vr 277, ev_vn v, none, none] [.ref 277] m t
    refine ev_gK A hp [24, 53] 10 ?_
    refine ev_S141 A c8.2.2.2.1 k8.2.2.2.1 ?_
    refine And.intro (fun h => ?_) (fun h => ?_)
    · have hj : zj z v = false := ab_bi_eq h
      show ev_J w ev_m139 (ev_nd 139) Q 24 [ev_vr 277, ev_vn v, none, none] [.ref 277] m t
      refine ev_gK A hp [53] 30 ?_
      refine And.intro (fun (h2 : (m 277 2).toInt ≤ ((Int8.ofInt 6).toInt32).toInt) => ?_) (fun (h2 : ((Int8.ofInt 6).toInt32).toInt < (m 277 2).toInt) => ?_)
      · refine And.intro (ev_oin hv4 (by decide)) ?_
        have es := c3 v hv4
        have esi := ev_toI es (by omega)
        refine And.intro (fun (h3 : ¬ (m 279 (Int32.ofNat v).toNatClampNeg).toInt = ((Int8.ofInt 10).toInt32).toInt) => ?_) (fun (h3 : (m 279 (Int32.ofNat v).toNatClampNeg).toInt = ((Int8.ofInt 10).toInt32).toInt) => ?_)
        · rw [ev_on (by omega)] at h3
          have hlt : (zW z v).length < 10 := by omega
          have e : ab_word z (Int32.ofNat v) = (0, Int32.ofNat ((zW z v).length + 1), ([], zR z, ab_put (zW z) v (zD z), z.2.2.2)) := by
            unfold ab_word
            rw [hv]
            simp only [hj, Bool.false_eq_true, if_false]
            rw [if_neg (by omega), if_neg (by omega)]
          rw [e] at hQ
          show ev_J w ev_m139 (ev_nd 139) Q 53 [ev_vr 277, ev_vn v, none, none] [.int (Int32.ofNat 0), .ref 277] m t
          refine ev_gK A hp [65] 10 ?_
          refine And.intro (fun _ => ?_) (fun (h : 0 < (ev_up m 277 0 (Int32.ofNat 0) 277 0).toInt) => by rw [ev_up_same] at h; exact absurd h (by decide))
          show ev_J w ev_m139 (ev_nd 139) Q 65 [ev_vr 277, ev_vn v, none, none] [] (ev_up m 277 0 (Int32.ofNat 0)) t
          have g0 : ∀ c i, ¬ (c = 277 ∧ i = 0) → ev_up m 277 0 (Int32.ofNat 0) c i = m c i := fun c i hc => ab_up0 _ _ hc
          have g00 : ev_up m 277 0 (Int32.ofNat 0) 277 0 = Int32.ofNat 0 := ev_up_same _ _ _ _
          generalize ev_up m 277 0 (Int32.ofNat 0) = m0 at *
          have es0 : m0 279 (Int32.ofNat v).toNatClampNeg = Int32.ofNat (zW z v).length := by rw [ev_on (by omega), g0 _ _ (by omega)]; exact es
          obtain ⟨X, hX⟩ : ∃ X, 10 * v + (zW z v).length = X := ⟨_, rfl⟩
          have eX : (Int8.ofInt 10).toInt32 * Int32.ofNat v + m0 279 (Int32.ofNat v).toNatClampNeg = Int32.ofNat X := by rw [es0, ← hX]; exact ev_lin (c := 10) (by omega) (by omega) (by omega)
          refine ev_gK A hp [79] 20 ?_
          refine And.intro (ev_oin hv4 (by decide)) ?_
          show ev_J w ev_m139 (ev_nd 139) Q 79 [ev_vr 277, ev_vn v, ev_vi ((Int8.ofInt 10).toInt32 * Int32.ofNat v + m0 279 (Int32.ofNat v).toNatClampNeg), ev_vn 0] [] m0 t
          rw [eX]
          have loop := ev_lup (P := fun k => ∀ (kk : Int32) (mk : ev_Mem), kk = Int32.ofNat k → (∀ c i, ¬ (c = 280 ∧ 6 * X ≤ i ∧ i < 6 * X + 6) → mk c i = m0 c i) → (∀ j, j < k → mk 280 (6 * X + j) = (zD z).getD j 0) → ev_J w ev_m139 (ev_nd 139) Q 79 [ev_vr 277, ev_vn v, ev_vn X, ev_vi kk] [] mk t) (zD z).length (by
            intro k hk ih kk mk ekk fk hlet
            subst ekk
            have ek := ev_ofNat_i (n := k) (by omega)
            have h2k : mk 277 2 = Int32.ofNat (zD z).length := by rw [fk _ _ (by omega), g0 _ _ (by omega)]; exact c1.1
            have e2k := ev_toI h2k (by omega)
            refine ev_gK A hp [87, 110] 10 ?_
            refine And.intro (fun (h : (mk 277 2).toInt ≤ (Int32.ofNat k).toInt) => ?_) (fun (h : (Int32.ofNat k).toInt < (mk 277 2).toInt) => ?_)
            · have hkD : k = (zD z).length := by omega
              subst hkD
              refine ev_gK A hp [120] 10 ?_
              refine And.intro (ev_oin (by omega) (by decide)) ?_
              show ev_J w ev_m139 (ev_nd 139) Q 120 [ev_vr 277, ev_vn v, ev_vn X, ev_vn (zD z).length] [] (ev_up mk 281 (Int32.ofNat X).toNatClampNeg (mk 277 2)) t
              rw [ev_on (by omega), h2k]
              have es1 : ev_up mk 281 X (Int32.ofNat (zD z).length) 279 (Int32.ofNat v).toNatClampNeg = Int32.ofNat (zW z v).length := by rw [ev_up_cell _ (by decide), fk _ _ (by omega)]; exact es0
              refine ev_gK A hp [130] 10 ?_
              refine And.intro (ev_oin hv4 (by decide)) ?_
              refine And.intro (ev_oin hv4 (by decide)) ?_
              show ev_J w ev_m139 (ev_nd 139) Q 130 [ev_vr 277, ev_vn v, ev_vn X, ev_vn (zD z).length] [] (ev_up (ev_up mk 281 X (Int32.ofNat (zD z).length)) 279 (Int32.ofNat v).toNatClampNeg (ev_up mk 281 X (Int32.ofNat (zD z).length) 279 (Int32.ofNat v).toNatClampNeg + 1)) t
              rw [es1, ev_on (by omega), ev_succ (by omega)]
              refine ev_gK A hp [139] 10 ?_
              -- the numbers before settling
              show ev_K w 142 [.ref 277] (ev_up (ev_up (ev_up mk 281 X (Int32.ofNat (zD z).length)) 279 v (Int32.ofNat ((zW z v).length + 1))) 277 2 (Int32.ofInt 0)) t _
              generalize hM : ev_up (ev_up (ev_up mk 281 X (Int32.ofNat (zD z).length)) 279 v (Int32.ofNat ((zW z v).length + 1))) 277 2 (Int32.ofInt 0) = m1
              have q1 : ∀ c i, ¬ (c = 281 ∧ i = X) → ¬ (c = 279 ∧ i = v) → ¬ (c = 277 ∧ i = 2) → ¬ (c = 280 ∧ 6 * X ≤ i ∧ i < 6 * X + 6) → m1 c i = m0 c i := fun c i z1 z2 z3 z4 => by
                rw [← hM]
                unfold ev_up
                rw [if_neg z3, if_neg z2, if_neg z1]
                exact fk c i z4
              have hput : ∀ u, ab_put (zW z) v (zD z) u = if u = v then zW z u ++ [zD z] else zW z u := fun u => rfl
              have S1 : ab_MS m1 (ab_put (zW z) v (zD z)) := fun u hu => by
                rw [hput]
                by_cases huv : u = v
                · rw [if_pos huv, huv, ← hM, ev_up_cell _ (by decide), ev_up_same, List.length_append, List.length_singleton]
                · rw [if_neg huv, q1 _ _ (by omega) (by omega) (by omega) (by omega), g0 _ _ (by omega)]
                  exact c3 u hu
              have L1 : ab_ML m1 (ab_put (zW z) v (zD z)) := fun y hy ht => by
                rcases ab_put_inv ht with hold | hnew
                · have hyX : y ≠ X := fun q => by
                    have h5 := of_decide_eq_true hold
                    rw [q, ← hX, (by omega : (10 * v + (zW z v).length) / 10 = v), (by omega : (10 * v + (zW z v).length) % 10 = (zW z v).length)] at h5
                    omega
                  rw [(ab_put_old hold).2]
                  obtain ⟨a1, a2⟩ := c4 y hy hold
                  have h6 := (ab_sp_ok k5 hy hold).1
                  refine ⟨?_, fun j hj => ?_⟩
                  · rw [q1 _ _ (by omega) (by omega) (by omega) (by omega), g0 _ _ (by omega)]; exact a1
                  · rw [q1 _ _ (by omega) (by omega) (by omega) (by omega), g0 _ _ (by omega)]; exact a2 j hj
                · rw [hX] at hnew
                  have hnew2 := hnew.symm
                  subst hnew2
                  have hsp : ab_sp (ab_put (zW z) v (zD z)) X = zD z := by rw [← hX]; exact ab_put_new hlt
                  rw [hsp]
                  refine ⟨?_, fun j hj => ?_⟩
                  · rw [← hM, ev_up_cell _ (by decide), ev_up_cell _ (by decide), ev_up_same]
                  · rw [← hM, ev_up_cell _ (by decide), ev_up_cell _ (by decide), ev_up_cell _ (by decide)]; exact hlet j hj
              have R1 : ab_MR m1 (zR z) := ab_MR_frt (fun c i hc => by rw [q1 _ _ (by omega) (by omega) (by omega) (by omega)]; exact g0 _ _ (by omega)) c2
              have P1 : ab_MP m1 (zP z) := ⟨by rw [q1 _ _ (by omega) (by omega) (by omega) (by omega), g0 _ _ (by omega)]; exact c7.1, fun e he => ⟨by rw [q1 _ _ (by omega) (by omega) (by omega) (by omega), g0 _ _ (by omega)]; exact (c7.2 e he).1, by rw [q1 _ _ (by omega) (by omega) (by omega) (by omega), g0 _ _ (by omega)]; exact (c7.2 e he).2⟩⟩
              have hWo := ab_Wok_put (v := v) k5 hlt (by omega : (zD z).length ≤ 6) k2
              refine ev_S142 A S1 hWo L1 R1 k4 k3 P1 k6 (fun q hq => ?_) (fun m2 f2 F2 G2 => ?_)
              · obtain ⟨⟨a1, a2⟩, a3, a4⟩ := k7 q hq
                exact ⟨⟨a1, (ab_put_old a2).1⟩, a3, (ab_put_old a4).1⟩
              have hrep : ab_RepM m2 ([], zR z, ab_put (zW z) v (zD z), zP z, z.2.2.2.2) := by
                refine ab_RM_W hs ⟨by rw [← hM, ev_up_same]; rfl, fun k hk => absurd hk (Nat.not_lt_zero _)⟩ R1 S1 L1 P1 (fun c i y1 y2 y3 => ?_) f2 F2 G2
                rw [q1 c i (fun q => y2 (by unfold ab_gW; omega)) (fun q => y2 (by unfold ab_gW; omega)) (fun q => y3 (Or.inl q)) (fun q => y2 (by unfold ab_gW; omega))]
                exact g0 c i (fun q => y1 (by unfold ab_sM; omega))
              have h1 := hrep.2.2.1 v hv4
              have h3 : zW ([], zR z, ab_put (zW z) v (zD z), zP z, z.2.2.2.2) v = zW z v ++ [zD z] := if_pos rfl
              rw [h3, List.length_append, List.length_singleton] at h1
              show ev_J w ev_m139 (ev_nd 139) Q 139 [ev_vr 277, ev_vn v, ev_vn X, ev_vn (zD z).length] [] m2 t
              refine ev_gK A hp [] 10 ?_
              refine And.intro (ev_oin hv4 (by decide)) ?_
              show Q (.inl (some (.int (m2 279 (Int32.ofNat v).toNatClampNeg)))) m2 t
              rw [ev_on (by omega), h1]
              refine hQ m2 _ hrep (fun c i hc => ?_) ?_ (fun _ => rfl)
              · rw [f2 c i (by omega) (by omega) (by omega), q1 c i (by omega) (by omega) (by omega) (by omega)]
                exact g0 c i (by omega)
              · rw [f2 _ _ (by omega) (by omega) (by decide), q1 _ _ (by omega) (by omega) (by omega) (by omega)]
                exact g00
            · have hkl : k < (zD z).length := by omega
              have ei : (Int8.ofInt 6).toInt32 * Int32.ofNat X + Int32.ofNat k = Int32.ofNat (6 * X + k) := ev_lin (c := 6) (by omega) (by omega) (by omega)
              refine ev_gK A hp [79] 20 ?_
              refine And.intro (ev_oin (by omega) (by decide)) ?_
              refine And.intro (ev_iin ei (by omega) (by decide)) ?_
              refine ih hkl _ _ (ev_succ (by omega)) (fun c i hc => ?_) (fun j hj => ?_)
              · rw [ev_at ei (by omega)]
                rw [show ev_up mk 280 (6 * X + k) (mk 278 (Int32.ofNat k).toNatClampNeg) c i = mk c i from if_neg (by omega)]
                exact fk c i hc
              · rw [ev_at ei (by omega)]
                by_cases hjk : j = k
                · rw [hjk, ev_up_same, ev_on (by omega), fk _ _ (by omega), g0 _ _ (by omega)]
                  exact c1.2 k hkl
                · rw [ev_up_idx _ _ (by omega)]
                  exact hlet j (by omega))
          exact loop 0 (by omega) _ m0 rfl (fun _ _ _ => rfl) (fun j hj => by omega)
        · rw [ev_on (by omega)] at h3
          refine thr 4 (by omega) (by omega) ?_
          unfold ab_word
          rw [hv]
          simp only [hj, Bool.false_eq_true, if_false]
          rw [if_neg (by omega), if_pos (by omega)]
      · refine thr 3 (by omega) (by omega) ?_
        unfold ab_word
        rw [hv]
        simp only [hj, Bool.false_eq_true, if_false]
        rw [if_pos (by omega)]
    · have hj : zj z v = true := ab_bi_neq h
      refine thr 2 (by omega) (by omega) ?_
      unfold ab_word
      rw [hv]
      simp only [hj, if_true]
end EvMcalls
