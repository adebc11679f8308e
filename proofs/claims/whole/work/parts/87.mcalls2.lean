/-! the model's calls: rules, equalities, forms -/
section EvMcalls2
variable {w : ev_W} {Q : ev_QT} {m : ev_Mem} {t : ev_H} {z : ab_Z}
/-- rule -/
theorem ev_S151 {n : Int32} (A : ev_all w) (hs : ab_RepM m z) (hok : ab_ok z) (hQ : ab_PM m t true (ab_rule z n) Q) : ev_K w 151 [.ref 277, .int n] m t Q := by
  have hp : ev_prog[151]? = some ev_m151 := rfl
  have i1 : (Int32.ofInt 1).toInt = 1 := by decide
  have i3 : (Int32.ofInt 3).toInt = 3 := by decide
  have i2 : (Int32.ofInt 2).toInt = 2 := by decide
  have i8 : ((Int8.ofInt 8).toInt32).toInt = 8 := by decide
  obtain ⟨⟨k1, k2⟩, ⟨k3, k4⟩, k5, ⟨k6, k7⟩, ⟨k8, k9⟩, -⟩ := id hok
  obtain ⟨c1, c2, c3, c4, c5, c6, c7, c8, -⟩ := id hs
  have e2 := ev_toI c1.1 (by omega)
  have e9 := ev_toI c2.1 (by omega)
  have thr : ∀ k : Nat, 0 < k → k < 10 → ab_rule z n = (k, 0, z) → ev_J w ev_m151 (ev_nd 151) Q 47 [ev_vr 277, ev_vi n, none] [.int (Int32.ofNat k), .ref 277] m t := by
    intro k hk hk2 e
    rw [e] at hQ
    have ek := ev_ofNat_i (n := k) (by omega)
    refine ev_gK A hp [59] 10 ?_
    refine And.intro (fun (h : (ev_up m 277 0 (Int32.ofNat k) 277 0).toInt ≤ 0) => by rw [ev_up_same] at h; omega) (fun _ => ?_)
    exact hQ _ 0 (ab_RM_th hs _) (fun c i hc => ab_up0 _ _ (by omega)) (ev_up_same _ _ _ _) (fun q => absurd q (by show ¬ k = 0; omega))
  have no : (n.toInt < 1 ∨ 3 < n.toInt ∨ ((zD z).length : Int) < n.toInt ∨ n.toInt + 2 < ((zD z).length : Int)) → ev_J w ev_m151 (ev_nd 151) Q 47 [ev_vr 277, ev_vi n, none] [.int (Int32.ofNat 1), .ref 277] m t := fun h => thr 1 (by omega) (by omega) (if_pos h)
  refine ⟨Or.inr ⟨277, _, rfl, rfl⟩, ev_m151, rfl, ev_gK A hp [33, 47] 30 ?_⟩
  refine And.intro (fun (h : n.toInt < (Int32.ofInt 1).toInt) => no (by omega)) (fun (h : (Int32.ofInt 1).toInt ≤ n.toInt) => ?_)
  refine And.intro (fun (h : (Int32.ofInt 3).toInt < n.toInt) => no (by omega)) (fun (h2 : n.toInt ≤ (Int32.ofInt 3).toInt) => ?_)
  refine And.intro (fun (h : (m 277 2).toInt < n.toInt) => no (by omega)) (fun (h3 : n.toInt ≤ (m 277 2).toInt) => ?_)
  have en2 : (n + Int32.ofInt 2).toInt = n.toInt + 2 := by rw [ev_add_i (by omega) (by omega), i2]
  refine And.intro (fun (h4 : (m 277 2).toInt ≤ (n + Int32.ofInt 2).toInt) => ?_) (fun (h4 : (n + Int32.ofInt 2).toInt < (m 277 2).toInt) => no (by omega))
  have hn : ¬ (n.toInt < 1 ∨ 3 < n.toInt ∨ ((zD z).length : Int) < n.toInt ∨ n.toInt + 2 < ((zD z).length : Int)) := by omega
  have enn : n = Int32.ofNat n.toInt.toNat := (ev_ofNat_toNat (by omega)).symm
  obtain ⟨N, hN⟩ : ∃ N, n.toInt.toNat = N := ⟨_, rfl⟩
  rw [hN] at enn
  have hNb : 1 ≤ N ∧ N ≤ 3 ∧ N ≤ (zD z).length ∧ (zD z).length ≤ N + 2 := by omega
  show ev_J w ev_m151 (ev_nd 151) Q 33 [ev_vr 277, ev_vi n, none] [.ref 277] m t
  refine ev_gK A hp [47] 10 ?_
  refine And.intro (fun (h5 : ¬ (m 277 9).toInt = ((Int8.ofInt 8).toInt32).toInt) => ?_) (fun (h5 : (m 277 9).toInt = ((Int8.ofInt 8).toInt32).toInt) => thr 2 (by omega) (by omega) (by unfold ab_rule; rw [if_neg hn, if_pos (by omega)]))
  have hL8 : (zR z).length < 8 := by omega
  have e : ab_rule z n = (0, Int32.ofNat ((zR z).length + 1), ([], zR z ++ [((zD z).take N, (zD z).drop N)], z.2.2)) := by unfold ab_rule; rw [if_neg hn, if_neg (by omega), hN]
  rw [e] at hQ
  show ev_J w ev_m151 (ev_nd 151) Q 47 [ev_vr 277, ev_vi n, none] [.int (Int32.ofNat 0), .ref 277] m t
  rw [enn]
  refine ev_gK A hp [61] 10 ?_
  refine And.intro (fun _ => ?_) (fun (h : 0 < (ev_up m 277 0 (Int32.ofNat 0) 277 0).toInt) => by rw [ev_up_same] at h; exact absurd h (by decide))
  show ev_J w ev_m151 (ev_nd 151) Q 61 [ev_vr 277, ev_vn N, ev_vn 0] [] (ev_up m 277 0 (Int32.ofNat 0)) t
  have g0 : ∀ c i, ¬ (c = 277 ∧ i = 0) → ev_up m 277 0 (Int32.ofNat 0) c i = m c i := fun c i hc => ab_up0 _ _ hc
  have g00 : ev_up m 277 0 (Int32.ofNat 0) 277 0 = Int32.ofNat 0 := ev_up_same _ _ _ _
  generalize ev_up m 277 0 (Int32.ofNat 0) = m0 at *
  have eN := ev_ofNat_i (n := N) (by omega)
  have loop := ev_lup (P := fun k => ∀ (kk : Int32) (mk : ev_Mem), kk = Int32.ofNat k → (∀ c i, ¬ (c = 285 ∧ 3 * (zR z).length ≤ i ∧ i < 3 * (zR z).length + 3) → ¬ (c = 287 ∧ 2 * (zR z).length ≤ i ∧ i < 2 * (zR z).length + 2) → mk c i = m0 c i) → (∀ j, j < k → j < N → mk 285 (3 * (zR z).length + j) = (zD z).getD j 0) → (∀ j, N + j < k → mk 287 (2 * (zR z).length + j) = (zD z).getD (N + j) 0) → ev_J w ev_m151 (ev_nd 151) Q 61 [ev_vr 277, ev_vn N, ev_vi kk] [] mk t) (zD z).length (by
    intro k hk ih kk mk ekk fk hl hr
    subst ekk
    have ek := ev_ofNat_i (n := k) (by omega)
    have m2 : mk 277 2 = Int32.ofNat (zD z).length := by rw [fk _ _ (by omega) (by omega), g0 _ _ (by omega)]; exact c1.1
    have m9 : mk 277 9 = Int32.ofNat (zR z).length := by rw [fk _ _ (by omega) (by omega), g0 _ _ (by omega)]; exact c2.1
    have e2k := ev_toI m2 (by omega)
    have mD : k < (zD z).length → mk 278 (Int32.ofNat k).toNatClampNeg = (zD z).getD k 0 := fun hkl => by rw [ev_on (by omega), fk _ _ (by omega) (by omega), g0 _ _ (by omega)]; exact c1.2 k hkl
    refine ev_gK A hp [69, 123] 10 ?_
    refine And.intro (fun (h : (mk 277 2).toInt ≤ (Int32.ofNat k).toInt) => ?_) (fun (h : (Int32.ofNat k).toInt < (mk 277 2).toInt) => ?_)
    · have hkD : k = (zD z).length := by omega
      subst hkD
      refine ev_gK A hp [133] 10 ?_
      refine And.intro (ev_iin m9 (by omega) (by decide)) ?_
      show ev_J w ev_m151 (ev_nd 151) Q 133 [ev_vr 277, ev_vn N, ev_vn (zD z).length] [] (ev_up mk 286 (mk 277 9).toNatClampNeg (Int32.ofNat N)) t
      rw [ev_at m9 (by omega)]
      have m91 : ev_up mk 286 (zR z).length (Int32.ofNat N) 277 9 = Int32.ofNat (zR z).length := by rw [ev_up_cell _ (by decide)]; exact m9
      have m21 : ev_up mk 286 (zR z).length (Int32.ofNat N) 277 2 = Int32.ofNat (zD z).length := by rw [ev_up_cell _ (by decide)]; exact m2
      refine ev_gK A hp [148] 20 ?_
      refine And.intro (ev_iin m91 (by omega) (by decide)) ?_
      show ev_J w ev_m151 (ev_nd 151) Q 148 [ev_vr 277, ev_vn N, ev_vn (zD z).length] [] (ev_up (ev_up mk 286 (zR z).length (Int32.ofNat N)) 288 (ev_up mk 286 (zR z).length (Int32.ofNat N) 277 9).toNatClampNeg (ev_up mk 286 (zR z).length (Int32.ofNat N) 277 2 - Int32.ofNat N)) t
      rw [ev_at m91 (by omega), m21, ev_subNN (by omega) (by omega)]
      refine ev_gK A hp [167] 20 ?_
      show ev_K w 142 [.ref 277] (ev_up (ev_up (ev_up (ev_up mk 286 (zR z).length (Int32.ofNat N)) 288 (zR z).length (Int32.ofNat ((zD z).length - N))) 277 9 (ev_up (ev_up mk 286 (zR z).length (Int32.ofNat N)) 288 (zR z).length (Int32.ofNat ((zD z).length - N)) 277 9 + 1)) 277 2 (Int32.ofInt 0)) t _
      have m92 : ev_up (ev_up mk 286 (zR z).length (Int32.ofNat N)) 288 (zR z).length (Int32.ofNat ((zD z).length - N)) 277 9 + 1 = Int32.ofNat ((zR z).length + 1) := by rw [ev_up_cell _ (by decide), m91]; exact ev_succ (by omega)
      rw [m92]
      generalize hM : ev_up (ev_up (ev_up (ev_up mk 286 (zR z).length (Int32.ofNat N)) 288 (zR z).length (Int32.ofNat ((zD z).length - N))) 277 9 (Int32.ofNat ((zR z).length + 1))) 277 2 (Int32.ofInt 0) = m1
      have q0 : ∀ c i, ¬ (c = 286 ∧ i = (zR z).length) → ¬ (c = 288 ∧ i = (zR z).length) → ¬ (c = 277 ∧ (i = 9 ∨ i = 2)) → m1 c i = mk c i := fun c i z1 z2 z3 => by
        rw [← hM]
        unfold ev_up
        rw [if_neg (by omega), if_neg (by omega), if_neg z2, if_neg z1]
      have q1 : ∀ c i, ¬ (c = 286 ∧ i = (zR z).length) → ¬ (c = 288 ∧ i = (zR z).length) → ¬ (c = 277 ∧ (i = 9 ∨ i = 2)) → ¬ (c = 285 ∧ 3 * (zR z).length ≤ i ∧ i < 3 * (zR z).length + 3) → ¬ (c = 287 ∧ 2 * (zR z).length ≤ i ∧ i < 2 * (zR z).length + 2) → m1 c i = m0 c i := fun c i z1 z2 z3 z4 z5 => by rw [q0 c i z1 z2 z3]; exact fk c i z4 z5
      have hRo : ab_Rok (zR z ++ [((zD z).take N, (zD z).drop N)]) := by
        intro q hq
        rcases List.mem_append.mp hq with hq | hq
        · exact k4 q hq
        · rw [List.mem_singleton] at hq
          subst hq
          refine ⟨?_, ?_, ?_, fun v hv => k2 v (List.mem_of_mem_take hv), fun v hv => k2 v (List.mem_of_mem_drop hv)⟩
          · rw [List.length_take]; omega
          · rw [List.length_take]; omega
          · rw [List.length_drop]; omega
      have R1 : ab_MR m1 (zR z ++ [((zD z).take N, (zD z).drop N)]) := by
        refine ⟨?_, fun r hr' => ?_⟩
        · rw [← hM, ev_up_idx _ _ (by decide), ev_up_same, List.length_append, List.length_singleton]
        · rw [List.length_append, List.length_singleton] at hr'
          by_cases hrl : r = (zR z).length
          · rw [hrl, ab_rs_last]
            refine ⟨?_, ?_, fun j hj => ?_, fun j hj => ?_⟩
            · rw [← hM, ev_up_cell _ (by decide), ev_up_cell _ (by decide), ev_up_cell _ (by decide), ev_up_same]
              show _ = Int32.ofNat ((zD z).take N).length
              rw [List.length_take, Nat.min_eq_left (by omega)]
            · rw [← hM, ev_up_cell _ (by decide), ev_up_cell _ (by decide), ev_up_same]
              show _ = Int32.ofNat ((zD z).drop N).length
              rw [List.length_drop]
            · have hj2 : j < ((zD z).take N).length := hj
              rw [List.length_take] at hj2
              rw [q0 _ _ (by omega) (by omega) (by omega)]
              show _ = ((zD z).take N).getD j 0
              rw [ab_getD_take (by omega)]
              exact hl j (by omega) (by omega)
            · have hj2 : j < ((zD z).drop N).length := hj
              rw [List.length_drop] at hj2
              rw [q0 _ _ (by omega) (by omega) (by omega)]
              show _ = ((zD z).drop N).getD j 0
              rw [ab_getD_drop]
              exact hr j (by omega)
          · rw [ab_rs_app (by omega)]
            obtain ⟨a1, a2, a3, a4⟩ := c2.2 r (by omega)
            obtain ⟨o1, o2, o3, -⟩ := ab_Rok_at k4 (r := r) (by omega)
            refine ⟨?_, ?_, fun j hj => ?_, fun j hj => ?_⟩
            · rw [q1 _ _ (by omega) (by omega) (by omega) (by omega) (by omega), g0 _ _ (by omega)]; exact a1
            · rw [q1 _ _ (by omega) (by omega) (by omega) (by omega) (by omega), g0 _ _ (by omega)]; exact a2
            · rw [q1 _ _ (by omega) (by omega) (by omega) (by omega) (by omega), g0 _ _ (by omega)]; exact a3 j hj
            · rw [q1 _ _ (by omega) (by omega) (by omega) (by omega) (by omega), g0 _ _ (by omega)]; exact a4 j hj
      have S1 : ab_MS m1 (zW z) := fun v hv => by rw [q1 _ _ (by omega) (by omega) (by omega) (by omega) (by omega), g0 _ _ (by omega)]; exact c3 v hv
      have L1 : ab_ML m1 (zW z) := fun y hy ht => ⟨by rw [q1 _ _ (by omega) (by omega) (by omega) (by omega) (by omega), g0 _ _ (by omega)]; exact (c4 y hy ht).1, fun j hj => by rw [q1 _ _ (by omega) (by omega) (by omega) (by omega) (by omega), g0 _ _ (by omega)]; exact (c4 y hy ht).2 j hj⟩
      have P1 : ab_MP m1 (zP z) := ⟨by rw [q1 _ _ (by omega) (by omega) (by omega) (by omega) (by omega), g0 _ _ (by omega)]; exact c7.1, fun e he => ⟨by rw [q1 _ _ (by omega) (by omega) (by omega) (by omega) (by omega), g0 _ _ (by omega)]; exact (c7.2 e he).1, by rw [q1 _ _ (by omega) (by omega) (by omega) (by omega) (by omega), g0 _ _ (by omega)]; exact (c7.2 e he).2⟩⟩
      refine ev_S142 A S1 k5 L1 R1 hRo (by rw [List.length_append, List.length_singleton]; omega) P1 k6 k7 (fun m2' f2 F2 G2 => ?_)
      have hrep : ab_RepM m2' ([], zR z ++ [((zD z).take N, (zD z).drop N)], zW z, zP z, z.2.2.2.2) := by
        refine ab_RM_W hs ⟨by rw [← hM, ev_up_same]; rfl, fun k hk => absurd hk (Nat.not_lt_zero _)⟩ R1 S1 L1 P1 (fun c i y1 y2 y3 => ?_) f2 F2 G2
        rw [q1 c i (fun q => y2 (by unfold ab_gW; omega)) (fun q => y2 (by unfold ab_gW; omega)) (fun q => by rcases q.2 with r | r; exact y2 (by unfold ab_gW; omega); exact y3 (Or.inl ⟨q.1, r⟩)) (fun q => y2 (by unfold ab_gW; omega)) (fun q => y2 (by unfold ab_gW; omega))]
        exact g0 c i (fun q => y1 (by unfold ab_sM; omega))
      have h1 := hrep.2.1.1
      show ev_J w ev_m151 (ev_nd 151) Q 167 [ev_vr 277, ev_vn N, ev_vn (zD z).length] [] m2' t
      refine ev_gK A hp [] 10 ?_
      show Q (.inl (some (.int (m2' 277 9)))) m2' t
      rw [h1]
      have hlen : (zR ([], zR z ++ [((zD z).take N, (zD z).drop N)], zW z, zP z, z.2.2.2.2)).length = (zR z).length + 1 := by
        show (zR z ++ [((zD z).take N, (zD z).drop N)]).length = _
        rw [List.length_append, List.length_singleton]
      rw [hlen]
      refine hQ m2' _ hrep (fun c i hc => ?_) ?_ (fun _ => rfl)
      · rw [f2 c i (by omega) (by omega) (by omega), q1 c i (by omega) (by omega) (by omega) (by omega) (by omega)]
        exact g0 c i (by omega)
      · rw [f2 _ _ (by omega) (by omega) (by decide), q1 _ _ (by omega) (by omega) (by omega) (by omega) (by omega)]
        exact g00
    · have hkl : k < (zD z).length := by omega
      show ev_J w ev_m151 (ev_nd 151) Q 69 [ev_vr 277, ev_vn N, ev_vn k] [] mk t
      refine ev_gK A hp [74, 96] 10 ?_
      refine And.intro (fun (h6 : (Int32.ofNat N).toInt ≤ (Int32.ofNat k).toInt) => ?_) (fun (h6 : (Int32.ofNat k).toInt < (Int32.ofNat N).toInt) => ?_)
      · have ei : Int32.ofInt 2 * mk 277 9 + Int32.ofNat k - Int32.ofNat N = Int32.ofNat (2 * (zR z).length + (k - N)) := by
          rw [m9]
          have e1 : Int32.ofInt 2 * Int32.ofNat (zR z).length + Int32.ofNat k = Int32.ofNat (2 * (zR z).length + k) := ev_lin (c := 2) (by omega) (by omega) (by omega)
          rw [e1, ev_subNN (by omega) (by omega)]
          congr 1
          omega
        refine ev_gK A hp [61] 20 ?_
        refine And.intro (ev_oin (by omega) (by decide)) ?_
        refine And.intro (ev_iin ei (by omega) (by decide)) ?_
        refine ih hkl _ _ (ev_succ (by omega)) (fun c i z1 z2 => ?_) (fun j z1 z2 => ?_) (fun j z1 => ?_)
        · rw [ev_at ei (by omega), show ev_up mk 287 (2 * (zR z).length + (k - N)) (mk 278 (Int32.ofNat k).toNatClampNeg) c i = mk c i from if_neg (by omega)]
          exact fk c i z1 z2
        · rw [ev_up_cell _ (by decide)]; exact hl j (by omega) z2
        · rw [ev_at ei (by omega)]
          by_cases hjk : N + j = k
          · rw [(by omega : j = k - N), ev_up_same, mD hkl, (by omega : N + (k - N) = k)]
          · rw [ev_up_idx _ _ (by omega)]; exact hr j (by omega)
      · have ei : Int32.ofInt 3 * mk 277 9 + Int32.ofNat k = Int32.ofNat (3 * (zR z).length + k) := by rw [m9]; exact ev_lin (c := 3) (by omega) (by omega) (by omega)
        refine ev_gK A hp [61] 20 ?_
        refine And.intro (ev_oin (by omega) (by decide)) ?_
        refine And.intro (ev_iin ei (by omega) (by decide)) ?_
        refine ih hkl _ _ (ev_succ (by omega)) (fun c i z1 z2 => ?_) (fun j z1 z2 => ?_) (fun j z1 => ?_)
        · rw [ev_at ei (by omega), show ev_up mk 285 (3 * (zR z).length + k) (mk 278 (Int32.ofNat k).toNatClampNeg) c i = mk c i from if_neg (by omega)]
          exact fk c i z1 z2
        · rw [ev_at ei (by omega)]
          by_cases hjk : j = k
          · rw [hjk, ev_up_same, mD hkl]
          · rw [ev_up_idx _ _ (by omega)]; exact hl j (by omega) z2
        · rw [ev_up_cell _ (by decide)]; exact hr j (by omega))
  exact loop 0 (by omega) _ m0 rfl (fun _ _ _ _ => rfl) (fun j hj => by omega) (fun j hj => by omega)
/-- equate -/
theorem ev_S152 {x i y j : Int32} (A : ev_all w) (hs : ab_RepM m z) (hok : ab_ok z) (hQ : ab_PM m t true (ab_equate z x i y j) Q) : ev_K w 152 [.ref 277, .int x, .int i, .int y, .int j] m t Q := by
  have hp : ev_prog[152]? = some ev_m152 := rfl
  have i6 : ((Int8.ofInt 6).toInt32).toInt = 6 := by decide
  obtain ⟨⟨k1, k2⟩, ⟨k3, k4⟩, k5, ⟨k6, k7⟩, ⟨k8, k9⟩, -⟩ := id hok
  obtain ⟨c1, c2, c3, c4, c5, c6, c7, c8, -⟩ := id hs
  have e14 := ev_toI c7.1 (by omega)
  have thr : ∀ k : Nat, 0 < k → k < 10 → ab_equate z x i y j = (k, 0, z) → ev_J w ev_m152 (ev_nd 152) Q 69 [ev_vr 277, ev_vi x, ev_vi i, ev_vi y, ev_vi j] [.int (Int32.ofNat k), .ref 277] m t := by
    intro k hk hk2 e
    rw [e] at hQ
    have ek := ev_ofNat_i (n := k) (by omega)
    refine ev_gK A hp [81] 10 ?_
    refine And.intro (fun (h : (ev_up m 277 0 (Int32.ofNat k) 277 0).toInt ≤ 0) => by rw [ev_up_same] at h; omega) (fun _ => ?_)
    exact hQ _ 0 (ab_RM_th hs _) (fun c i hc => ab_up0 _ _ (by omega)) (ev_up_same _ _ _ _) (fun q => absurd q (by show ¬ k = 0; omega))
  refine ⟨Or.inr ⟨277, _, rfl, rfl⟩, ev_m152, rfl, ev_gK A hp [24, 69] 20 ?_⟩
  refine ev_S153 A c3 k5 ?_
  cases hwd : ab_wd z x i with
  | none =>
    refine And.intro (fun _ => ?_) (fun h => absurd ev_eq00 h)
    exact thr 1 (by omega) (by omega) (by unfold ab_equate; rw [hwd])
  | some a =>
    refine And.intro (fun h => absurd (h : (1 : Int32).toInt = 0) ev_ne10) (fun _ => ?_)
    refine ev_S153 A c3 k5 ?_
    cases hwd2 : ab_wd z y j with
    | none =>
      refine And.intro (fun h => absurd ev_eq00 h) (fun _ => ?_)
      exact thr 1 (by omega) (by omega) (by unfold ab_equate; rw [hwd2]; split <;> first | rfl | (rename_i h1 h2; cases h2))
    | some b =>
      refine And.intro (fun _ => ?_) (fun h => absurd (h : (1 : Int32).toInt = 0) ev_ne10)
      obtain ⟨v, k, rfl, rfl, hv4, hk, ha⟩ := ab_wd_some hwd
      obtain ⟨u, l, rfl, rfl, hu4, hl, hb⟩ := ab_wd_some hwd2
      obtain ⟨a40, at'⟩ := ab_zthw hok hv4 hk
      obtain ⟨b40, bt'⟩ := ab_zthw hok hu4 hl
      rw [← ha] at a40 at'
      rw [← hb] at b40 bt'
      have hk10 := (k5 v hv4).1
      have hl10 := (k5 u hu4).1
      have xa : (Int8.ofInt 10).toInt32 * Int32.ofNat v + Int32.ofNat k = Int32.ofNat a := by rw [ha]; exact ev_lin (c := 10) (by omega) (by omega) (by omega)
      have xb : (Int8.ofInt 10).toInt32 * Int32.ofNat u + Int32.ofNat l = Int32.ofNat b := by rw [hb]; exact ev_lin (c := 10) (by omega) (by omega) (by omega)
      have eq0 : ab_equate z (Int32.ofNat v) (Int32.ofNat k) (Int32.ofNat u) (Int32.ofNat l) = if zf z a = none ∨ zf z b = none then (2, 0, z) else if 6 ≤ (zP z).length then (3, 0, z) else (0, Int32.ofNat ((zP z).length + 1), (zD z, zR z, zW z, zP z ++ [(a, b)], z.2.2.2.2)) := by unfold ab_equate; rw [hwd, hwd2]
      show ev_J w ev_m152 (ev_nd 152) Q 24 [ev_vr 277, ev_vn v, ev_vn k, ev_vn u, ev_vn l] [.ref 277] m t
      refine ev_gK A hp [] 6 ?_
      show ev_J w ev_m152 (ev_nd 152) Q 31 [ev_vr 277, ev_vn v, ev_vn k, ev_vn u, ev_vn l] [.int ((Int8.ofInt 10).toInt32 * Int32.ofNat v + Int32.ofNat k), .ref 277, .ref 277] m t
      rw [xa]
      refine ev_gK A hp [37, 69] 10 ?_
      refine ev_S149 (R := zR z) A c4 k5 a40 at' ?_
      refine And.intro (fun h => thr 2 (by omega) (by omega) (eq0.trans (if_pos (Or.inl (of_decide_eq_true (ab_bi_ne h)))))) (fun h => ?_)
      have hn1 := of_decide_eq_false (ab_bi_nne h)
      refine ev_gK A hp [] 6 ?_
      show ev_J w ev_m152 (ev_nd 152) Q 45 [ev_vr 277, ev_vn v, ev_vn k, ev_vn u, ev_vn l] [.int ((Int8.ofInt 10).toInt32 * Int32.ofNat u + Int32.ofNat l), .ref 277, .ref 277] m t
      rw [xb]
      refine ev_gK A hp [55, 69] 10 ?_
      refine ev_S149 (R := zR z) A c4 k5 b40 bt' ?_
      refine And.intro (fun h => ?_) (fun h => thr 2 (by omega) (by omega) (eq0.trans (if_pos (Or.inr (of_decide_eq_true (ab_bi_neq h))))))
      have hn2 := of_decide_eq_false (ab_bi_eq h)
      have eq1 := eq0.trans (if_neg (fun q => q.elim hn1 hn2))
      refine ev_gK A hp [69] 10 ?_
      refine And.intro (fun (h3 : ¬ (m 277 14).toInt = ((Int8.ofInt 6).toInt32).toInt) => ?_) (fun (h3 : (m 277 14).toInt = ((Int8.ofInt 6).toInt32).toInt) => thr 3 (by omega) (by omega) (eq1.trans (if_pos (by omega))))
      have eq2 := eq1.trans (if_neg (by omega))
      rw [eq2] at hQ
      show ev_J w ev_m152 (ev_nd 152) Q 69 [ev_vr 277, ev_vn v, ev_vn k, ev_vn u, ev_vn l] [.int (Int32.ofNat 0), .ref 277] m t
      refine ev_gK A hp [81] 10 ?_
      refine And.intro (fun _ => ?_) (fun (h : 0 < (ev_up m 277 0 (Int32.ofNat 0) 277 0).toInt) => by rw [ev_up_same] at h; exact absurd h (by decide))
      show ev_J w ev_m152 (ev_nd 152) Q 81 [ev_vr 277, ev_vn v, ev_vn k, ev_vn u, ev_vn l] [] (ev_up m 277 0 (Int32.ofNat 0)) t
      have g0 : ∀ c i, ¬ (c = 277 ∧ i = 0) → ev_up m 277 0 (Int32.ofNat 0) c i = m c i := fun c i hc => ab_up0 _ _ hc
      have g00 : ev_up m 277 0 (Int32.ofNat 0) 277 0 = Int32.ofNat 0 := ev_up_same _ _ _ _
      generalize ev_up m 277 0 (Int32.ofNat 0) = m0 at *
      have m14 : m0 277 14 = Int32.ofNat (zP z).length := by rw [g0 _ _ (by omega)]; exact c7.1
      refine ev_gK A hp [96] 20 ?_
      refine And.intro (ev_iin m14 (by omega) (by decide)) ?_
      show ev_J w ev_m152 (ev_nd 152) Q 96 [ev_vr 277, ev_vn v, ev_vn k, ev_vn u, ev_vn l] [] (ev_up m0 289 (m0 277 14).toNatClampNeg ((Int8.ofInt 10).toInt32 * Int32.ofNat v + Int32.ofNat k)) t
      rw [xa, ev_at m14 (by omega)]
      have m141 : ev_up m0 289 (zP z).length (Int32.ofNat a) 277 14 = Int32.ofNat (zP z).length := by rw [ev_up_cell _ (by decide)]; exact m14
      refine ev_gK A hp [112] 20 ?_
      refine And.intro (ev_iin m141 (by omega) (by decide)) ?_
      show ev_J w ev_m152 (ev_nd 152) Q 112 [ev_vr 277, ev_vn v, ev_vn k, ev_vn u, ev_vn l] [] (ev_up (ev_up m0 289 (zP z).length (Int32.ofNat a)) 290 (ev_up m0 289 (zP z).length (Int32.ofNat a) 277 14).toNatClampNeg ((Int8.ofInt 10).toInt32 * Int32.ofNat u + Int32.ofNat l)) t
      rw [xb, ev_at m141 (by omega)]
      refine ev_gK A hp [126] 20 ?_
      show ev_K w 142 [.ref 277] (ev_up (ev_up (ev_up m0 289 (zP z).length (Int32.ofNat a)) 290 (zP z).length (Int32.ofNat b)) 277 14 (ev_up (ev_up m0 289 (zP z).length (Int32.ofNat a)) 290 (zP z).length (Int32.ofNat b) 277 14 + 1)) t _
      rw [show ev_up (ev_up m0 289 (zP z).length (Int32.ofNat a)) 290 (zP z).length (Int32.ofNat b) 277 14 + 1 = Int32.ofNat ((zP z).length + 1) from by rw [ev_up_cell _ (by decide), m141]; exact ev_succ (by omega)]
      generalize hM : ev_up (ev_up (ev_up m0 289 (zP z).length (Int32.ofNat a)) 290 (zP z).length (Int32.ofNat b)) 277 14 (Int32.ofNat ((zP z).length + 1)) = m1
      have q1 : ∀ c i, c ≠ 289 → c ≠ 290 → ¬ (c = 277 ∧ i = 14) → m1 c i = m0 c i := fun c i z1 z2 z3 => by
        rw [← hM]
        unfold ev_up
        rw [if_neg z3, if_neg (fun q => z2 q.1), if_neg (fun q => z1 q.1)]
      have P1 : ab_MP m1 (zP z ++ [(a, b)]) := by
        refine ⟨by rw [← hM, ev_up_same, List.length_append, List.length_singleton], fun e he => ?_⟩
        rw [List.length_append, List.length_singleton] at he
        rw [List.getD_eq_getElem?_getD]
        by_cases hel : e = (zP z).length
        · rw [hel, List.getElem?_append_right (Nat.le_refl _), Nat.sub_self]
          refine ⟨?_, ?_⟩
          · rw [← hM, ev_up_cell _ (by decide), ev_up_cell _ (by decide), ev_up_same]; rfl
          · rw [← hM, ev_up_cell _ (by decide), ev_up_same]; rfl
        · rw [List.getElem?_append_left (by omega), ← List.getD_eq_getElem?_getD]
          obtain ⟨d1, d2⟩ := c7.2 e (by omega)
          refine ⟨?_, ?_⟩
          · rw [← hM, ev_up_cell _ (by decide), ev_up_cell _ (by decide), ev_up_idx _ _ hel, g0 _ _ (by omega)]; exact d1
          · rw [← hM, ev_up_cell _ (by decide), ev_up_idx _ _ hel, ev_up_cell _ (by decide), g0 _ _ (by omega)]; exact d2
      have S1 : ab_MS m1 (zW z) := fun v hv => by rw [q1 _ _ (by omega) (by omega) (by omega), g0 _ _ (by omega)]; exact c3 v hv
      have L1 : ab_ML m1 (zW z) := fun y hy ht => ⟨by rw [q1 _ _ (by omega) (by omega) (by omega), g0 _ _ (by omega)]; exact (c4 y hy ht).1, fun j hj => by rw [q1 _ _ (by omega) (by omega) (by omega), g0 _ _ (by omega)]; exact (c4 y hy ht).2 j hj⟩
      have R1 : ab_MR m1 (zR z) := ab_MR_frt (fun c i hc => by rw [q1 _ _ (by omega) (by omega) (by omega)]; exact g0 _ _ (by omega)) c2
      refine ev_S142 A S1 k5 L1 R1 k4 k3 P1 (by rw [List.length_append, List.length_singleton]; omega) (fun q hq => ?_) (fun m2 f2 F2 G2 => ?_)
      · rcases List.mem_append.mp hq with hq | hq
        · exact k7 q hq
        · rw [List.mem_singleton] at hq
          subst hq
          exact ⟨⟨a40, at'⟩, b40, bt'⟩
      have hrep : ab_RepM m2 (zD z, zR z, zW z, zP z ++ [(a, b)], z.2.2.2.2) := by
        refine ab_RM_W hs (ab_MD_cg (fun c i hc => by rw [q1 _ _ (by omega) (by omega) (by omega)]; exact g0 _ _ (by omega)) c1) R1 S1 L1 P1 (fun c i y1 y2 y3 => ?_) f2 F2 G2
        rw [q1 c i (fun q => y2 (by unfold ab_gW; omega)) (fun q => y2 (by unfold ab_gW; omega)) (fun q => y2 (by unfold ab_gW; omega))]
        exact g0 c i (fun q => y1 (by unfold ab_sM; omega))
      have h1 := hrep.2.2.2.2.2.2.1.1
      show ev_J w ev_m152 (ev_nd 152) Q 126 [ev_vr 277, ev_vn v, ev_vn k, ev_vn u, ev_vn l] [] m2 t
      refine ev_gK A hp [] 10 ?_
      show Q (.inl (some (.int (m2 277 14)))) m2 t
      rw [h1]
      have hlen : (zP (zD z, zR z, zW z, zP z ++ [(a, b)], z.2.2.2.2)).length = (zP z).length + 1 := by
        show (zP z ++ [(a, b)]).length = _
        rw [List.length_append, List.length_singleton]
      rw [hlen]
      refine hQ m2 _ hrep (fun c i hc => ?_) ?_ (fun _ => rfl)
      · rw [f2 c i (by omega) (by omega) (by omega), q1 c i (by omega) (by omega) (by omega)]
        exact g0 c i (by omega)
      · rw [f2 _ _ (by omega) (by omega) (by decide), q1 _ _ (by omega) (by omega) (by omega)]
        exact g00
/-- form -/
theorem ev_S154 {x i : Int32} (A : ev_all w) (hs : ab_RepM m z) (hok : ab_ok z) (hQ : ab_PM m t true (ab_fform z x i) Q) : ev_K w 154 [.ref 277, .int x, .int i] m t Q := by
  have hp : ev_prog[154]? = some ev_m154 := rfl
  obtain ⟨c1, c2, c3, c4, c5, c6, c7, c8, -⟩ := id hs
  have k5 := hok.2.2.1
  refine ⟨Or.inr ⟨277, _, rfl, rfl⟩, ev_m154, rfl, ev_gK A hp [15] 20 ?_⟩
  refine ev_S153 A c3 k5 ?_
  cases hwd : ab_wd z x i with
  | none =>
    have e : ab_fform z x i = (1, 0, z) := by unfold ab_fform; rw [hwd]
    rw [e] at hQ
    refine And.intro (fun _ => ?_) (fun h => absurd ev_eq00 h)
    show ev_J w ev_m154 (ev_nd 154) Q 15 [ev_vr 277, ev_vi x, ev_vi i] [.int (Int32.ofNat 1), .ref 277] m t
    refine ev_gK A hp [29] 10 ?_
    refine And.intro (fun (h : (ev_up m 277 0 (Int32.ofNat 1) 277 0).toInt ≤ 0) => by rw [ev_up_same] at h; exact absurd h (by decide)) (fun _ => ?_)
    exact hQ _ 0 (ab_RM_th hs _) (fun c i hc => ab_up0 _ _ (by omega)) (ev_up_same _ _ _ _) (fun q => absurd q (Nat.succ_ne_zero _))
  | some a =>
    have e : ab_fform z x i = (0, ab_fl (zf z a), z) := by unfold ab_fform; rw [hwd]
    rw [e] at hQ
    obtain ⟨v, k, rfl, rfl, hv4, hk, ha⟩ := ab_wd_some hwd
    obtain ⟨a40, at'⟩ := ab_zthw hok hv4 hk
    rw [← ha] at a40 at'
    have hk10 := (k5 v hv4).1
    have xa : (Int8.ofInt 10).toInt32 * Int32.ofNat v + Int32.ofNat k = Int32.ofNat a := by rw [ha]; exact ev_lin (c := 10) (by omega) (by omega) (by omega)
    refine And.intro (fun h => absurd (h : (1 : Int32).toInt = 0) ev_ne10) (fun _ => ?_)
    show ev_J w ev_m154 (ev_nd 154) Q 15 [ev_vr 277, ev_vn v, ev_vn k] [.int (Int32.ofNat 0), .ref 277] m t
    refine ev_gK A hp [29] 10 ?_
    refine And.intro (fun _ => ?_) (fun (h : 0 < (ev_up m 277 0 (Int32.ofNat 0) 277 0).toInt) => by rw [ev_up_same] at h; exact absurd h (by decide))
    have hs0 := ab_RM_th hs (Int32.ofNat 0)
    have g0 : ∀ c i, ¬ (c = 277 ∧ i = 0) → ev_up m 277 0 (Int32.ofNat 0) c i = m c i := fun c i hc => ab_up0 _ _ hc
    have g00 : ev_up m 277 0 (Int32.ofNat 0) 277 0 = Int32.ofNat 0 := ev_up_same _ _ _ _
    show ev_J w ev_m154 (ev_nd 154) Q 29 [ev_vr 277, ev_vn v, ev_vn k] [] (ev_up m 277 0 (Int32.ofNat 0)) t
    generalize ev_up m 277 0 (Int32.ofNat 0) = m0 at *
    refine ev_gK A hp [] 6 ?_
    show ev_J w ev_m154 (ev_nd 154) Q 36 [ev_vr 277, ev_vn v, ev_vn k] [.int ((Int8.ofInt 10).toInt32 * Int32.ofNat v + Int32.ofNat k), .ref 277] m0 t
    rw [xa]
    refine ev_gK A hp [] 20 ?_
    refine ev_S149 (R := zR z) A hs0.2.2.2.1 k5 a40 at' ?_
    refine And.intro (fun h => ?_) (fun h => ?_)
    · have hn := of_decide_eq_false (ab_bi_eq h)
      have hn2 : ¬ zf z a = none := hn
      refine And.intro (ev_iin xa (by omega) (by decide)) ?_
      show Q (.inl (some (.int (m0 283 ((Int8.ofInt 10).toInt32 * Int32.ofNat v + Int32.ofNat k).toNatClampNeg)))) m0 t
      rw [ev_at xa (by omega), (hs0.2.2.2.2.1 a a40 at').1.1]
      refine hQ m0 _ hs0 (fun c i hc => g0 c i (by omega)) g00 (fun _ => ?_)
      show _ = ab_fl (zf z a)
      cases hfa : zf z a with
      | none => exact absurd hfa hn2
      | some l => rfl
    · have hn : zf z a = none := of_decide_eq_true (ab_bi_neq h)
      refine hQ m0 _ hs0 (fun c i hc => g0 c i (by omega)) g00 (fun _ => ?_)
      show _ = ab_fl (zf z a)
      rw [hn]; rfl
/-- distance -/
theorem ev_S155 {x i y j : Int32} (A : ev_all w) (hs : ab_RepM m z) (hok : ab_ok z) (hQ : ab_PM m t true (ab_dist z x i y j) Q) : ev_K w 155 [.ref 277, .int x, .int i, .int y, .int j] m t Q := by
  have hp : ev_prog[155]? = some ev_m155 := rfl
  obtain ⟨c1, c2, c3, c4, c5, c6, c7, c8, -⟩ := id hs
  have k5 := hok.2.2.1
  have thr : ab_dist z x i y j = (1, 0, z) → ev_J w ev_m155 (ev_nd 155) Q 25 [ev_vr 277, ev_vi x, ev_vi i, ev_vi y, ev_vi j] [.int (Int32.ofNat 1), .ref 277] m t := by
    intro e
    rw [e] at hQ
    refine ev_gK A hp [39] 10 ?_
    refine And.intro (fun (h : (ev_up m 277 0 (Int32.ofNat 1) 277 0).toInt ≤ 0) => by rw [ev_up_same] at h; exact absurd h (by decide)) (fun _ => ?_)
    exact hQ _ 0 (ab_RM_th hs _) (fun c i hc => ab_up0 _ _ (by omega)) (ev_up_same _ _ _ _) (fun q => absurd q (Nat.succ_ne_zero _))
  refine ⟨Or.inr ⟨277, _, rfl, rfl⟩, ev_m155, rfl, ev_gK A hp [25] 20 ?_⟩
  refine ev_S153 A c3 k5 ?_
  cases hwd : ab_wd z x i with
  | none =>
    refine And.intro (fun _ => ?_) (fun h => absurd ev_eq00 h)
    exact thr (by unfold ab_dist; rw [hwd])
  | some a =>
    refine And.intro (fun h => absurd (h : (1 : Int32).toInt = 0) ev_ne10) (fun _ => ?_)
    refine ev_S153 A c3 k5 ?_
    cases hwd2 : ab_wd z y j with
    | none =>
      refine And.intro (fun h => absurd ev_eq00 h) (fun _ => ?_)
      exact thr (by unfold ab_dist; rw [hwd2]; split <;> first | rfl | (rename_i h1 h2; cases h2))
    | some b =>
      refine And.intro (fun _ => ?_) (fun h => absurd (h : (1 : Int32).toInt = 0) ev_ne10)
      obtain ⟨v, k, rfl, rfl, hv4, hk, ha⟩ := ab_wd_some hwd
      obtain ⟨u, l, rfl, rfl, hu4, hl, hb⟩ := ab_wd_some hwd2
      obtain ⟨a40, at'⟩ := ab_zthw hok hv4 hk
      obtain ⟨b40, bt'⟩ := ab_zthw hok hu4 hl
      rw [← ha] at a40 at'
      rw [← hb] at b40 bt'
      have hk10 := (k5 v hv4).1
      have hl10 := (k5 u hu4).1
      have xa : (Int8.ofInt 10).toInt32 * Int32.ofNat v + Int32.ofNat k = Int32.ofNat a := by rw [ha]; exact ev_lin (c := 10) (by omega) (by omega) (by omega)
      have xb : (Int8.ofInt 10).toInt32 * Int32.ofNat u + Int32.ofNat l = Int32.ofNat b := by rw [hb]; exact ev_lin (c := 10) (by omega) (by omega) (by omega)
      have e : ab_dist z (Int32.ofNat v) (Int32.ofNat k) (Int32.ofNat u) (Int32.ofNat l) = (0, Int32.ofNat (zd z a b), z) := by unfold ab_dist; rw [hwd, hwd2]
      rw [e] at hQ
      show ev_J w ev_m155 (ev_nd 155) Q 25 [ev_vr 277, ev_vn v, ev_vn k, ev_vn u, ev_vn l] [.int (Int32.ofNat 0), .ref 277] m t
      refine ev_gK A hp [39] 10 ?_
      refine And.intro (fun _ => ?_) (fun (h : 0 < (ev_up m 277 0 (Int32.ofNat 0) 277 0).toInt) => by rw [ev_up_same] at h; exact absurd h (by decide))
      have hs0 := ab_RM_th hs (Int32.ofNat 0)
      have g0 : ∀ c i, ¬ (c = 277 ∧ i = 0) → ev_up m 277 0 (Int32.ofNat 0) c i = m c i := fun c i hc => ab_up0 _ _ hc
      have g00 : ev_up m 277 0 (Int32.ofNat 0) 277 0 = Int32.ofNat 0 := ev_up_same _ _ _ _
      show ev_J w ev_m155 (ev_nd 155) Q 39 [ev_vr 277, ev_vn v, ev_vn k, ev_vn u, ev_vn l] [] (ev_up m 277 0 (Int32.ofNat 0)) t
      generalize ev_up m 277 0 (Int32.ofNat 0) = m0 at *
      refine ev_gK A hp [] 11 ?_
      show ev_J w ev_m155 (ev_nd 155) Q 53 [ev_vr 277, ev_vn v, ev_vn k, ev_vn u, ev_vn l] [.int ((Int8.ofInt 10).toInt32 * Int32.ofNat u + Int32.ofNat l), .int ((Int8.ofInt 10).toInt32 * Int32.ofNat v + Int32.ofNat k), .ref 277] m0 t
      rw [xa, xb]
      refine ev_gK A hp [] 10 ?_
      refine ev_S156 A hs0 hok a40 b40 at' bt' (fun m1 f1 => ?_)
      exact hQ m1 _ (ab_RM_0 hs0 (fun c i hc => f1 c i (fun q => hc (by unfold ab_sM; omega)))) (fun c i hc => by rw [f1 c i (by omega)]; exact g0 c i (by omega)) (by rw [f1 _ _ (by decide)]; exact g00) (fun _ => rfl)
end EvMcalls2
