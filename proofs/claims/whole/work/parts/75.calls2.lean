/-! the class's calls: joining, places, the text -/
section EvCalls2
variable {w : ev_W} {Q : ev_QT} {m : ev_Mem} {t : ev_H} {z : ab_Z}
theorem ab_mcn_cg {T : ab_T} {p : Nat} {g g' : Nat → Nat} (h : ∀ n i, n < 4 → T.2.1 p n = some i → g (10 * n + i) = g' (10 * n + i)) : ∀ n, n ≤ 4 → ab_mcn T p g n = ab_mcn T p g' n
  | 0, _ => rfl
  | n + 1, hn => by
    have ih := ab_mcn_cg h n (by omega)
    rw [ab_mcn, ab_mcn]
    cases hc : T.2.1 p n with
    | none => exact ih
    | some i =>
      show min _ _ = min _ _
      rw [ih, h n i (by omega) hc]
theorem ab_zgm (hs : ab_RepC m z) (hok : ab_ok z) {v : Nat} (hv : v < 4) (hJ : 0 < (zW z v).length) : ab_gm (zT z) (ab_dst m (zf z)) v (zT z).1 (zW z v).length = zg z v := by
  unfold zg
  funext a b
  unfold ab_gm
  have hx := ab_zthw (k := (zW z v).length - 1 - b) hok hv (by omega)
  refine ab_mcn_cg (fun n i hn hc => ?_) 4 (Nat.le_refl _)
  have hy := ab_zthw hok hn (hok.2.2.2.2.1.2.1 _ n i hc)
  exact ab_zdst hs hx.1 hy.1 hx.2 hy.2
theorem ab_js4 {js : List Nat} {v : Nat} (hl : js.length ≤ 4) (hn : js.Nodup) (h4 : ∀ u ∈ js, u < 4) (hv : v < 4) (hv2 : ¬ v ∈ js) : js.length < 4 := by
  apply Nat.lt_of_le_of_ne hl
  intro he
  match js, he with
  | [a, b, c, d], _ =>
    have ha := h4 a (by simp)
    have hb := h4 b (by simp)
    have hc := h4 c (by simp)
    have hd := h4 d (by simp)
    simp only [List.nodup_cons, List.mem_cons, List.not_mem_nil, or_false, not_or] at hn hv2
    omega
theorem zj_iff (hok : ab_ok z) {v : Nat} (hv : v < 4) : zj z v = true ↔ v ∈ (zT z).2.2.2.1 := by
  unfold zj ab_isJ
  rw [List.any_eq_true]
  constructor
  · rintro ⟨u, hu, h⟩
    have h1 := of_decide_eq_true h
    have h2 := hok.2.2.2.2.1.1.2.2.2.2.1 u hu
    have h3 := congrArg Int32.toInt h1
    rw [ev_ofNat_i (by omega), ev_ofNat_i (by omega)] at h3
    have h4 : u = v := by omega
    rw [← h4]; exact hu
  · intro h
    exact ⟨v, h, decide_eq_true rfl⟩
theorem ab_TC_nt {T : ab_T} (h : ab_TC m T) : ab_TC m (ab_nt T) := by
  obtain ⟨t1, t2, t3, t4, t5, t6⟩ := h
  refine ⟨t1, fun p hp v hv => ?_, fun p hp => ?_, t4, t5, t6⟩
  · show m 210 (4 * p + v) = ab_oi (if p < T.1 ∧ v < 4 then T.2.1 p v else none)
    rw [if_pos ⟨hp, hv⟩]; exact t2 p hp v hv
  · show m 211 p = ab_oi (if p < T.1 then T.2.2.1 p else none)
    rw [if_pos (show p < T.1 from hp)]; exact t3 p hp
theorem zp_facts (hok : ab_ok z) {v : Nat} (hv : v < 4) : ab_pn (zp z v) (zp z v).length = (zT z).1 ∧ ab_jn (zp z v) (zp z v).length = (zW z v).length ∧ (zp z v).length ≤ 34 ∧ ∀ i, (zp z v).getD i 0 ≤ 2 := by
  have h1 := ab_path_cnt (zg z v) _ (zT z).1 (zW z v).length (Nat.le_refl _)
  have h2 := ab_path_len (zg z v) ((zT z).1 + (zW z v).length) (zT z).1 (zW z v).length
  have h3 := (hok.2.2.1 v hv).1
  have h4 := hok.2.2.2.2.1.1.1
  refine ⟨h1.1, h1.2, ?_, fun i => ?_⟩
  · show (ab_path _ _ _).length ≤ 34
    unfold ab_path
    omega
  · by_cases hi : i < (zp z v).length
    · have hm : (zp z v).getD i 0 ∈ zp z v := by
        rw [List.getD_eq_getElem?_getD, List.getElem?_eq_getElem hi]
        exact List.getElem_mem hi
      exact ab_path_le2 (zg z v) _ _ _ _ hm
    · rw [List.getD_eq_getElem?_getD, List.getElem?_eq_none (by omega)]
      exact Nat.zero_le _
/-- join -/
theorem ev_S118 {x : Int32} (A : ev_all w) (hs : ab_RepC m z) (hok : ab_ok z) (hrm : ev_rm w t) (hQ : ab_PQ m t [13, 12, 14] true (ab_join z x) Q) : ev_K w 118 [.ref 0, .int x] m t Q := by
  have hp : ev_prog[118]? = some ev_m118 := rfl
  have i24 : ((Int8.ofInt 24).toInt32).toInt = 24 := by decide
  obtain ⟨⟨k1, k2⟩, ⟨k3, k4⟩, k5, ⟨k6, k7⟩, ⟨k8, k9⟩, -⟩ := id hok
  obtain ⟨c1, ⟨c2, c3⟩, c4, c5, c6, c8, c9, -⟩ := id hs
  refine ⟨Or.inr ⟨0, _, rfl, rfl⟩, ev_m118, rfl, ev_gK A hp [36] 20 ?_⟩
  refine ev_S112 A hrm (fun v hv => ?_) (fun hv => ?_)
  · obtain ⟨hv4, rfl⟩ := ab_wi_some hv
    have hc := c4.1 v hv4
    have hW10 := (k5 v hv4).1
    have e0 : ab_join z (Int32.ofNat v) = if zj z v = true ∨ (zW z v).length = 0 then (2, 0, z) else if 24 < (zp z v).length then (3, 0, z) else (0, Int32.ofNat (ab_C (zg z v) (zT z).1 (zW z v).length), ab_setT z (ab_nt (ab_jt (zT z) v (zp z v)))) := by unfold ab_join; rw [hv]
    rw [e0] at hQ
    have no : zj z v = true ∨ (zW z v).length = 0 → ev_rm w t ∧ Q (.inr (307 + t.length)) m (t ++ [.inr (12, [])]) := by
      intro h
      rw [if_pos h] at hQ
      exact ⟨hrm, (hQ m hs (fun _ _ _ => rfl)).2 (Nat.succ_ne_zero _)⟩
    refine ev_S40 A c9 k8 ?_
    refine And.intro (fun h => no (Or.inl (ab_bi_ne h))) (fun h => ?_)
    have hj : zj z v = false := ab_bi_nne h
    refine ev_S26 A hv4 ?_
    refine And.intro (fun (h2 : ¬ (m 203 v).toInt = 0) => ?_) (fun (h2 : (m 203 v).toInt = 0) => no (Or.inr (by omega)))
    have hJ : 0 < (zW z v).length := by omega
    rw [if_neg (fun q => q.elim (fun q => by rw [hj] at q; cases q) (fun q => by omega))] at hQ
    obtain ⟨p1, p2, p3, p4⟩ := zp_facts hok hv4
    have hnj : ¬ v ∈ (zT z).2.2.2.1 := fun q => by rw [(zj_iff hok hv4).mpr q] at hj; cases hj
    have hj4 := ab_js4 k8.2.2.2.1 k9.2.1 (fun u hu => k8.2.2.2.2.1 u hu) hv4 hnj
    show ev_J w ev_m118 (ev_nd 118) Q 36 [ev_vr 0, ev_vn v, none] [] m t
    refine ev_gK A hp [] 10 ?_
    refine ev_S52 (T := zT z) (N := (zT z).1) (J := (zW z v).length) (fo := zf z) A c9 k8 hv4 rfl hc hW10 c5 (fun j hj => by have h5 := ab_zthw hok hv4 hj; rw [ab_zth hs h5.1]; exact h5.2) (fun p u i _ hu hi => ab_zcell hok hs hu hi) (fun y l hy ht hl => ab_zaz hok hy (by rw [← ab_zth hs hy]; exact ht) hl) (fun m1 f1 z4 z5 z3 zpath => ?_)
    rw [ab_zgm hs hok hv4 hJ] at z3 zpath ⊢
    have z3' : m1 213 3 = Int32.ofNat (zp z v).length := z3
    have zpath' : ∀ i, i < (zp z v).length → m1 216 i = Int32.ofNat ((zp z v).getD i 0) := zpath
    have hf1 : ∀ c i, ¬ ab_sc c i → m1 c i = m c i := fun c i hc => f1 c i (by unfold ab_sc at hc; omega) (by unfold ab_sc at hc; omega)
    have hs1 := ab_Rep_0 hs hok hf1
    have hsum := ab_n2_pn (zp z v) (zp z v).length
    rw [p1] at hsum
    refine ev_gK A hp [65, 75] 10 ?_
    refine ev_S57 (l := zp z v) (N := (zT z).1) A z4 z3' k8.1 p3 zpath' p4 ?_
    have eN := ev_ofNat_i (n := (zT z).1 + ab_n2 (zp z v) (zp z v).length) (by omega)
    refine And.intro (fun (h3 : (Int32.ofNat ((zT z).1 + ab_n2 (zp z v) (zp z v).length)).toInt ≤ ((Int8.ofInt 24).toInt32).toInt) => ?_) (fun (h3 : ((Int8.ofInt 24).toInt32).toInt < (Int32.ofNat ((zT z).1 + ab_n2 (zp z v) (zp z v).length)).toInt) => ?_)
    · rw [if_neg (by omega)] at hQ
      refine ev_gK A hp [] 20 ?_
      refine ev_S58 (l := zp z v) (T := zT z) A hs1.2.2.2.2.2.2.1 k8 hv4 hj4 z4 (by rw [p2]; exact z5) z3' (by omega) p1 zpath' p4 (fun m2 f2 T2 => ?_)
      refine (hQ m2 (ab_Rep_T hs hok (fun c i q1 q2 => by rw [f2 c i q2]; exact hf1 c i q1) (ab_TC_nt T2)) (fun c i hc => by rw [f2 c i (by omega)]; exact f1 c i (by omega) (by omega))).1 rfl
    · rw [if_pos (by omega)] at hQ
      refine ev_gK A hp [] 10 ⟨hrm, (hQ m1 hs1 (fun c i hc => f1 c i (by omega) (by omega))).2 (Nat.succ_ne_zero _)⟩
  · have e : ab_join z x = (1, 0, z) := by unfold ab_join; rw [hv]
    rw [e] at hQ
    exact (hQ m hs (fun _ _ _ => rfl)).2 (Nat.succ_ne_zero _)
/-- retract -/
theorem ev_S119 (A : ev_all w) (hs : ab_RepC m z) (hok : ab_ok z) (hrm : ev_rm w t) (hQ : ab_PQ m t [12] true (ab_retract z) Q) : ev_K w 119 [.ref 0] m t Q := by
  have hp : ev_prog[119]? = some ev_m119 := rfl
  have em1 := ev_im1
  obtain ⟨-, -, -, -, ⟨k8, k9⟩, -⟩ := id hok
  obtain ⟨t1, t2, t3, t4, t5, t6⟩ := id hs.2.2.2.2.2.2.1
  refine ⟨Or.inr ⟨0, _, rfl, rfl⟩, ev_m119, rfl, ev_gK A hp [8] 10 ?_⟩
  refine ev_S45 A hs.2.2.2.2.2.2.1 k8 ?_
  show ev_J w ev_m119 (ev_nd 119) Q 8 [ev_vr 0, ev_vi (ab_oi (zT z).2.2.2.1.getLast?)] [] m t
  cases hl : (zT z).2.2.2.1.getLast? with
  | none =>
    have e : ab_retract z = (1, 0, z) := by unfold ab_retract; rw [hl]
    rw [e] at hQ
    refine ev_gK A hp [] 10 ?_
    exact And.intro (fun (h : ¬ (-1 : Int32).toInt = (-1 : Int32).toInt) => absurd rfl h) (fun _ => ⟨hrm, (hQ m hs (fun _ _ _ => rfl)).2 (Nat.succ_ne_zero _)⟩)
  | some v =>
    have e : ab_retract z = (0, Int32.ofNat v, ab_setT z (ab_nt (ab_rt (zT z) v))) := by unfold ab_retract; rw [hl]
    rw [e] at hQ
    have hvm := List.mem_of_getLast? hl
    have hv4 := k8.2.2.2.2.1 v hvm
    have evi := ev_ofNat_i (n := v) (by omega)
    have hpos : 0 < (zT z).2.2.2.1.length := List.length_pos_of_mem hvm
    refine ev_gK A hp [23] 10 ?_
    refine And.intro (fun _ => ?_) (fun (h : (Int32.ofNat v).toInt = (Int32.ofInt (-1)).toInt) => by omega)
    refine ev_gK A hp [] 10 ?_
    refine ev_S46 A hs.2.2.2.2.2.2.1 k8 hv4 hpos (fun m1 f1 z2 z4 z5 zc => ?_)
    have hsl := ab_sel_len (zT z) v (zT z).1
    have k81 := k8.1
    have k84 := k8.2.2.2.1
    refine (hQ m1 (ab_Rep_T hs hok (fun c i _ q2 => f1 c i (by omega)) (ab_TC_nt ⟨?_, fun p hp u hu => (zc p hp).1 u hu, fun p hp => (zc p hp).2, ?_, fun k hk => ?_, z5⟩)) (fun c i hc => f1 c i (by omega))).1 rfl
    · rw [z2]
      exact ev_ofNat_i (by omega)
    · rw [z4, ev_ofNat_i (by omega)]
      show _ = (((zT z).2.2.2.1.dropLast.length : Nat) : Int)
      rw [List.length_dropLast]
    · have hk2 : k < (zT z).2.2.2.1.dropLast.length := hk
      rw [List.length_dropLast] at hk2
      rw [f1 _ _ (by decide), t5 k (by omega)]
      show _ = Int32.ofNat ((zT z).2.2.2.1.dropLast.getD k 0)
      rw [List.dropLast_eq_take, List.getD_eq_getElem?_getD, List.getD_eq_getElem?_getD, List.getElem?_take, if_pos (by omega)]
/-- places -/
theorem ev_S104 (A : ev_all w) (hs : ab_RepC m z) (hok : ab_ok z) (hQ : ab_PQ m t [] true (ab_places z) Q) : ev_K w 104 [.ref 0] m t Q := by
  have hp : ev_prog[104]? = some ev_m104 := rfl
  have k1 := hok.2.2.2.2.1.1.1
  refine ⟨Or.inr ⟨0, _, rfl, rfl⟩, ev_m104, rfl, ev_gK A hp [] 10 ?_⟩
  refine ev_S36 A ?_
  have e : m 209 2 = Int32.ofNat (zT z).1 := by
    apply ev_eq_of
    rw [hs.2.2.2.2.2.2.1.1, ev_ofNat_i (by omega)]
  show Q (.inl (some (.int (m 209 2)))) m t
  rw [e]
  exact (hQ m hs (fun _ _ _ => rfl)).1 rfl
/-- at -/
theorem ev_S120 {p x : Int32} (A : ev_all w) (hs : ab_RepC m z) (hok : ab_ok z) (hrm : ev_rm w t) (hQ : ab_PQ m t [13] true (ab_at z p x) Q) : ev_K w 120 [.ref 0, .int p, .int x] m t Q := by
  have hp : ev_prog[120]? = some ev_m120 := rfl
  have k1 := hok.2.2.2.2.1.1.1
  refine ⟨Or.inr ⟨0, _, rfl, rfl⟩, ev_m120, rfl, ev_gK A hp [] 20 ?_⟩
  refine ev_S121 A hrm hs.2.2.2.2.2.2.1 (fun q eq hq hpi => ?_) (fun hpi => ?_)
  · refine ev_S112 A hrm (fun v hv => ?_) (fun hv => ?_)
    · obtain ⟨hv4, rfl⟩ := ab_wi_some hv
      have e : ab_at z p (Int32.ofNat v) = (0, ab_oi ((zT z).2.1 q v), z) := by unfold ab_at; rw [hpi, hv]
      rw [e] at hQ
      subst eq
      refine ev_S39 A (by omega) hv4 ?_
      show Q (.inl (some (.int (m 210 (4 * q + v))))) m t
      rw [hs.2.2.2.2.2.2.1.2.1 q hq v hv4]
      exact (hQ m hs (fun _ _ _ => rfl)).1 rfl
    · have e : ab_at z p x = (1, 0, z) := by unfold ab_at; rw [hv]; split <;> first | rfl | (rename_i h1 h2; cases h2)
      rw [e] at hQ
      exact (hQ m hs (fun _ _ _ => rfl)).2 (Nat.succ_ne_zero _)
  · have e : ab_at z p x = (1, 0, z) := by unfold ab_at; rw [hpi]
    rw [e] at hQ
    exact (hQ m hs (fun _ _ _ => rfl)).2 (Nat.succ_ne_zero _)
/-- beside -/
theorem ev_S122 {x i y : Int32} (A : ev_all w) (hs : ab_RepC m z) (hok : ab_ok z) (hrm : ev_rm w t) (hQ : ab_PQ m t [13] true (ab_beside z x i y) Q) : ev_K w 122 [.ref 0, .int x, .int i, .int y] m t Q := by
  have hp : ev_prog[122]? = some ev_m122 := rfl
  refine ⟨Or.inr ⟨0, _, rfl, rfl⟩, ev_m122, rfl, ev_gK A hp [] 20 ?_⟩
  refine ev_S115 A hrm hs.2.2.1 (fun u k _ ex hu4 ei hk hwd => ?_) (fun hwd => ?_)
  · have hk10 := (hok.2.2.1 u hu4).1
    refine ev_S112 A hrm (fun v hv => ?_) (fun hv => ?_)
    · obtain ⟨hv4, rfl⟩ := ab_wi_some hv
      have e : ab_beside z x i (Int32.ofNat v) = (0, ab_oi (ab_nb (zT z) u k v), z) := by unfold ab_beside; rw [hwd, hv, (by omega : 10 * u + k = 10 * u + k)]; simp only [(by omega : (10 * u + k) / 10 = u), (by omega : (10 * u + k) % 10 = k)]
      rw [e] at hQ
      subst ex ei
      refine ev_S48 A hs.2.2.2.2.2.2.1 hok.2.2.2.2.1.1 hu4 hv4 (by omega) ?_
      exact (hQ m hs (fun _ _ _ => rfl)).1 rfl
    · have e : ab_beside z x i y = (1, 0, z) := by unfold ab_beside; rw [hv]; split <;> first | rfl | (rename_i h1 h2; cases h2)
      rw [e] at hQ
      exact (hQ m hs (fun _ _ _ => rfl)).2 (Nat.succ_ne_zero _)
  · have e : ab_beside z x i y = (1, 0, z) := by unfold ab_beside; rw [hwd]
    rw [e] at hQ
    exact (hQ m hs (fun _ _ _ => rfl)).2 (Nat.succ_ne_zero _)
/-- base -/
theorem ev_S123 {x : Int32} (A : ev_all w) (hs : ab_RepC m z) (hok : ab_ok z) (hrm : ev_rm w t) (hQ : ab_PQ m t [13, 12] false (ab_base z x) Q) : ev_K w 123 [.ref 0, .int x] m t Q := by
  have hp : ev_prog[123]? = some ev_m123 := rfl
  have em1 := ev_im1
  obtain ⟨t1, t2, t3, t4, t5, t6⟩ := id hs.2.2.2.2.2.2.1
  have k1 := hok.2.2.2.2.1.1.1
  have h14 : ∀ b : Option Nat, x = ab_oi b → ab_base z x = (0, 0, ab_setT z (ab_reb (zT z) b)) → ev_J w ev_m123 (ev_nd 123) Q 14 [ev_vr 0, ev_vi x] [] m t := by
    intro b hx e
    rw [e] at hQ
    refine ev_gK A hp [] 10 ?_
    refine ev_S49 A ?_
    have hn : ∀ c i, ¬ (c = 211) → ab_fill (ev_up m 209 5 x) 211 24 (-1) c i = ev_up m 209 5 x c i := fun c i hc => if_neg (fun q => hc q.1)
    refine (hQ _ (ab_Rep_T hs hok (fun c i _ q => by rw [hn c i (by omega), ev_up_cell _ (by omega)]) ⟨?_, fun p hp v hv => ?_, fun p hp => ?_, ?_, fun k hk => ?_, ?_⟩) (fun c i hc => by rw [hn c i (by omega), ev_up_cell _ (by omega)])).1 rfl
    · rw [hn _ _ (by decide), ev_up_idx _ _ (by decide)]; exact t1
    · rw [hn _ _ (by decide), ev_up_cell _ (by decide)]; exact t2 p hp v hv
    · exact if_pos ⟨rfl, by have hp2 : p < (zT z).1 := hp; omega⟩
    · rw [hn _ _ (by decide), ev_up_idx _ _ (by decide)]; exact t4
    · rw [hn _ _ (by decide), ev_up_cell _ (by decide)]; exact t5 k hk
    · rw [hn _ _ (by decide), ev_up_same]; exact hx
  refine ⟨Or.inr ⟨0, _, rfl, rfl⟩, ev_m123, rfl, ev_gK A hp [5, 14] 10 ?_⟩
  refine And.intro (fun (h : x.toInt = (Int32.ofInt (-1)).toInt) => ?_) (fun (h : ¬ x.toInt = (Int32.ofInt (-1)).toInt) => ?_)
  · exact h14 none (ev_eq_of h) (if_pos (by omega))
  · have hne : ¬ x.toInt = -1 := by omega
    refine ev_gK A hp [14] 20 ?_
    refine ev_S112 A hrm (fun v hv => ?_) (fun hv => ?_)
    · obtain ⟨hv4, rfl⟩ := ab_wi_some hv
      refine ev_S124 A hrm hs.2.2.2.2.2.2.1 hok.2.2.2.2.1.1 (fun hj => ?_) (fun hj => ?_)
      · exact h14 (some v) rfl (by unfold ab_base; rw [if_neg hne, hv]; simp only [hj, if_true])
      · have e : ab_base z (Int32.ofNat v) = (2, 0, z) := by unfold ab_base; rw [if_neg hne, hv]; simp only [hj, Bool.false_eq_true, if_false]
        rw [e] at hQ
        exact (hQ m hs (fun _ _ _ => rfl)).2 (Nat.succ_ne_zero _)
    · have e : ab_base z x = (1, 0, z) := by unfold ab_base; rw [if_neg hne, hv]
      rw [e] at hQ
      exact (hQ m hs (fun _ _ _ => rfl)).2 (Nat.succ_ne_zero _)
/-- choose -/
theorem ev_S125 {p x : Int32} (A : ev_all w) (hs : ab_RepC m z) (hok : ab_ok z) (hrm : ev_rm w t) (hQ : ab_PQ m t [13, 12] false (ab_choose z p x) Q) : ev_K w 125 [.ref 0, .int p, .int x] m t Q := by
  have hp : ev_prog[125]? = some ev_m125 := rfl
  have em1 := ev_im1
  obtain ⟨t1, t2, t3, t4, t5, t6⟩ := id hs.2.2.2.2.2.2.1
  have k1 := hok.2.2.2.2.1.1.1
  refine ⟨Or.inr ⟨0, _, rfl, rfl⟩, ev_m125, rfl, ev_gK A hp [5] 20 ?_⟩
  refine ev_S121 A hrm hs.2.2.2.2.2.2.1 (fun q eq hq hpi => ?_) (fun hpi => ?_)
  · subst eq
    have h19 : ∀ b : Option Nat, x = ab_oi b → ab_choose z (Int32.ofNat q) x = (0, 0, ab_setT z (ab_cho (zT z) q b)) → ev_J w ev_m125 (ev_nd 125) Q 19 [ev_vr 0, ev_vn q, ev_vi x] [] m t := by
      intro b hx e
      rw [e] at hQ
      refine ev_gK A hp [] 10 ?_
      refine ev_S50 A (by omega) ?_
      refine (hQ _ (ab_Rep_T hs hok (fun c i _ q => by rw [ev_up_cell _ (by omega)]) ⟨?_, fun p hp v hv => ?_, fun p hp => ?_, ?_, fun k hk => ?_, ?_⟩) (fun c i hc => by rw [ev_up_cell _ (by omega)])).1 rfl
      · rw [ev_up_cell _ (by decide)]; exact t1
      · rw [ev_up_cell _ (by decide)]; exact t2 p hp v hv
      · show _ = ab_oi (if p = q then b else (zT z).2.2.1 p)
        by_cases hpq : p = q
        · rw [hpq, ev_up_same, if_pos rfl]; exact hx
        · rw [ev_up_idx _ _ hpq, if_neg hpq]; exact t3 p hp
      · rw [ev_up_cell _ (by decide)]; exact t4
      · rw [ev_up_cell _ (by decide)]; exact t5 k hk
      · rw [ev_up_cell _ (by decide)]; exact t6
    show ev_J w ev_m125 (ev_nd 125) Q 5 [ev_vr 0, ev_vn q, ev_vi x] [] m t
    refine ev_gK A hp [10, 19] 10 ?_
    refine And.intro (fun (h : x.toInt = (Int32.ofInt (-1)).toInt) => ?_) (fun (h : ¬ x.toInt = (Int32.ofInt (-1)).toInt) => ?_)
    · exact h19 none (ev_eq_of h) (by unfold ab_choose; simp only [hpi]; rw [if_pos (by omega)])
    · have hne : ¬ x.toInt = -1 := by omega
      refine ev_gK A hp [19] 20 ?_
      refine ev_S112 A hrm (fun v hv => ?_) (fun hv => ?_)
      · obtain ⟨hv4, rfl⟩ := ab_wi_some hv
        refine ev_S124 A hrm hs.2.2.2.2.2.2.1 hok.2.2.2.2.1.1 (fun hj => ?_) (fun hj => ?_)
        · exact h19 (some v) rfl (by unfold ab_choose; simp only [hpi]; rw [if_neg hne, hv]; simp only [hj, if_true])
        · have e : ab_choose z (Int32.ofNat q) (Int32.ofNat v) = (2, 0, z) := by unfold ab_choose; simp only [hpi]; rw [if_neg hne, hv]; simp only [hj, Bool.false_eq_true, if_false]
          rw [e] at hQ
          exact (hQ m hs (fun _ _ _ => rfl)).2 (Nat.succ_ne_zero _)
      · have e : ab_choose z (Int32.ofNat q) x = (1, 0, z) := by unfold ab_choose; simp only [hpi]; rw [if_neg hne, hv]
        rw [e] at hQ
        exact (hQ m hs (fun _ _ _ => rfl)).2 (Nat.succ_ne_zero _)
  · have e : ab_choose z p x = (1, 0, z) := by unfold ab_choose; rw [hpi]
    rw [e] at hQ
    exact (hQ m hs (fun _ _ _ => rfl)).2 (Nat.succ_ne_zero _)
end EvCalls2
