/-! the class's calls: checks, letters, words, rules, equalities -/
section EvCalls
variable {w : ev_W} {Q : ev_QT} {m : ev_Mem} {t : ev_H} {z : ab_Z}
/-- WitnessBench.checkWitness -/
theorem ev_S112 {x : Int32} (A : ev_all w) (hrm : ev_rm w t) (h1 : ∀ v, ab_wi x = some v → Q (.inl none) m t) (h0 : ab_wi x = none → Q (.inr (307 + t.length)) m (t ++ [.inr (13, [])])) : ev_K w 112 [.int x] m t Q := by
  have hp : ev_prog[112]? = some ev_m112 := rfl
  have i4 := ev_i4
  refine ⟨Or.inl rfl, ev_m112, rfl, ev_gK A hp [] 10 ?_⟩
  refine And.intro (fun (h : x.toInt < 0) => ⟨hrm, h0 (if_neg (by omega))⟩) (fun (h : 0 ≤ x.toInt) => ?_)
  exact And.intro (fun (h2 : x.toInt < (Int32.ofInt 4).toInt) => h1 _ (if_pos (by omega))) (fun (h2 : (Int32.ofInt 4).toInt ≤ x.toInt) => ⟨hrm, h0 (if_neg (by omega))⟩)
/-- WitnessBench.checkWord -/
theorem ev_S115 {x i : Int32} (A : ev_all w) (hrm : ev_rm w t) (hW : ab_WS m (zW z)) (h1 : ∀ v k, ab_wi x = some v → x = Int32.ofNat v → v < 4 → i = Int32.ofNat k → k < (zW z v).length → ab_wd z x i = some (10 * v + k) → Q (.inl none) m t) (h0 : ab_wd z x i = none → Q (.inr (307 + t.length)) m (t ++ [.inr (13, [])])) : ev_K w 115 [.ref 0, .int x, .int i] m t Q := by
  have hp : ev_prog[115]? = some ev_m115 := rfl
  refine ⟨Or.inr ⟨0, _, rfl, rfl⟩, ev_m115, rfl, ev_gK A hp [] 20 ?_⟩
  refine ev_S112 A hrm (fun v hv => ?_) (fun hv => h0 (by unfold ab_wd; rw [hv]))
  obtain ⟨hv4, rfl⟩ := ab_wi_some hv
  have hwd : ab_wd z (Int32.ofNat v) i = if 0 ≤ i.toInt ∧ i.toInt < ((zW z v).length : Int) then some (10 * v + i.toInt.toNat) else none := by unfold ab_wd; rw [hv]
  refine And.intro (fun (h : i.toInt < 0) => ⟨hrm, h0 (by rw [hwd]; exact if_neg (by omega))⟩) (fun (h : 0 ≤ i.toInt) => ?_)
  refine ev_S26 A hv4 ?_
  have hc := hW.1 v hv4
  exact And.intro (fun (h2 : i.toInt < (m 203 v).toInt) => h1 v i.toInt.toNat hv rfl hv4 (ev_ofNat_toNat h).symm (by omega) (by rw [hwd]; exact if_pos (by omega))) (fun (h2 : (m 203 v).toInt ≤ i.toInt) => ⟨hrm, h0 (by rw [hwd]; exact if_neg (by omega))⟩)
/-- WitnessBench.checkPlace -/
theorem ev_S121 {x : Int32} (A : ev_all w) (hrm : ev_rm w t) (hT : ab_TC m (zT z)) (h1 : ∀ p, x = Int32.ofNat p → p < (zT z).1 → ab_pi z x = some p → Q (.inl none) m t) (h0 : ab_pi z x = none → Q (.inr (307 + t.length)) m (t ++ [.inr (13, [])])) : ev_K w 121 [.ref 0, .int x] m t Q := by
  have hp : ev_prog[121]? = some ev_m121 := rfl
  have t1 := hT.1
  refine ⟨Or.inr ⟨0, _, rfl, rfl⟩, ev_m121, rfl, ev_gK A hp [] 20 ?_⟩
  refine And.intro (fun (h : x.toInt < 0) => ⟨hrm, h0 (if_neg (by omega))⟩) (fun (h : 0 ≤ x.toInt) => ?_)
  refine ev_S36 A ?_
  exact And.intro (fun (h2 : x.toInt < (m 209 2).toInt) => h1 x.toInt.toNat (ev_ofNat_toNat h).symm (by omega) (if_pos (by omega))) (fun (h2 : (m 209 2).toInt ≤ x.toInt) => ⟨hrm, h0 (if_neg (by omega))⟩)
/-- WitnessBench.checkJoined -/
theorem ev_S124 {v : Nat} (A : ev_all w) (hrm : ev_rm w t) (hT : ab_TC m (zT z)) (hok : ab_Tok (zT z)) (h1 : zj z v = true → Q (.inl none) m t) (h0 : zj z v = false → Q (.inr (307 + t.length)) m (t ++ [.inr (12, [])])) : ev_K w 124 [.ref 0, .int (Int32.ofNat v)] m t Q := by
  have hp : ev_prog[124]? = some ev_m124 := rfl
  refine ⟨Or.inr ⟨0, _, rfl, rfl⟩, ev_m124, rfl, ev_gK A hp [] 20 ?_⟩
  refine ev_S40 A hT hok ?_
  exact And.intro (fun h => h1 (ab_bi_ne h)) (fun h => ⟨hrm, h0 (ab_bi_nne h)⟩)
/-- WitnessBench.checkSheet -/
theorem ev_S127 {x : Int32} {o : ab_Ls} (A : ev_all w) (hrm : ev_rm w t) (hO : ab_O m o) (hl : o.length ≤ 1920) (h1 : 0 ≤ x.toInt ∧ x.toInt < (o.length : Int) → Q (.inl none) m t) (h0 : ¬ (0 ≤ x.toInt ∧ x.toInt < (o.length : Int)) → Q (.inr (307 + t.length)) m (t ++ [.inr (13, [])])) : ev_K w 127 [.ref 0, .int x] m t Q := by
  have hp : ev_prog[127]? = some ev_m127 := rfl
  have e1 := ev_toI hO.1 (by omega)
  refine ⟨Or.inr ⟨0, _, rfl, rfl⟩, ev_m127, rfl, ev_gK A hp [] 20 ?_⟩
  refine And.intro (fun (h : x.toInt < 0) => ⟨hrm, h0 (by omega)⟩) (fun (h : 0 ≤ x.toInt) => ?_)
  refine ev_S69 A ?_
  exact And.intro (fun (h2 : x.toInt < (m 217 1).toInt) => h1 (by omega)) (fun (h2 : (m 217 1).toInt ≤ x.toInt) => ⟨hrm, h0 (by omega)⟩)
/-- type -/
theorem ev_S109 {c : Int32} (A : ev_all w) (hs : ab_RepC m z) (hok : ab_ok z) (hrm : ev_rm w t) (hQ : ab_PQ m t [11, 12] true (ab_type z c) Q) : ev_K w 109 [.ref 0, .int c] m t Q := by
  have hp : ev_prog[109]? = some ev_m109 := rfl
  have i97 : ((Int8.ofInt 97).toInt32).toInt = 97 := by decide
  have i122 : ((Int8.ofInt 122).toInt32).toInt = 122 := by decide
  have i8 : ((Int8.ofInt 8).toInt32).toInt = 8 := by decide
  have hL := hs.1
  have hL1 := hL.1
  have hD8 := hok.1.1
  have no : c.toInt < 97 ∨ 122 < c.toInt → ev_rm w t ∧ Q (.inr (307 + t.length)) m (t ++ [.inr (11, [])]) := by
    intro h
    have e : ab_type z c = (1, 0, z) := if_pos h
    rw [e] at hQ
    exact ⟨hrm, (hQ m hs (fun _ _ _ => rfl)).2 (Nat.succ_ne_zero _)⟩
  refine ⟨Or.inr ⟨0, _, rfl, rfl⟩, ev_m109, rfl, ev_gK A hp [22] 10 ?_⟩
  refine And.intro (fun (h : c.toInt < ((Int8.ofInt 97).toInt32).toInt) => no (by omega)) (fun (h : ((Int8.ofInt 97).toInt32).toInt ≤ c.toInt) => ?_)
  refine And.intro (fun (h2 : c.toInt ≤ ((Int8.ofInt 122).toInt32).toInt) => ?_) (fun (h2 : ((Int8.ofInt 122).toInt32).toInt < c.toInt) => no (by omega))
  have hn : ¬ (c.toInt < 97 ∨ 122 < c.toInt) := by omega
  refine ev_gK A hp [44] 10 ?_
  refine ev_S5 A ev_isLd ?_
  refine And.intro (fun (h3 : (m 1 1).toInt < ((Int8.ofInt 8).toInt32).toInt) => ?_) (fun (h3 : ((Int8.ofInt 8).toInt32).toInt ≤ (m 1 1).toInt) => ?_)
  · have hlt : (zD z).length < 8 := by omega
    have e : ab_type z c = (0, Int32.ofNat ((zD z).length + 1), (zD z ++ [c], z.2)) := by unfold ab_type; rw [if_neg hn, if_neg (by omega)]
    rw [e] at hQ
    have e1 : m 1 1 = Int32.ofNat (zD z).length := by apply ev_eq_of; rw [hL1, ev_ofNat_i (by omega)]
    refine ev_gK A hp [] 20 ?_
    refine ev_S9 A ev_isLd (by decide) ?_
    have e9 : ev_addL m 1 8 c = ev_up (ev_up m 2 (zD z).length c) 1 1 (Int32.ofNat ((zD z).length + 1)) := by
      unfold ev_addL
      rw [if_pos ⟨by omega, by omega⟩, e1, ev_on (by omega), ev_succ (by omega), ev_ch_nar (ab_c16_ch ⟨by omega, by omega⟩)]
    rw [e9]
    refine ev_S5 A ev_isLd ?_
    show Q (.inl (some (.int (ev_up (ev_up m 2 (zD z).length c) 1 1 (Int32.ofNat ((zD z).length + 1)) 1 1)))) _ t
    rw [ev_up_same]
    refine (hQ _ (ab_Rep_D hs hok (fun a i _ q => by rw [ev_up_cell _ (by omega), ev_up_cell _ (by omega)]) ⟨?_, fun k hk => ?_⟩) (fun a i q => by rw [ev_up_cell _ (by omega), ev_up_cell _ (by omega)])).1 rfl
    · rw [ev_up_same, ev_ofNat_i (by omega), List.length_append, List.length_singleton]
    · rw [List.length_append, List.length_singleton] at hk
      rw [ev_up_cell _ (by decide), Nat.zero_add]
      by_cases hkl : k = (zD z).length
      · rw [hkl]
        show ev_up m 2 (zD z).length c 2 (zD z).length = _
        rw [ev_up_same, List.getD_eq_getElem?_getD, List.getElem?_append_right (Nat.le_refl _), Nat.sub_self]; rfl
      · show ev_up m 2 (zD z).length c 2 k = _
        rw [ev_up_idx _ _ hkl, ab_getD_app1 (by omega)]
        have h5 := hL.2 k (by omega)
        rw [Nat.zero_add] at h5
        exact h5
  · have e : ab_type z c = (2, 0, z) := by unfold ab_type; rw [if_neg hn, if_pos (by omega)]
    rw [e] at hQ
    exact ⟨hrm, (hQ m hs (fun _ _ _ => rfl)).2 (Nat.succ_ne_zero _)⟩
/-- cut -/
theorem ev_S110 {n : Int32} (A : ev_all w) (hs : ab_RepC m z) (hok : ab_ok z) (hrm : ev_rm w t) (hQ : ab_PQ m t [11] false (ab_cut z n) Q) : ev_K w 110 [.ref 0, .int n] m t Q := by
  have hp : ev_prog[110]? = some ev_m110 := rfl
  have hL := hs.1
  have hL1 := hL.1
  have no : n.toInt < 0 ∨ ((zD z).length : Int) < n.toInt → ev_rm w t ∧ Q (.inr (307 + t.length)) m (t ++ [.inr (11, [])]) := by
    intro h
    have e : ab_cut z n = (1, 0, z) := if_pos h
    rw [e] at hQ
    exact ⟨hrm, (hQ m hs (fun _ _ _ => rfl)).2 (Nat.succ_ne_zero _)⟩
  refine ⟨Or.inr ⟨0, _, rfl, rfl⟩, ev_m110, rfl, ev_gK A hp [25] 10 ?_⟩
  refine And.intro (fun (h : n.toInt < 0) => no (by omega)) (fun (h : 0 ≤ n.toInt) => ?_)
  refine ev_S5 A ev_isLd ?_
  refine And.intro (fun (h2 : n.toInt ≤ (m 1 1).toInt) => ?_) (fun (h2 : (m 1 1).toInt < n.toInt) => no (by omega))
  have e : ab_cut z n = (0, 0, ((zD z).take n.toInt.toNat, z.2)) := if_neg (by omega)
  rw [e] at hQ
  refine ev_gK A hp [] 10 ?_
  refine ev_S7 A ev_isLd ?_
  refine (hQ _ (ab_Rep_D hs hok (fun a i _ q => by rw [ev_up_cell _ (by omega)]) ⟨?_, fun k hk => ?_⟩) (fun a i q => by rw [ev_up_cell _ (by omega)])).1 rfl
  · rw [ev_up_same, List.length_take]; omega
  · rw [List.length_take] at hk
    rw [ev_up_cell _ (by decide), ab_getD_take (by omega)]
    exact hL.2 k (by omega)
theorem ab_find_cg {p q : Nat → Bool} : ∀ (l : List Nat), (∀ a ∈ l, p a = q a) → l.find? p = l.find? q
  | [], _ => rfl
  | a :: l, h => by
    rw [List.find?_cons, List.find?_cons, h a List.mem_cons_self, ab_find_cg l (fun b hb => h b (List.mem_cons_of_mem _ hb))]
/-- marks, as they are set -/
theorem ab_marks {th : Nat → Bool} {fo : Nat → Option ab_Ls} {ps : List (Nat × Nat)} (hth : ∀ x, x < 40 → ab_th m x = th x) (hps : ∀ q ∈ ps, (q.1 < 40 ∧ th q.1 = true) ∧ (q.2 < 40 ∧ th q.2 = true)) {x : Nat} (hx : x < 40) (ht : th x = true) :
    ab_mes ps (ab_mk0 m fo 40) 204 x = ab_oi (ab_mk1 th fo x) ∧ ab_mes ps (ab_mk0 m fo 40) 205 x = ab_oi (ab_mkp th fo ps x) := by
  have k0 : ∀ c, c = 204 ∨ c = 205 → ∀ y, y < 40 → th y = true → ab_mk0 m fo 40 c y = ab_oi (ab_mk1 th fo y) := by
    intro c hc y hy hyt
    unfold ab_mk0
    rw [if_pos ⟨hc, hy, by rw [hth y hy]; exact hyt⟩]
    refine congrArg ab_oi (ab_find_cg _ (fun a ha => ?_))
    unfold ab_fa
    rw [hth a (List.mem_range.mp ha)]
  refine ⟨by rw [ab_mes_ne _ _ (by decide)]; exact k0 204 (Or.inl rfl) x hx ht, ?_⟩
  have key : ∀ (ps : List (Nat × Nat)) (mm : ev_Mem) (mk0 : Nat → Option Nat), (∀ q ∈ ps, (q.1 < 40 ∧ th q.1 = true) ∧ (q.2 < 40 ∧ th q.2 = true)) → (∀ y, y < 40 → ab_th mm y = th y) → (∀ a b, mk0 a = some b → b < 40) → (∀ y, y < 40 → th y = true → mm 205 y = ab_oi (mk0 y)) → ∀ y, y < 40 → th y = true → ab_mes ps mm 205 y = ab_oi (ps.foldl (ab_mke th) mk0 y) := by
    intro ps
    induction ps with
    | nil => intro mm mk0 _ _ _ h y hy hyt; exact h y hy hyt
    | cons q ps ih =>
      intro mm mk0 hq hmm hlt h y hy hyt
      obtain ⟨⟨q1, q1t⟩, q2, q2t⟩ := hq q List.mem_cons_self
      refine ih (ab_me mm q.1 q.2 40) (ab_mke th mk0 q) (fun r hr => hq r (List.mem_cons_of_mem _ hr)) (fun y hy => by rw [ab_me_th]; exact hmm y hy) (fun a b hab => ?_) (fun y hy hyt => ?_) y hy hyt
      · unfold ab_mke at hab
        split at hab
        · exact hlt _ _ hab
        · exact hlt _ _ hab
      · unfold ab_me ab_mke
        have hiff : (mm 205 y).toInt = (mm 205 q.1).toInt ↔ mk0 y = mk0 q.1 := by
          rw [h y hy hyt, h q.1 q1 q1t]
          exact ⟨fun e => ab_oi_inj (fun a ha => by have := hlt _ _ ha; omega) (fun a ha => by have := hlt _ _ ha; omega) e, fun e => by rw [e]⟩
        by_cases hc : mk0 y = mk0 q.1
        · rw [if_pos ⟨rfl, hy, by rw [hmm y hy]; exact hyt, hiff.mpr hc⟩, if_pos ⟨hyt, hc⟩]
          exact h q.2 q2 q2t
        · rw [if_neg (fun r => hc (hiff.mp r.2.2.2)), if_neg (fun r => hc r.2)]
          exact h y hy hyt
  exact key ps (ab_mk0 m fo 40) (ab_mk1 th fo) hps (fun y hy => by rw [ab_th_cong (fun j => ab_mk0_ne _ _ _ (by decide) (by decide) _)]; exact hth y hy) (fun a b hab => ab_mk1_lt hab) (fun y hy hyt => k0 205 (Or.inr rfl) y hy hyt) x hx ht
/-- the class's numbers, once words or rules are new -/
theorem ab_Rep_W {m m1 m' : ev_Mem} {R : List (ab_Ls × ab_Ls)} {W : Nat → List ab_Ls} {P : List (Nat × Nat)} (h : ab_RepC m z) (hok : ab_ok z) (hR : ab_RC m1 R) (hR0 : ab_R0 m1 R.length) (hW : ab_WS m1 W) (hF : ab_FO m1 (ab_fo R W)) (hP : ab_PC m1 P) (hps : ∀ q ∈ P, (q.1 < 40 ∧ ab_there W q.1 = true) ∧ (q.2 < 40 ∧ ab_there W q.2 = true))
    (h1 : ∀ c i, ¬ (5 ≤ c ∧ c ≤ 207) → m1 c i = m c i) (hL : ab_L m' 1 []) (h2 : ∀ c i, c ≠ 1 → m' c i = ab_mes P (ab_mk0 m1 (ab_fo R W) 40) c i) : ab_RepC m' ([], R, W, P, z.2.2.2.2) := by
  have h3 : ∀ c i, c ≠ 1 → c ≠ 204 → c ≠ 205 → m' c i = m1 c i := fun c i z1 z2 z3 => by rw [h2 c i z1, ab_mes_ne _ _ z3, ab_mk0_ne _ _ _ z2 z3]
  obtain ⟨c1, c2, c4, c5, c6, c8, c9, c10, c11, c12, c13, c14⟩ := h
  have hth : ∀ x, x < 40 → ab_th m1 x = ab_there W x := fun x hx => ab_th_there hW hx
  have hrest : ∀ c i, 209 ≤ c ∨ c = 0 → m' c i = m c i := fun c i hc => by rw [h3 c i (by omega) (by omega) (by omega)]; exact h1 c i (by omega)
  refine ⟨hL, ⟨ab_RC_cg (fun c i z1 z2 => h3 c i (by omega) (by omega) (by omega)) hR, ab_R0_cg (fun c i z1 z2 => h3 c i (by omega) (by omega) (by omega)) hR0⟩, ⟨fun v hv => by rw [h3 _ _ (by decide) (by decide) (by decide)]; exact hW.1 v hv, fun x hx ht => ab_L_cg (fun i => h3 _ _ (by omega) (by omega) (by omega)) (fun i => h3 _ _ (by omega) (by omega) (by omega)) (hW.2 x hx ht)⟩, fun x hx ht => ?_, ⟨fun x hx ht => ?_, fun x hx ht => ?_⟩, ab_PC_cong (fun k j hk => h3 k j (by omega) (by omega) (by omega)) hP, ab_TC_cong (fun c i z1 z2 => hrest c i (by omega)) c9, ab_O_cg (fun c i z1 z2 => hrest c i (by omega)) c10, ab_B_cg hok.2.2.2.2.2.2.1.1 (hrest _ _ (by omega)) (fun c i z1 z2 => hrest c i (by omega)) c11, ⟨by rw [hrest _ _ (by omega)]; exact c12.1, fun k hk => by rw [hrest _ _ (by omega)]; exact c12.2 k hk⟩, ab_K_cg (fun c i z1 z2 => hrest c i (by omega)) c13, ab_FA_cg (fun i => hrest _ _ (by omega)) c14⟩
  · rw [ab_th_cong (fun j => h3 _ _ (by decide) (by decide) (by decide))] at ht
    obtain ⟨a, b⟩ := hF x hx ht
    exact ⟨ab_F_cong (fun j => h3 _ _ (by omega) (by omega) (by omega)) (fun j => h3 _ _ (by omega) (by omega) (by omega)) a, b⟩
  · rw [h2 _ _ (by decide)]
    exact (ab_marks hth hps hx ht).1
  · rw [h2 _ _ (by decide)]
    exact (ab_marks hth hps hx ht).2
/-- word -/
theorem ev_S111 {x : Int32} (A : ev_all w) (hs : ab_RepC m z) (hok : ab_ok z) (hrm : ev_rm w t) (hQ : ab_PQ m t [13, 12, 11, 14] true (ab_word z x) Q) : ev_K w 111 [.ref 0, .int x] m t Q := by
  have hp : ev_prog[111]? = some ev_m111 := rfl
  have i6 : ((Int8.ofInt 6).toInt32).toInt = 6 := by decide
  have i10 : ((Int8.ofInt 10).toInt32).toInt = 10 := by decide
  obtain ⟨⟨k1, k2⟩, ⟨k3, k4⟩, k5, ⟨k6, k7⟩, ⟨k8, k9⟩, -⟩ := id hok
  obtain ⟨c1, ⟨c2, c3⟩, c4, c5, c6, c8, c9, -⟩ := id hs
  have hL1 := c1.1
  refine ⟨Or.inr ⟨0, _, rfl, rfl⟩, ev_m111, rfl, ev_gK A hp [25] 20 ?_⟩
  refine ev_S112 A hrm (fun v hv => ?_) (fun hv => ?_)
  · obtain ⟨hv4, rfl⟩ := ab_wi_some hv
    refine ev_S40 A c9 k8 ?_
    refine And.intro (fun h => ?_) (fun h => ?_)
    · have hj : zj z v = false := ab_bi_eq h
      refine ev_gK A hp [47] 10 ?_
      refine ev_S5 A ev_isLd ?_
      refine And.intro (fun (h2 : (m 1 1).toInt ≤ ((Int8.ofInt 6).toInt32).toInt) => ?_) (fun (h2 : ((Int8.ofInt 6).toInt32).toInt < (m 1 1).toInt) => ?_)
      · refine ev_gK A hp [70] 10 ?_
        refine ev_S26 A hv4 ?_
        have hc := c4.1 v hv4
        refine And.intro (fun (h3 : (m 203 v).toInt < ((Int8.ofInt 10).toInt32).toInt) => ?_) (fun (h3 : ((Int8.ofInt 10).toInt32).toInt ≤ (m 203 v).toInt) => ?_)
        · have e : ab_word z (Int32.ofNat v) = (0, Int32.ofNat ((zW z v).length + 1), ([], zR z, ab_put (zW z) v (zD z), z.2.2.2)) := by
            unfold ab_word
            rw [hv]
            simp only [hj, Bool.false_eq_true, if_false]
            rw [if_neg (by omega), if_neg (by omega)]
          rw [e] at hQ
          refine ev_gK A hp [] 30 ?_
          refine ev_S27 A hv4 (by omega) c1 (by omega) k2 c2 k4 c4 k5 c8 c5 (fun m1 f1 W1 F1 => ?_)
          refine ev_S7 A ev_isLd ?_
          refine ev_S26 A hv4 ?_
          have hWo := ab_Wok_put (v := v) k5 (by omega) (by omega : (zD z).length ≤ 6) k2
          have hrep : ab_RepC (ev_up (ab_mes (zP z) (ab_mk0 m1 (ab_fo (zR z) (ab_put (zW z) v (zD z))) 40)) 1 1 (Int32.ofInt 0)) ([], zR z, ab_put (zW z) v (zD z), zP z, z.2.2.2.2) := by
            refine ab_Rep_W hs hok (ab_RC_frw f1 c2) (fun r z1 z2 => by rw [f1 _ _ (by omega), f1 _ _ (by omega)]; exact c3 r z1 z2) W1 F1 (ab_PC_cong (fun k j hk => f1 k j (by omega)) c8) (fun q hq => ?_) (fun c i hc => f1 c i (by omega)) ⟨by rw [ev_up_same]; rfl, fun k hk => absurd hk (Nat.not_lt_zero _)⟩ (fun c i hc => ev_up_cell _ hc _ _ _)
            obtain ⟨⟨a1, a2⟩, a3, a4⟩ := k7 q hq
            exact ⟨⟨a1, (ab_put_old a2).1⟩, a3, (ab_put_old a4).1⟩
          have ecnt : ev_up (ab_mes (zP z) (ab_mk0 m1 (ab_fo (zR z) (ab_put (zW z) v (zD z))) 40)) 1 1 (Int32.ofInt 0) 203 v = Int32.ofNat ((zW z v).length + 1) := by
            have h5 := hrep.2.2.1.1 v hv4
            have h6 : zW ([], zR z, ab_put (zW z) v (zD z), zP z, z.2.2.2.2) v = zW z v ++ [zD z] := if_pos rfl
            rw [h6, List.length_append, List.length_singleton] at h5
            apply ev_eq_of
            rw [h5, ev_ofNat_i (by omega)]
          show Q (.inl (some (.int (ev_up (ab_mes (zP z) (ab_mk0 m1 (ab_fo (zR z) (ab_put (zW z) v (zD z))) 40)) 1 1 (Int32.ofInt 0) 203 v)))) _ t
          rw [ecnt]
          exact (hQ _ hrep (fun c i hc => by rw [ev_up_cell _ (by omega), ab_mes_ne _ _ (by omega), ab_mk0_ne _ _ _ (by omega) (by omega)]; exact f1 c i (by omega))).1 rfl
        · have e : ab_word z (Int32.ofNat v) = (4, 0, z) := by
            unfold ab_word
            rw [hv]
            simp only [hj, Bool.false_eq_true, if_false]
            rw [if_neg (by omega), if_pos (by omega)]
          rw [e] at hQ
          exact ⟨hrm, (hQ m hs (fun _ _ _ => rfl)).2 (Nat.succ_ne_zero _)⟩
      · have e : ab_word z (Int32.ofNat v) = (3, 0, z) := by
          unfold ab_word
          rw [hv]
          simp only [hj, Bool.false_eq_true, if_false]
          rw [if_pos (by omega)]
        rw [e] at hQ
        exact ⟨hrm, (hQ m hs (fun _ _ _ => rfl)).2 (Nat.succ_ne_zero _)⟩
    · have hj : zj z v = true := ab_bi_neq h
      have e : ab_word z (Int32.ofNat v) = (2, 0, z) := by
        unfold ab_word
        rw [hv]
        simp only [hj, if_true]
      rw [e] at hQ
      exact ⟨hrm, (hQ m hs (fun _ _ _ => rfl)).2 (Nat.succ_ne_zero _)⟩
  · have e : ab_word z x = (1, 0, z) := by unfold ab_word; rw [hv]
    rw [e] at hQ
    exact (hQ m hs (fun _ _ _ => rfl)).2 (Nat.succ_ne_zero _)
/-- rule -/
theorem ev_S113 {n : Int32} (A : ev_all w) (hs : ab_RepC m z) (hok : ab_ok z) (hrm : ev_rm w t) (hQ : ab_PQ m t [11, 14] true (ab_rule z n) Q) : ev_K w 113 [.ref 0, .int n] m t Q := by
  have hp : ev_prog[113]? = some ev_m113 := rfl
  have i1 : (Int32.ofInt 1).toInt = 1 := by decide
  have i3 : (Int32.ofInt 3).toInt = 3 := by decide
  have i2 : (Int32.ofInt 2).toInt = 2 := by decide
  have i8 : ((Int8.ofInt 8).toInt32).toInt = 8 := by decide
  obtain ⟨⟨k1, k2⟩, ⟨k3, k4⟩, k5, ⟨k6, k7⟩, ⟨k8, k9⟩, -⟩ := id hok
  obtain ⟨c1, ⟨c2, c3⟩, c4, c5, c6, c8, c9, -⟩ := id hs
  have hL1 := c1.1
  have hc2 := c2.1
  have no : (n.toInt < 1 ∨ 3 < n.toInt ∨ ((zD z).length : Int) < n.toInt ∨ n.toInt + 2 < ((zD z).length : Int)) → ev_rm w t ∧ Q (.inr (307 + t.length)) m (t ++ [.inr (11, [])]) := by
    intro h
    have e : ab_rule z n = (1, 0, z) := if_pos h
    rw [e] at hQ
    exact ⟨hrm, (hQ m hs (fun _ _ _ => rfl)).2 (Nat.succ_ne_zero _)⟩
  refine ⟨Or.inr ⟨0, _, rfl, rfl⟩, ev_m113, rfl, ev_gK A hp [44] 30 ?_⟩
  refine And.intro (fun (h : n.toInt < (Int32.ofInt 1).toInt) => no (by omega)) (fun (h : (Int32.ofInt 1).toInt ≤ n.toInt) => ?_)
  refine And.intro (fun (h : (Int32.ofInt 3).toInt < n.toInt) => no (by omega)) (fun (h2 : n.toInt ≤ (Int32.ofInt 3).toInt) => ?_)
  refine ev_S5 A ev_isLd ?_
  refine And.intro (fun (h : (m 1 1).toInt < n.toInt) => no (by omega)) (fun (h3 : n.toInt ≤ (m 1 1).toInt) => ?_)
  refine ev_S5 A ev_isLd ?_
  have en2 : (n + Int32.ofInt 2).toInt = n.toInt + 2 := by rw [ev_add_i (by omega) (by omega), i2]
  refine And.intro (fun (h4 : (m 1 1).toInt ≤ (n + Int32.ofInt 2).toInt) => ?_) (fun (h4 : (n + Int32.ofInt 2).toInt < (m 1 1).toInt) => no (by omega))
  have hn : ¬ (n.toInt < 1 ∨ 3 < n.toInt ∨ ((zD z).length : Int) < n.toInt ∨ n.toInt + 2 < ((zD z).length : Int)) := by omega
  have enn : n = Int32.ofNat n.toInt.toNat := (ev_ofNat_toNat (by omega)).symm
  obtain ⟨N, hN⟩ : ∃ N, n.toInt.toNat = N := ⟨_, rfl⟩
  rw [hN] at enn
  refine ev_gK A hp [66] 10 ?_
  refine ev_S17 A ?_
  refine And.intro (fun (h5 : (m 5 2).toInt < ((Int8.ofInt 8).toInt32).toInt) => ?_) (fun (h5 : ((Int8.ofInt 8).toInt32).toInt ≤ (m 5 2).toInt) => ?_)
  · have e : ab_rule z n = (0, Int32.ofNat ((zR z).length + 1), ([], zR z ++ [((zD z).take N, (zD z).drop N)], z.2.2)) := by unfold ab_rule; rw [if_neg hn, if_neg (by omega), hN]
    rw [e] at hQ
    refine ev_gK A hp [] 40 ?_
    show ev_K w 18 [.ref 5, .ref 1, .int n] m t _
    rw [enn]
    refine ev_S18 A c1 k2 (by omega) (by omega) (by omega) c2 c3 (by omega) (fun m1 f1 R1 R01 => ?_)
    have hRo : ab_Rok (zR z ++ [((zD z).take N, (zD z).drop N)]) := by
      intro q hq
      rcases List.mem_append.mp hq with hq | hq
      · exact k4 q hq
      · rw [List.mem_singleton] at hq
        subst hq
        refine ⟨?_, ?_, ?_, fun v hv => k2 v (List.mem_of_mem_take hv), fun v hv => k2 v (List.mem_of_mem_drop hv)⟩
        · rw [List.length_take]; omega
        · rw [List.length_take]; omega
        · rw [List.length_drop]; omega
    have W1 : ab_WS m1 (zW z) := ab_WS_cg (fun c i z1 z2 => f1 c i (by omega)) c4
    have P1 : ab_PC m1 (zP z) := ab_PC_cong (fun k j hk => f1 k j (by omega)) c8
    refine ev_S30 A R1 hRo W1 k5 P1 (fun m2 f2 F2 => ?_)
    refine ev_S7 A ev_isLd ?_
    refine ev_S17 A ?_
    have hrep : ab_RepC (ev_up (ab_mes (zP z) (ab_mk0 m2 (ab_fo (zR z ++ [((zD z).take N, (zD z).drop N)]) (zW z)) 40)) 1 1 (Int32.ofInt 0)) ([], zR z ++ [((zD z).take N, (zD z).drop N)], zW z, zP z, z.2.2.2.2) := by
      refine ab_Rep_W hs hok (ab_RC_frf f2 R1) (fun r z1 z2 => by rw [f2 _ _ (by omega), f2 _ _ (by omega)]; exact R01 r (by rw [List.length_append, List.length_singleton] at z1; exact z1) z2) (ab_WS_frf f2 W1) F2 (ab_PC_frf f2 P1) k7 (fun c i hc => by rw [f2 c i (by omega)]; exact f1 c i (by omega)) ⟨by rw [ev_up_same]; rfl, fun k hk => absurd hk (Nat.not_lt_zero _)⟩ (fun c i hc => ev_up_cell _ hc _ _ _)
    have ecnt : ev_up (ab_mes (zP z) (ab_mk0 m2 (ab_fo (zR z ++ [((zD z).take N, (zD z).drop N)]) (zW z)) 40)) 1 1 (Int32.ofInt 0) 5 2 = Int32.ofNat ((zR z).length + 1) := by
      have h5 := hrep.2.1.1.1
      apply ev_eq_of
      rw [h5, ev_ofNat_i (by omega)]
      show (((zR z ++ [((zD z).take N, (zD z).drop N)]).length : Nat) : Int) = _
      rw [List.length_append, List.length_singleton]
    show Q (.inl (some (.int (ev_up (ab_mes (zP z) (ab_mk0 m2 (ab_fo (zR z ++ [((zD z).take N, (zD z).drop N)]) (zW z)) 40)) 1 1 (Int32.ofInt 0) 5 2)))) _ t
    rw [ecnt]
    exact (hQ _ hrep (fun c i hc => by rw [ev_up_cell _ (by omega), ab_mes_ne _ _ (by omega), ab_mk0_ne _ _ _ (by omega) (by omega), f2 c i (by omega)]; exact f1 c i (by omega))).1 rfl
  · have e : ab_rule z n = (2, 0, z) := by unfold ab_rule; rw [if_neg hn, if_pos (by omega)]
    rw [e] at hQ
    exact ⟨hrm, (hQ m hs (fun _ _ _ => rfl)).2 (Nat.succ_ne_zero _)⟩
theorem ab_zthw {v k : Nat} (hok : ab_ok z) (hv : v < 4) (hk : k < (zW z v).length) : 10 * v + k < 40 ∧ zt z (10 * v + k) = true := by
  have h2 := (hok.2.2.1 v hv).1
  refine ⟨by omega, ?_⟩
  unfold zt ab_there
  rw [(by omega : (10 * v + k) / 10 = v), (by omega : (10 * v + k) % 10 = k)]
  exact decide_eq_true hk
theorem ab_zgap (hs : ab_RepC m z) {x : Nat} (hx : x < 40) (ht : zt z x = true) : decide ((m (45 + 4 * x) 1).toInt = -1) = decide (zf z x = none) := by
  obtain ⟨hF, -⟩ := hs.2.2.2.1 x hx (by rw [ab_zth hs hx]; exact ht)
  cases hfx : zf z x with
  | none =>
    rw [hfx] at hF
    have hF2 : (m (45 + 4 * x) 1).toInt = -1 := hF
    rw [decide_eq_true hF2, decide_eq_true rfl]
  | some l =>
    rw [hfx] at hF
    have hL1 : (m (45 + 4 * x) 1).toInt = (l.length : Int) := hF.1
    rw [decide_eq_false (by omega), decide_eq_false (by simp)]
/-- equate -/
theorem ev_S114 {x i y j : Int32} (A : ev_all w) (hs : ab_RepC m z) (hok : ab_ok z) (hrm : ev_rm w t) (hQ : ab_PQ m t [13, 11, 14] true (ab_equate z x i y j) Q) : ev_K w 114 [.ref 0, .int x, .int i, .int y, .int j] m t Q := by
  have hp : ev_prog[114]? = some ev_m114 := rfl
  have i6 : ((Int8.ofInt 6).toInt32).toInt = 6 := by decide
  obtain ⟨⟨k1, k2⟩, ⟨k3, k4⟩, k5, ⟨k6, k7⟩, ⟨k8, k9⟩, -⟩ := id hok
  obtain ⟨c1, ⟨c2, c3⟩, c4, c5, ⟨c6, c7⟩, c8, c9, c10, c11, c12, c13, c14⟩ := id hs
  have no1 : (∀ a b, ¬ (ab_wd z x i = some a ∧ ab_wd z y j = some b)) → Q (.inr (307 + t.length)) m (t ++ [.inr (13, [])]) := by
    intro h
    have e : ab_equate z x i y j = (1, 0, z) := by
      unfold ab_equate
      split
      · rename_i a b h1 h2
        exact absurd ⟨h1, h2⟩ (h a b)
      · rfl
    rw [e] at hQ
    exact (hQ m hs (fun _ _ _ => rfl)).2 (Nat.succ_ne_zero _)
  refine ⟨Or.inr ⟨0, _, rfl, rfl⟩, ev_m114, rfl, ev_gK A hp [13] 20 ?_⟩
  refine ev_S115 A hrm c4 (fun v k _ ex hv4 ei hk hwd => ?_) (fun hwd => no1 (fun a b q => by rw [hwd] at q; cases q.1))
  refine ev_S115 A hrm c4 (fun u l _ ey hu4 ej hl hwd2 => ?_) (fun hwd2 => no1 (fun a b q => by rw [hwd2] at q; cases q.2))
  obtain ⟨a40, at'⟩ := ab_zthw hok hv4 hk
  obtain ⟨b40, bt'⟩ := ab_zthw hok hu4 hl
  have hk10 := (k5 v hv4).1
  have hl10 := (k5 u hu4).1
  have eq0 : ab_equate z x i y j = if zf z (10 * v + k) = none ∨ zf z (10 * u + l) = none then (2, 0, z) else if 6 ≤ (zP z).length then (3, 0, z) else (0, Int32.ofNat ((zP z).length + 1), (zD z, zR z, zW z, zP z ++ [(10 * v + k, 10 * u + l)], z.2.2.2.2)) := by unfold ab_equate; rw [hwd, hwd2]
  rw [eq0] at hQ
  have no2 : zf z (10 * v + k) = none ∨ zf z (10 * u + l) = none → ev_rm w t ∧ Q (.inr (307 + t.length)) m (t ++ [.inr (11, [])]) := by
    intro h
    rw [if_pos h] at hQ
    exact ⟨hrm, (hQ m hs (fun _ _ _ => rfl)).2 (Nat.succ_ne_zero _)⟩
  subst ex ei ey ej
  show ev_J w ev_m114 (ev_nd 114) Q 13 [ev_vr 0, ev_vn v, ev_vn k, ev_vn u, ev_vn l] [] m t
  refine ev_gK A hp [54] 20 ?_
  refine ev_S106 A (by omega) (by omega) ?_
  refine ev_S21 A a40 ?_
  rw [ab_zgap hs a40 at']
  refine And.intro (fun h => no2 (Or.inl (of_decide_eq_true (ab_bi_ne h)))) (fun h => ?_)
  have hn1 := of_decide_eq_false (ab_bi_nne h)
  refine ev_S106 A (by omega) (by omega) ?_
  refine ev_S21 A b40 ?_
  rw [ab_zgap hs b40 bt']
  refine And.intro (fun h => ?_) (fun h => no2 (Or.inr (of_decide_eq_true (ab_bi_neq h))))
  have hn2 := of_decide_eq_false (ab_bi_eq h)
  rw [if_neg (fun q => q.elim hn1 hn2)] at hQ
  show ev_J w ev_m114 (ev_nd 114) Q 54 [ev_vr 0, ev_vn v, ev_vn k, ev_vn u, ev_vn l] [] m t
  refine ev_gK A hp [76] 20 ?_
  refine ev_S31 A ?_
  have hp1 := c8.1
  refine And.intro (fun (h3 : (m 40 7).toInt < ((Int8.ofInt 6).toInt32).toInt) => ?_) (fun (h3 : ((Int8.ofInt 6).toInt32).toInt ≤ (m 40 7).toInt) => ?_)
  · rw [if_neg (by omega)] at hQ
    refine ev_gK A hp [] 30 ?_
    refine ev_S106 A (by omega) (by omega) ?_
    refine ev_S106 A (by omega) (by omega) ?_
    refine ev_S32 A a40 b40 hp1 (by omega) ?_
    refine ev_S31 A ?_
    generalize hM : ev_up (ev_up (ev_up m 206 (zP z).length (Int32.ofNat (10 * v + k))) 207 (zP z).length (Int32.ofNat (10 * u + l))) 40 7 (Int32.ofNat ((zP z).length + 1)) = m1
    have g : ∀ c n, ¬ (c = 206 ∨ c = 207 ∨ c = 40) → m1 c n = m c n := fun c n hc => by rw [← hM, ev_up_cell _ (by omega), ev_up_cell _ (by omega), ev_up_cell _ (by omega)]
    have g40 : ∀ n, n ≠ 7 → m1 40 n = m 40 n := fun n hn => by rw [← hM, ev_up_idx _ _ hn, ev_up_cell _ (by decide), ev_up_cell _ (by decide)]
    have g7 : m1 40 7 = Int32.ofNat ((zP z).length + 1) := by rw [← hM, ev_up_same]
    have gth : ∀ c, ab_th m1 c = ab_th m c := ab_th_cong (fun n => g _ _ (by decide))
    have hmap : zm (zD z, zR z, zW z, zP z ++ [(10 * v + k, 10 * u + l)], z.2.2.2.2) = ab_mke (zt z) (zm z) (10 * v + k, 10 * u + l) := by
      show List.foldl (ab_mke (zt z)) (ab_mk1 (zt z) (zf z)) (zP z ++ [(10 * v + k, 10 * u + l)]) = _
      rw [List.foldl_append]
      rfl
    have hrep : ab_RepC (ab_me m1 (10 * v + k) (10 * u + l) 40) (zD z, zR z, zW z, zP z ++ [(10 * v + k, 10 * u + l)], z.2.2.2.2) := by
      have q : ∀ c n, c ≠ 205 → ¬ (c = 206 ∨ c = 207 ∨ c = 40) → ab_me m1 (10 * v + k) (10 * u + l) 40 c n = m c n := fun c n h1 h2 => by rw [ab_me_ne _ _ _ _ h1]; exact g c n h2
      refine ⟨ab_L_cg (fun n => q _ _ (by decide) (by decide)) (fun n => q _ _ (by decide) (by decide)) c1, ⟨ab_RC_cg (fun c n h1 h2 => q c n (by omega) (by omega)) c2, ab_R0_cg (fun c n h1 h2 => q c n (by omega) (by omega)) c3⟩, ⟨fun v hv => by rw [q _ _ (by decide) (by decide)]; exact c4.1 v hv, fun x hx ht => ab_L_cg (fun n => q _ _ (by omega) (by omega)) (fun n => q _ _ (by omega) (by omega)) (c4.2 x hx ht)⟩, fun x hx ht => ?_, ⟨fun x hx ht => by rw [q _ _ (by decide) (by decide)]; exact c6 x hx ht, fun x hx ht => ?_⟩, ⟨?_, ?_, fun e he => ?_⟩, ab_TC_cong (fun c n h1 h2 => q c n (by omega) (by omega)) c9, ab_O_cg (fun c n h1 h2 => q c n (by omega) (by omega)) c10, ab_B_cg hok.2.2.2.2.2.2.1.1 (q _ _ (by decide) (by decide)) (fun c n h1 h2 => q c n (by omega) (by omega)) c11, ⟨by rw [q _ _ (by decide) (by decide)]; exact c12.1, fun k hk => by rw [q _ _ (by decide) (by decide)]; exact c12.2 k hk⟩, ab_K_cg (fun c n h1 h2 => q c n (by omega) (by omega)) c13, ab_FA_cg (fun n => q _ _ (by decide) (by decide)) c14⟩
      · rw [ab_th_cong (fun n => q _ _ (by decide) (by decide))] at ht
        obtain ⟨a, b⟩ := c5 x hx ht
        exact ⟨ab_F_cong (fun n => q _ _ (by omega) (by omega)) (fun n => q _ _ (by omega) (by omega)) a, b⟩
      · rw [hmap]
        have ht' : zt z x = true := ht
        have hiff : (m1 205 x).toInt = (m1 205 (10 * v + k)).toInt ↔ zm z x = zm z (10 * v + k) := by
          rw [g _ _ (by decide), g _ _ (by decide), c7 x hx ht', c7 _ a40 at']
          exact ⟨fun e => ab_oi_inj (fun a ha => by have := zm_lt ha; omega) (fun a ha => by have := zm_lt ha; omega) e, fun e => by rw [e]⟩
        unfold ab_me ab_mke
        by_cases hc : zm z x = zm z (10 * v + k)
        · rw [if_pos ⟨rfl, hx, by rw [gth, ab_zth hs hx]; exact ht', hiff.mpr hc⟩, if_pos ⟨ht', hc⟩, g _ _ (by decide)]
          exact c7 _ b40 bt'
        · rw [if_neg (fun r => hc (hiff.mp r.2.2.2)), if_neg (fun r => hc r.2), g _ _ (by decide)]
          exact c7 x hx ht'
      · rw [ab_me_ne _ _ _ _ (by decide), g7, ev_ofNat_i (by omega)]
        show ((zP z).length + 1 : Int) = (((zP z ++ [(10 * v + k, 10 * u + l)]).length : Nat) : Int)
        rw [List.length_append, List.length_singleton]; rfl
      · show (zP z ++ [(10 * v + k, 10 * u + l)]).length ≤ 6
        rw [List.length_append, List.length_singleton]; omega
      · have he2 : e < (zP z ++ [(10 * v + k, 10 * u + l)]).length := he
        rw [List.length_append, List.length_singleton] at he2
        show ab_me m1 (10 * v + k) (10 * u + l) 40 206 e = Int32.ofNat ((zP z ++ [(10 * v + k, 10 * u + l)]).getD e (0, 0)).1 ∧ ab_me m1 (10 * v + k) (10 * u + l) 40 207 e = Int32.ofNat ((zP z ++ [(10 * v + k, 10 * u + l)]).getD e (0, 0)).2 ∧ ((zP z ++ [(10 * v + k, 10 * u + l)]).getD e (0, 0)).1 < 40 ∧ ((zP z ++ [(10 * v + k, 10 * u + l)]).getD e (0, 0)).2 < 40
        rw [ab_me_ne _ _ _ _ (by decide), ab_me_ne _ _ _ _ (by decide), List.getD_eq_getElem?_getD]
        by_cases hel : e = (zP z).length
        · rw [hel, List.getElem?_append_right (Nat.le_refl _), Nat.sub_self]
          refine ⟨?_, ?_, a40, b40⟩
          · rw [← hM, ev_up_cell _ (by decide), ev_up_cell _ (by decide), ev_up_same]; rfl
          · rw [← hM, ev_up_cell _ (by decide), ev_up_same]; rfl
        · rw [List.getElem?_append_left (by omega), ← List.getD_eq_getElem?_getD]
          obtain ⟨a, b, c, d⟩ := c8.2.2 e (by omega)
          refine ⟨?_, ?_, c, d⟩
          · rw [← hM, ev_up_cell _ (by decide), ev_up_cell _ (by decide), ev_up_idx _ _ hel]; exact a
          · rw [← hM, ev_up_cell _ (by decide), ev_up_idx _ _ hel, ev_up_cell _ (by decide)]; exact b
    show Q (.inl (some (.int (ab_me m1 (10 * v + k) (10 * u + l) 40 40 7)))) _ t
    rw [ab_me_ne _ _ _ _ (by decide), g7]
    exact (hQ _ hrep (fun c n hc => by rw [ab_me_ne _ _ _ _ (by omega)]; exact g c n (by omega))).1 rfl
  · rw [if_pos (by omega)] at hQ
    exact ⟨hrm, (hQ m hs (fun _ _ _ => rfl)).2 (Nat.succ_ne_zero _)⟩
/-- form -/
theorem ev_S116 {x i : Int32} (A : ev_all w) (hs : ab_RepC m z) (hok : ab_ok z) (hrm : ev_rm w t) (hQ : ab_PQ m t [13] true (ab_fform z x i) Q) : ev_K w 116 [.ref 0, .int x, .int i] m t Q := by
  have hp : ev_prog[116]? = some ev_m116 := rfl
  refine ⟨Or.inr ⟨0, _, rfl, rfl⟩, ev_m116, rfl, ev_gK A hp [] 20 ?_⟩
  refine ev_S115 A hrm hs.2.2.1 (fun v k _ ex hv4 ei hk hwd => ?_) (fun hwd => ?_)
  · obtain ⟨a40, at'⟩ := ab_zthw hok hv4 hk
    have hk10 := (hok.2.2.1 v hv4).1
    have e : ab_fform z x i = (0, ab_fl (zf z (10 * v + k)), z) := by unfold ab_fform; rw [hwd]
    rw [e] at hQ
    subst ex ei
    refine ev_S106 A (by omega) (by omega) ?_
    refine ev_S22 A a40 ?_
    refine ev_S5 A (ev_isLf a40) ?_
    obtain ⟨hF, -⟩ := hs.2.2.2.1 _ a40 (by rw [ab_zth hs a40]; exact at')
    have ev : m (45 + 4 * (10 * v + k)) 1 = ab_fl (zf z (10 * v + k)) := by
      cases hfx : zf z (10 * v + k) with
      | none => rw [hfx] at hF; exact ev_eq_of (hF.trans (by decide))
      | some l =>
        rw [hfx] at hF
        have hL1 : (m (45 + 4 * (10 * v + k)) 1).toInt = (l.length : Int) := hF.1
        have hl := ev_hi (m (45 + 4 * (10 * v + k)) 1)
        apply ev_eq_of
        show _ = (Int32.ofNat l.length).toInt
        rw [hL1, ev_ofNat_i (by omega)]
    show Q (.inl (some (.int (m (45 + 4 * (10 * v + k)) 1)))) m t
    rw [ev]
    exact (hQ m hs (fun _ _ _ => rfl)).1 rfl
  · have e : ab_fform z x i = (1, 0, z) := by unfold ab_fform; rw [hwd]
    rw [e] at hQ
    exact (hQ m hs (fun _ _ _ => rfl)).2 (Nat.succ_ne_zero _)
/-- distance -/
theorem ev_S117 {x i y j : Int32} (A : ev_all w) (hs : ab_RepC m z) (hok : ab_ok z) (hrm : ev_rm w t) (hQ : ab_PQ m t [13] true (ab_dist z x i y j) Q) : ev_K w 117 [.ref 0, .int x, .int i, .int y, .int j] m t Q := by
  have hp : ev_prog[117]? = some ev_m117 := rfl
  have no1 : (∀ a b, ¬ (ab_wd z x i = some a ∧ ab_wd z y j = some b)) → Q (.inr (307 + t.length)) m (t ++ [.inr (13, [])]) := by
    intro h
    have e : ab_dist z x i y j = (1, 0, z) := by
      unfold ab_dist
      split
      · rename_i a b h1 h2
        exact absurd ⟨h1, h2⟩ (h a b)
      · rfl
    rw [e] at hQ
    exact (hQ m hs (fun _ _ _ => rfl)).2 (Nat.succ_ne_zero _)
  refine ⟨Or.inr ⟨0, _, rfl, rfl⟩, ev_m117, rfl, ev_gK A hp [] 30 ?_⟩
  refine ev_S115 A hrm hs.2.2.1 (fun v k _ ex hv4 ei hk hwd => ?_) (fun hwd => no1 (fun a b q => by rw [hwd] at q; cases q.1))
  refine ev_S115 A hrm hs.2.2.1 (fun u l _ ey hu4 ej hl hwd2 => ?_) (fun hwd2 => no1 (fun a b q => by rw [hwd2] at q; cases q.2))
  obtain ⟨a40, at'⟩ := ab_zthw hok hv4 hk
  obtain ⟨b40, bt'⟩ := ab_zthw hok hu4 hl
  have hk10 := (hok.2.2.1 v hv4).1
  have hl10 := (hok.2.2.1 u hu4).1
  have e : ab_dist z x i y j = (0, Int32.ofNat (zd z (10 * v + k) (10 * u + l)), z) := by unfold ab_dist; rw [hwd, hwd2]
  rw [e] at hQ
  subst ex ei ey ej
  refine ev_S106 A (by omega) (by omega) ?_
  refine ev_S106 A (by omega) (by omega) ?_
  refine ev_S33 A a40 b40 hs.2.2.2.1 (by rw [ab_zth hs a40]; exact at') (by rw [ab_zth hs b40]; exact bt') (fun l hl => ab_zaz hok a40 at' hl) (fun l hl => ab_zaz hok b40 bt' hl) (fun m1 f1 => ?_)
  have ed := ab_zdst hs a40 b40 at' bt'
  unfold ab_dst at ed
  rw [ed]
  exact (hQ m1 (ab_Rep_0 hs hok (fun c n hc => f1 c n (by unfold ab_sc at hc; omega))) (fun c n hc => f1 c n (by omega))).1 rfl
end EvCalls
