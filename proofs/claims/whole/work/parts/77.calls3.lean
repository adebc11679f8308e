/-! the class's calls: the sheet, finds, blocks, the family -/
section EvCalls3
variable {w : ev_W} {Q : ev_QT} {m : ev_Mem} {t : ev_H} {z : ab_Z}
theorem ab_zrd (hs : ab_RepC m z) (hok : ab_ok z) {x : Option Nat} (hx : ab_okx m x) : (ab_rd (zf z) x).length ≤ 12 := by
  refine ab_rd_len (fun y hy => ?_)
  obtain ⟨h1, h2⟩ := hx y hy
  exact (hs.2.2.2.1 y h1 h2).2
theorem ab_zwr (hs : ab_RepC m z) (hok : ab_ok z) (neg : Bool) : (ab_wr (zT z) (zf z) neg (zT z).1).length ≤ 1920 := by
  have k1 := hok.2.2.2.2.1.1.1
  have hE := ab_zE hok hs
  have h := ab_wr_len (T := zT z) (fo := zf z) neg (fun p hp => ab_ent_80 neg (by omega) (ab_zrd hs hok (ab_lem_ok hE hp)) (fun v hv => ab_zrd hs hok (ab_nat_ok hE hp hv))) (zT z).1 (Nat.le_refl _)
  omega
/-- apparatus -/
theorem ev_S105 {neg : Bool} (A : ev_all w) (hs : ab_RepC m z) (hok : ab_ok z) (hQ : ab_PQ m t [] true (ab_app z neg) Q) : ev_K w 105 [.ref 0, .int (ab_bi neg)] m t Q := by
  have hp : ev_prog[105]? = some ev_m105 := rfl
  refine ⟨Or.inr ⟨0, _, rfl, rfl⟩, ev_m105, rfl, ev_gK A hp [] 20 ?_⟩
  refine ev_S60 A (ab_zE hok hs) (ab_zwr hs hok neg) (fun m1 f1 O1 => ?_)
  refine ev_S69 A ?_
  show Q (.inl (some (.int (m1 217 1)))) m1 t
  rw [O1.1]
  exact (hQ m1 (ab_Rep_O hs hok (fun c i _ q => f1 c i (by omega) (by omega)) O1) (fun c i hc => f1 c i (by omega) (by omega))).1 rfl
/-- out -/
theorem ev_S126 {k : Int32} (A : ev_all w) (hs : ab_RepC m z) (hok : ab_ok z) (hrm : ev_rm w t) (hQ : ab_PQ m t [13] true (ab_outc z k) Q) : ev_K w 126 [.ref 0, .int k] m t Q := by
  have hp : ev_prog[126]? = some ev_m126 := rfl
  have hO := hs.2.2.2.2.2.2.2.1
  have ho := hok.2.2.2.2.2.1
  refine ⟨Or.inr ⟨0, _, rfl, rfl⟩, ev_m126, rfl, ev_gK A hp [] 20 ?_⟩
  refine ev_S127 A hrm hO ho.1 (fun h => ?_) (fun h => ?_)
  · have e : ab_outc z k = (0, (zO z).getD k.toInt.toNat 0, z) := if_pos h
    rw [e] at hQ
    have ek : k = Int32.ofNat k.toInt.toNat := (ev_ofNat_toNat h.1).symm
    show ev_K w 70 [.ref 217, .int k] m t _
    rw [ek]
    refine ev_S70 (k := k.toInt.toNat) A hO ho.1 ho.2 (by omega) ?_
    exact (hQ m hs (fun _ _ _ => rfl)).1 rfl
  · have e : ab_outc z k = (1, 0, z) := if_neg h
    rw [e] at hQ
    exact (hQ m hs (fun _ _ _ => rfl)).2 (Nat.succ_ne_zero _)
/-- amend -/
theorem ev_S128 {k c : Int32} (A : ev_all w) (hs : ab_RepC m z) (hok : ab_ok z) (hrm : ev_rm w t) (hc : ab_c16 c) (hQ : ab_PQ m t [13] false (ab_amend z k c) Q) : ev_K w 128 [.ref 0, .int k, .int c] m t Q := by
  have hp : ev_prog[128]? = some ev_m128 := rfl
  have hO := hs.2.2.2.2.2.2.2.1
  have ho := hok.2.2.2.2.2.1
  refine ⟨Or.inr ⟨0, _, rfl, rfl⟩, ev_m128, rfl, ev_gK A hp [] 20 ?_⟩
  refine ev_S127 A hrm hO ho.1 (fun h => ?_) (fun h => ?_)
  · have e : ab_amend z k c = (0, 0, ab_setO z ((zO z).set k.toInt.toNat c)) := if_pos h
    rw [e] at hQ
    have ek : k = Int32.ofNat k.toInt.toNat := (ev_ofNat_toNat h.1).symm
    show ev_K w 71 [.ref 217, .int k, .int c] m t _
    rw [ek]
    refine ev_S71 (k := k.toInt.toNat) A hO ho.1 hc (by omega) (fun m1 f1 O1 => ?_)
    exact (hQ m1 (ab_Rep_O hs hok (fun c i _ q => f1 c i (by omega) (by omega)) O1) (fun c i hc => f1 c i (by omega) (by omega))).1 rfl
  · have e : ab_amend z k c = (1, 0, z) := if_neg h
    rw [e] at hQ
    exact (hQ m hs (fun _ _ _ => rfl)).2 (Nat.succ_ne_zero _)
/-- where a fault can lie -/
theorem ab_gr_le {o : ab_Ls} {js : List Nat} {sn n e : Nat} (hn : n ≤ o.length) (h : ab_gr o js sn n = .inl e) : e ≤ o.length := by
  unfold ab_gr at h
  split at h
  · rename_i q
    have := ab_is_lt q
    split at h
    · cases h; omega
    · rename_i n2 hr
      have h2 := (ab_rr_le hr).1
      split at h
      · rename_i q2
        have := ab_is_lt q2
        split at h
        · cases h; omega
        · cases h
      · cases h; omega
  · cases h; exact hn
theorem ab_gr_r {o : ab_Ls} {js : List Nat} {sn n n4 h a : Nat} (hg : ab_gr o js sn n = .inr (n4, h, a)) : n4 ≤ o.length := by
  unfold ab_gr at hg
  split at hg
  · split at hg
    · cases hg
    · split at hg
      · rename_i q2
        have hq := ab_is_lt q2
        split at hg
        · cases hg
        · rename_i d hh hw
          cases hg
          unfold ab_wt at hw
          split at hw
          · cases hw
          · rename_i n2 _ _ hd0
            rw [Option.map_eq_some_iff] at hw
            obtain ⟨x, -, hx⟩ := hw
            cases hx
            have := (ab_run_in o 65 90 4 (n2 + 1) (ab_run o (n2 + 1) 65 90 4 - 1) (by omega)).1
            omega
      · cases hg
  · cases hg
theorem ab_gs_le {o : ab_Ls} {js : List Nat} {v : Nat} : ∀ (g n sn : Nat) (rp : Option Nat), n ≤ o.length → (∀ e, ab_gs o js v g n sn rp = .inl e → e ≤ o.length) ∧ (∀ n3 r, ab_gs o js v g n sn rp = .inr (n3, r) → n3 ≤ o.length)
  | 0, n, _, _, hn => by
    rw [ab_gs]
    exact ⟨fun e h => by cases h; exact hn, fun n3 r h => by cases h⟩
  | g + 1, n, sn, rp, hn => by
    rw [ab_gs]
    split
    · rename_i e hg
      exact ⟨fun e' h => by cases h; exact ab_gr_le hn hg, fun n3 r h => by cases h⟩
    · rename_i n4 hh a hg
      have hn4 := ab_gr_r hg
      split
      · rename_i q
        have := ab_is_lt q
        exact ⟨fun e h => (by cases h), fun n3 r h => (by cases h; omega)⟩
      · split
        · rename_i q
          exact ab_gs_le g (n4 + 1) _ _ (ab_is_lt q)
        · exact ⟨fun e h => by cases h; exact hn4, fun n3 r h => by cases h⟩
theorem ab_en_le {o : ab_Ls} {T : ab_T} {fo : Nat → Option ab_Ls} {v pm n : Nat} (hn : n ≤ o.length) : (∀ e, ab_en o T fo v pm n = .inl e → e ≤ o.length) ∧ (∀ n3 q rp, ab_en o T fo v pm n = .inr (n3, q, rp) → n3 ≤ o.length ∧ pm ≤ q ∧ q < T.1) := by
  unfold ab_en
  split
  · exact ⟨fun e h => by cases h; exact hn, fun n3 q rp h => by cases h⟩
  · rename_i d q hpl
    obtain ⟨b1, b2, b3, b4⟩ := ab_pl_some hpl
    split
    · rename_i q1
      have := ab_is_lt q1
      split
      · exact ⟨fun e h => by cases h; omega, fun n3 q rp h => by cases h⟩
      · rename_i n2 hlm
        have h2 := (ab_lm_some hlm).1
        split
        · rename_i q2
          have h5 := ab_gs_le (o := o) (js := T.2.2.2.1) (v := v) 5 (n2 + 1) 0 none (ab_is_lt q2)
          split
          · rename_i e hg
            exact ⟨fun e' h => by cases h; exact h5.1 e hg, fun n3 q rp h => by cases h⟩
          · rename_i n3 rp hg
            exact ⟨fun e h => (by cases h), fun n3' q' rp' h => by cases h; exact ⟨h5.2 _ _ hg, b3, b4⟩⟩
        · exact ⟨fun e h => by cases h; exact h2, fun n3 q rp h => by cases h⟩
    · exact ⟨fun e h => by cases h; exact b1, fun n3 q rp h => by cases h⟩
theorem ab_es_le {o : ab_Ls} {T : ab_T} {fo : Nat → Option ab_Ls} {v : Nat} : ∀ (e n pm : Nat) (R : Nat → Option Nat), n ≤ o.length → ∀ q, ab_es o T fo v e n pm R = .inl q → q ≤ o.length
  | 0, _, _, _, _, q, h => by rw [ab_es] at h; cases h
  | e + 1, n, pm, R, hn, q, h => by
    rw [ab_es] at h
    have h1 := ab_en_le (o := o) (T := T) (fo := fo) (v := v) (pm := pm) hn
    split at h
    · split at h
      · rename_i q' hen
        cases h
        exact h1.1 _ hen
      · rename_i n3 q' rp hen
        exact ab_es_le e n3 _ _ (h1.2 _ _ _ hen).1 q h
    · cases h
/-- rebuild -/
theorem ev_S129 {x : Int32} (A : ev_all w) (hs : ab_RepC m z) (hok : ab_ok z) (hrm : ev_rm w t) (hQ : ab_PQ m t [13, 12] true (ab_rebuild z x) Q) : ev_K w 129 [.ref 0, .int x] m t Q := by
  have hp : ev_prog[129]? = some ev_m129 := rfl
  have em1 := ev_im1
  have hO := hs.2.2.2.2.2.2.2.1
  have ho := hok.2.2.2.2.2.1
  have hlen := ho.1
  have k1 := hok.2.2.2.2.1.1.1
  refine ⟨Or.inr ⟨0, _, rfl, rfl⟩, ev_m129, rfl, ev_gK A hp [30] 30 ?_⟩
  refine ev_S112 A hrm (fun v hv => ?_) (fun hv => ?_)
  · obtain ⟨hv4, rfl⟩ := ab_wi_some hv
    refine ev_S124 A hrm hs.2.2.2.2.2.2.1 hok.2.2.2.2.1.1 (fun hj => ?_) (fun hj => ?_)
    · refine ev_S75 A (ab_zE hok hs) hO ho hv4 (fun e he m1 f1 => ?_) (fun R hR m1 f1 B1 => ?_)
      · have e0 : ab_rebuild z (Int32.ofNat v) = (0, Int32.ofInt (-100 - (e : Int)), z) := by unfold ab_rebuild; rw [hv]; simp only [hj, if_true, he]
        rw [e0] at hQ
        have hel := ab_es_le 25 0 0 _ (by omega) e he
        have ee := ev_ofNat_i (n := e) (by omega)
        show ev_J w ev_m129 (ev_nd 129) Q 30 [ev_vr 0, ev_vn v, ev_vn e] [] m1 t
        refine ev_gK A hp [] 10 ?_
        refine And.intro (fun _ => ?_) (fun (h : (Int32.ofNat e).toInt = (Int32.ofInt (-1)).toInt) => by omega)
        have i100 : ((Int8.ofInt (-100)).toInt32).toInt = -100 := by decide
        have e2 : (Int8.ofInt (-100)).toInt32 - Int32.ofNat e = Int32.ofInt (-100 - (e : Int)) := by
          apply ev_eq_of
          rw [ev_sub_i (by omega) (by omega), i100, ee, ev_ofInt_i (by omega) (by omega)]
        show Q (.inl (some (.int ((Int8.ofInt (-100)).toInt32 - Int32.ofNat e)))) m1 t
        rw [e2]
        exact (hQ m1 (ab_Rep_0 hs hok (fun c i hc => f1 c i (by unfold ab_sc at hc; omega) (by unfold ab_sc at hc; omega))) (fun c i hc => f1 c i (by omega) (by omega))).1 rfl
      · have e0 : ab_rebuild z (Int32.ofNat v) = (0, Int32.ofNat (ab_bl (zO z) (zT z) (zf z) R (zT z).1).length, (zD z, zR z, zW z, zP z, zT z, zO z, ab_bl (zO z) (zT z) (zf z) R (zT z).1, z.2.2.2.2.2.2.2)) := by unfold ab_rebuild; rw [hv]; simp only [hj, if_true, hR]
        rw [e0] at hQ
        show ev_J w ev_m129 (ev_nd 129) Q 30 [ev_vr 0, ev_vn v, ev_vi (-1)] [] m1 t
        refine ev_gK A hp [] 10 ?_
        refine And.intro (fun (h : ¬ (-1 : Int32).toInt = (-1 : Int32).toInt) => absurd rfl h) (fun _ => ?_)
        refine ev_S86 A ?_
        show Q (.inl (some (.int (m1 219 1)))) m1 t
        rw [B1.1]
        refine (hQ m1 (ab_Rep_B hs (fun c i q1 q2 => f1 c i (by unfold ab_sc at q1; omega)) B1) (fun c i hc => f1 c i (by omega))).1 rfl
    · have e0 : ab_rebuild z (Int32.ofNat v) = (2, 0, z) := by unfold ab_rebuild; rw [hv]; simp only [hj, Bool.false_eq_true, if_false]
      rw [e0] at hQ
      exact (hQ m hs (fun _ _ _ => rfl)).2 (Nat.succ_ne_zero _)
  · have e0 : ab_rebuild z x = (1, 0, z) := by unfold ab_rebuild; rw [hv]
    rw [e0] at hQ
    exact (hQ m hs (fun _ _ _ => rfl)).2 (Nat.succ_ne_zero _)
/-- built -/
theorem ev_S107 {i k : Int32} (A : ev_all w) (hs : ab_RepC m z) (hok : ab_ok z) (hQ : ab_PQ m t [] true (ab_built z i k) Q) : ev_K w 107 [.ref 0, .int i, .int k] m t Q := by
  have hp : ev_prog[107]? = some ev_m107 := rfl
  refine ⟨Or.inr ⟨0, _, rfl, rfl⟩, ev_m107, rfl, ev_gK A hp [] 20 ?_⟩
  refine ev_S74 A hs.2.2.2.2.2.2.2.2.1 hok.2.2.2.2.2.2.1 ?_
  exact (hQ m hs (fun _ _ _ => rfl)).1 rfl
/-- found -/
theorem ev_S130 {i : Int32} (A : ev_all w) (hs : ab_RepC m z) (hok : ab_ok z) (hrm : ev_rm w t) (hQ : ab_PQ m t [13] true (ab_found z i) Q) : ev_K w 130 [.ref 0, .int i] m t Q := by
  have hp : ev_prog[130]? = some ev_m130 := rfl
  obtain ⟨f1, f2⟩ := hs.2.2.2.2.2.2.2.2.2.1
  have hl := hok.2.2.2.2.2.2.2.1
  have e1 := ev_toI f1 (by omega)
  have no : ¬ (0 ≤ i.toInt ∧ i.toInt < ((zF z).length : Int)) → ev_rm w t ∧ Q (.inr (307 + t.length)) m (t ++ [.inr (13, [])]) := by
    intro h
    have e : ab_found z i = (1, 0, z) := if_neg h
    rw [e] at hQ
    exact ⟨hrm, (hQ m hs (fun _ _ _ => rfl)).2 (Nat.succ_ne_zero _)⟩
  refine ⟨Or.inr ⟨0, _, rfl, rfl⟩, ev_m130, rfl, ev_gK A hp [23] 20 ?_⟩
  refine And.intro (fun (h : i.toInt < 0) => no (by omega)) (fun (h : 0 ≤ i.toInt) => ?_)
  refine And.intro (fun (h2 : i.toInt < (m 0 9).toInt) => ?_) (fun (h2 : (m 0 9).toInt ≤ i.toInt) => no (by omega))
  have e : ab_found z i = (0, Int32.ofNat ((zF z).getD i.toInt.toNat 0), z) := if_pos (by omega)
  rw [e] at hQ
  refine ev_gK A hp [] 10 ?_
  refine And.intro ⟨h, by omega⟩ ?_
  show Q (.inl (some (.int (m 270 i.toInt.toNat)))) m t
  rw [f2 _ (by omega)]
  exact (hQ m hs (fun _ _ _ => rfl)).1 rfl
/-- blocks -/
theorem ev_S131 {x y : Int32} (A : ev_all w) (hs : ab_RepC m z) (hok : ab_ok z) (hrm : ev_rm w t) (hQ : ab_PQ m t [13, 11, 12] true (ab_blocks z x y) Q) : ev_K w 131 [.ref 0, .int x, .int y] m t Q := by
  have hp : ev_prog[131]? = some ev_m131 := rfl
  refine ⟨Or.inr ⟨0, _, rfl, rfl⟩, ev_m131, rfl, ev_gK A hp [24] 30 ?_⟩
  refine ev_S112 A hrm (fun u hu => ?_) (fun hu => ?_)
  · obtain ⟨hu4, rfl⟩ := ab_wi_some hu
    refine ev_S112 A hrm (fun v hv => ?_) (fun hv => ?_)
    · obtain ⟨hv4, rfl⟩ := ab_wi_some hv
      have eu := ev_ofNat_i (n := u) (by omega)
      have ev := ev_ofNat_i (n := v) (by omega)
      have e0 : ab_blocks z (Int32.ofNat u) (Int32.ofNat v) = if u = v then (2, 0, z) else if zj z u = true ∧ zj z v = true then (0, Int32.ofNat (zb z u v).length, (zD z, zR z, zW z, zP z, zT z, zO z, zB z, zF z, zb z u v, zA z)) else (3, 0, z) := by unfold ab_blocks; rw [hu, hv]
      rw [e0] at hQ
      refine And.intro (fun (h : ¬ (Int32.ofNat u).toInt = (Int32.ofNat v).toInt) => ?_) (fun (h : (Int32.ofNat u).toInt = (Int32.ofNat v).toInt) => ?_)
      · rw [if_neg (by omega)] at hQ
        have no : ¬ (zj z u = true ∧ zj z v = true) → Q (.inr (307 + t.length)) m (t ++ [.inr (12, [])]) := by
          intro h
          rw [if_neg h] at hQ
          exact (hQ m hs (fun _ _ _ => rfl)).2 (Nat.succ_ne_zero _)
        show ev_J w ev_m131 (ev_nd 131) Q 24 [ev_vr 0, ev_vn u, ev_vn v] [] m t
        refine ev_gK A hp [] 30 ?_
        refine ev_S124 A hrm hs.2.2.2.2.2.2.1 hok.2.2.2.2.1.1 (fun hj => ?_) (fun hj => no (fun q => by rw [hj] at q; cases q.1))
        refine ev_S124 A hrm hs.2.2.2.2.2.2.1 hok.2.2.2.2.1.1 (fun hj2 => ?_) (fun hj2 => no (fun q => by rw [hj2] at q; cases q.2))
        rw [if_pos ⟨hj, hj2⟩] at hQ
        have hfun : (fun i j => ab_mv (zT z) (ab_th m) (zf z) (zq z) (10 * u + i) (10 * v + j)) = (fun i j => ab_mv (zT z) (ab_th m) (zf z) (zq z) (10 * u + i) (10 * v + j)) := rfl
        refine ev_S88 A (ab_zE hok hs) (ab_zEQ hs) hu4 hv4 (hs.2.2.1.1 u hu4) (hs.2.2.1.1 v hv4) (hok.2.2.1 u hu4).1 (hok.2.2.1 v hv4).1 (fun m1 f1 K1 => ?_)
        have hbk : ab_bks (fun i j => ab_mv (zT z) (ab_th m) (zf z) (zq z) (10 * u + i) (10 * v + j)) (zW z v).length (zW z u).length = zb z u v := by
          unfold zb
          have key : ∀ i j, i < 10 → j < 10 → ab_mv (zT z) (ab_th m) (zf z) (zq z) (10 * u + i) (10 * v + j) = ab_mv (zT z) (zt z) (zf z) (zq z) (10 * u + i) (10 * v + j) := by
            intro i j hi hj
            unfold ab_mv
            rw [ab_zth hs (by omega), ab_zth hs (by omega)]
          have cnt : ∀ (f g : Nat → Nat → Bool), (∀ i j, i < 10 → j < 10 → f i j = g i j) → ∀ i j, i < 10 → j < 10 → ab_run2 f i j = ab_run2 g i j := by
            intro f g hfg i j hi hj
            unfold ab_run2
            have k2 : ∀ n k, k + n ≤ 10 - max i j → ab_cnt (fun n => f (i + n) (j + n)) n k = ab_cnt (fun n => g (i + n) (j + n)) n k := by
              intro n
              induction n with
              | zero => intro k _; rfl
              | succ n ih =>
                intro k hk
                rw [ab_cnt, ab_cnt, hfg (i + k) (j + k) (by omega) (by omega), ih (k + 1) (by omega)]
            exact k2 _ 0 (by omega)
          have bj : ∀ (f g : Nat → Nat → Bool), (∀ i j, i < 10 → j < 10 → f i j = g i j) → ∀ i, i < 10 → ∀ c, c ≤ 10 → ab_bj f i c = ab_bj g i c := by
            intro f g hfg i hi c
            induction c with
            | zero => intro _; rfl
            | succ c ih =>
              intro hc
              rw [ab_bj, ab_bj, ih (by omega)]
              unfold ab_bc ab_st
              rw [cnt f g hfg i c hi (by omega), hfg (i - 1) (c - 1) (by omega) (by omega)]
          have bk : ∀ (f g : Nat → Nat → Bool), (∀ i j, i < 10 → j < 10 → f i j = g i j) → ∀ c, c ≤ 10 → ∀ n, n ≤ 10 → ab_bks f c n = ab_bks g c n := by
            intro f g hfg c hc n
            induction n with
            | zero => intro _; rfl
            | succ n ih =>
              intro hn
              rw [ab_bks, ab_bks, ih (by omega), bj f g hfg n (by omega) c hc]
          exact bk _ _ key _ (hok.2.2.1 v hv4).1 _ (hok.2.2.1 u hu4).1
        rw [hbk] at K1 ⊢
        exact (hQ m1 (ab_Rep_K hs hok (fun c i _ q => f1 c i (by omega) (by omega)) K1) (fun c i hc => f1 c i (by omega) (by omega))).1 rfl
      · rw [if_pos (by omega)] at hQ
        exact ⟨hrm, (hQ m hs (fun _ _ _ => rfl)).2 (Nat.succ_ne_zero _)⟩
    · have e : ab_blocks z (Int32.ofNat u) y = (1, 0, z) := by unfold ab_blocks; rw [hv]; split <;> first | rfl | (rename_i h1 h2; cases h2)
      rw [e] at hQ
      exact (hQ m hs (fun _ _ _ => rfl)).2 (Nat.succ_ne_zero _)
  · have e : ab_blocks z x y = (1, 0, z) := by unfold ab_blocks; rw [hu]
    rw [e] at hQ
    exact (hQ m hs (fun _ _ _ => rfl)).2 (Nat.succ_ne_zero _)
/-- block -/
theorem ev_S132 {k c : Int32} (A : ev_all w) (hs : ab_RepC m z) (hok : ab_ok z) (hrm : ev_rm w t) (hQ : ab_PQ m t [13] true (ab_block z k c) Q) : ev_K w 132 [.ref 0, .int k, .int c] m t Q := by
  have hp : ev_prog[132]? = some ev_m132 := rfl
  have hK := hs.2.2.2.2.2.2.2.2.2.2.1
  have hl := hok.2.2.2.2.2.2.2.2.1
  have e1 := ev_toI hK.1 (by omega)
  have i3 : (Int32.ofInt 3).toInt = 3 := by decide
  have no : ¬ ((0 ≤ k.toInt ∧ k.toInt < ((zK z).length : Int)) ∧ 0 ≤ c.toInt ∧ c.toInt < 3) → ev_rm w t ∧ Q (.inr (307 + t.length)) m (t ++ [.inr (13, [])]) := by
    intro h
    have e : ab_block z k c = (1, 0, z) := if_neg h
    rw [e] at hQ
    exact ⟨hrm, (hQ m hs (fun _ _ _ => rfl)).2 (Nat.succ_ne_zero _)⟩
  refine ⟨Or.inr ⟨0, _, rfl, rfl⟩, ev_m132, rfl, ev_gK A hp [35] 20 ?_⟩
  refine And.intro (fun (h : k.toInt < 0) => no (by omega)) (fun (h : 0 ≤ k.toInt) => ?_)
  refine ev_S92 A ?_
  refine And.intro (fun (h2 : (m 271 1).toInt ≤ k.toInt) => no (by omega)) (fun (h2 : k.toInt < (m 271 1).toInt) => ?_)
  refine And.intro (fun (h3 : c.toInt < 0) => no (by omega)) (fun (h3 : 0 ≤ c.toInt) => ?_)
  refine And.intro (fun (h4 : c.toInt < (Int32.ofInt 3).toInt) => ?_) (fun (h4 : (Int32.ofInt 3).toInt ≤ c.toInt) => no (by omega))
  have e : ab_block z k c = (0, Int32.ofNat (ab_bf ((zK z).getD k.toInt.toNat (0, 0, 0)) c.toInt.toNat), z) := if_pos (by omega)
  rw [e] at hQ
  have ek : k = Int32.ofNat k.toInt.toNat := (ev_ofNat_toNat h).symm
  have ec : c = Int32.ofNat c.toInt.toNat := (ev_ofNat_toNat h3).symm
  obtain ⟨K, hKk⟩ : ∃ K, k.toInt.toNat = K := ⟨_, rfl⟩
  obtain ⟨C, hC⟩ : ∃ C, c.toInt.toNat = C := ⟨_, rfl⟩
  rw [hKk] at ek hQ
  rw [hC] at ec hQ
  have hKl : K < (zK z).length := by omega
  have hC3 : C < 3 := by omega
  subst ek ec
  refine ev_gK A hp [] 10 ?_
  refine ev_S93 A (by omega) hC3 ?_
  obtain ⟨a1, a2, a3⟩ := hK.2 K hKl
  have ev : m 272 (3 * K + C) = Int32.ofNat (ab_bf ((zK z).getD K (0, 0, 0)) C) := by
    match C, hC3 with
    | 0, _ => exact a1
    | 1, _ => exact a2
    | 2, _ => exact a3
  show Q (.inl (some (.int (m 272 (3 * K + C))))) m t
  rw [ev]
  exact (hQ m hs (fun _ _ _ => rfl)).1 rfl
/-- parent -/
theorem ev_S133 {x y : Int32} (A : ev_all w) (hs : ab_RepC m z) (hok : ab_ok z) (hrm : ev_rm w t) (hQ : ab_PQ m t [13, 12] false (ab_parent z x y) Q) : ev_K w 133 [.ref 0, .int x, .int y] m t Q := by
  have hp : ev_prog[133]? = some ev_m133 := rfl
  have em1 := ev_im1
  have hA := hs.2.2.2.2.2.2.2.2.2.2.2
  have hPA := hok.2.2.2.2.2.2.2.2.2.1
  refine ⟨Or.inr ⟨0, _, rfl, rfl⟩, ev_m133, rfl, ev_gK A hp [9, 36] 20 ?_⟩
  refine ev_S112 A hrm (fun u hu => ?_) (fun hu => ?_)
  · obtain ⟨hu4, rfl⟩ := ab_wi_some hu
    have h36 : ∀ b : Option Nat, y = ab_oi b → ab_parent z (Int32.ofNat u) y = (0, 0, ab_setA z u b) → ev_J w ev_m133 (ev_nd 133) Q 36 [ev_vr 0, ev_vn u, ev_vi y] [] m t := by
      intro b hy e
      rw [e] at hQ
      refine ev_gK A hp [] 10 ?_
      refine ev_S96 A hu4 ?_
      refine (hQ _ (ab_Rep_A hs hok (fun c i _ q => by rw [ev_up_cell _ q]) (fun a ha => ?_)) (fun c i hc => by rw [ev_up_cell _ (by omega)])).1 rfl
      show _ = ab_oi (if a = u then b else zA z a)
      by_cases hau : a = u
      · rw [hau, ev_up_same, if_pos rfl]; exact hy
      · rw [ev_up_idx _ _ hau, if_neg hau]; exact hA a ha
    refine And.intro (fun (h : y.toInt = (Int32.ofInt (-1)).toInt) => ?_) (fun (h : ¬ y.toInt = (Int32.ofInt (-1)).toInt) => ?_)
    · exact h36 none (ev_eq_of h) (by unfold ab_parent; rw [hu]; exact if_pos (by omega))
    · have hne : ¬ y.toInt = -1 := by omega
      refine ev_gK A hp [36] 20 ?_
      refine ev_S112 A hrm (fun v hv => ?_) (fun hv => ?_)
      · obtain ⟨hv4, rfl⟩ := ab_wi_some hv
        refine ev_S95 A hA hPA hv4 hu4 ?_
        refine And.intro (fun h => ?_) (fun h => ?_)
        · have hb := ab_bi_eq h
          exact h36 (some v) rfl (by unfold ab_parent; rw [hu]; simp only []; rw [if_neg hne, hv]; simp only [hb, Bool.false_eq_true, if_false])
        · have hb := ab_bi_neq h
          have e : ab_parent z (Int32.ofNat u) (Int32.ofNat v) = (2, 0, z) := by unfold ab_parent; rw [hu]; simp only []; rw [if_neg hne, hv]; simp only [hb, if_true]
          rw [e] at hQ
          exact ⟨hrm, (hQ m hs (fun _ _ _ => rfl)).2 (Nat.succ_ne_zero _)⟩
      · have e : ab_parent z (Int32.ofNat u) y = (1, 0, z) := by unfold ab_parent; rw [hu]; simp only []; rw [if_neg hne, hv]
        rw [e] at hQ
        exact (hQ m hs (fun _ _ _ => rfl)).2 (Nat.succ_ne_zero _)
  · have e : ab_parent z x y = (1, 0, z) := by unfold ab_parent; rw [hu]
    rw [e] at hQ
    exact (hQ m hs (fun _ _ _ => rfl)).2 (Nat.succ_ne_zero _)
/-- changes -/
theorem ev_S134 {x : Int32} (A : ev_all w) (hs : ab_RepC m z) (hok : ab_ok z) (hrm : ev_rm w t) (hQ : ab_PQ m t [13] true (ab_changes z x) Q) : ev_K w 134 [.ref 0, .int x] m t Q := by
  have hp : ev_prog[134]? = some ev_m134 := rfl
  have em1 := ev_im1
  have hPA := hok.2.2.2.2.2.2.2.2.2.1
  have k1 := hok.2.2.2.2.1.1.1
  refine ⟨Or.inr ⟨0, _, rfl, rfl⟩, ev_m134, rfl, ev_gK A hp [5, 27] 10 ?_⟩
  refine And.intro (fun (h : x.toInt = (Int32.ofInt (-1)).toInt) => ?_) (fun (h : ¬ x.toInt = (Int32.ofInt (-1)).toInt) => ?_)
  · have e : ab_changes z x = (0, Int32.ofNat (zc z (zT z).1), z) := if_pos (by omega)
    rw [e] at hQ
    have loop := ev_lup (P := fun p => ∀ (pp ss : Int32) (mk : ev_Mem), pp = Int32.ofNat p → ss = Int32.ofNat (zc z p) → zc z p ≤ p * 200000000 → (∀ c i, c ≠ 275 → c ≠ 276 → mk c i = m c i) → (p ≤ 10 ∨ True) → ev_J w ev_m134 (ev_nd 134) Q 31 [ev_vr 0, ev_vi x, ev_vi ss, ev_vi pp] [] mk t) (zT z).1 (by
      intro p hpT ih pp ss mk epp ess hb fk _
      subst epp
      have ep := ev_ofNat_i (n := p) (by omega)
      have hsk := ab_Rep_0 hs hok (fun c i hc => fk c i (by unfold ab_sc at hc; omega) (by unfold ab_sc at hc; omega))
      have t1 := hsk.2.2.2.2.2.2.1.1
      refine ev_gK A hp [31] 30 ?_
      refine ev_S36 A ?_
      refine And.intro (fun (h2 : (mk 209 2).toInt ≤ (Int32.ofNat p).toInt) => ?_) (fun (h2 : (Int32.ofNat p).toInt < (mk 209 2).toInt) => ?_)
      · have ep2 : p = (zT z).1 := by omega
        rw [ess, ep2]
        exact (hQ mk hsk (fun c i hc => fk c i (by omega) (by omega))).1 rfl
      · have hlt : p < (zT z).1 := by omega
        refine ev_S97 A (ab_zE hok hsk) (ab_zEQ hsk) hlt hsk.2.2.2.2.2.2.2.2.2.2.2 hPA (fun m1 f1 hl => ?_)
        refine ih hlt _ _ m1 (ev_succ (by omega)) ?_ ?_ (fun c i z1 z2 => (f1 c i z1 z2).trans (fk c i z1 z2)) (Or.inr trivial)
        · rw [ess]
          have hzr : zc z (p + 1) = zc z p + ab_lc (zA z) (zr z p) := rfl
          rw [hzr]
          exact (Int32.ofNat_add _ _).symm
        · show zc z p + ab_lc (zA z) (zr z p) ≤ (p + 1) * 200000000
          have hl2 : ab_lc (zA z) (zr z p) < 200000000 := hl
          rw [Nat.succ_mul]
          omega)
    refine ev_gK A hp [31] 10 ?_
    exact loop 0 (by omega) _ _ m rfl rfl (Nat.le_refl _) (fun _ _ _ _ => rfl) (Or.inr trivial)
  · have hne : ¬ x.toInt = -1 := by omega
    refine ev_gK A hp [] 30 ?_
    refine ev_S121 A hrm hs.2.2.2.2.2.2.1 (fun p ep hpT hpi => ?_) (fun hpi => ?_)
    · have e : ab_changes z x = (0, Int32.ofNat (ab_lc (zA z) (zr z p)), z) := by unfold ab_changes; rw [if_neg hne, hpi]
      rw [e] at hQ
      subst ep
      refine ev_S97 A (ab_zE hok hs) (ab_zEQ hs) hpT hs.2.2.2.2.2.2.2.2.2.2.2 hPA (fun m1 f1 hl => ?_)
      exact (hQ m1 (ab_Rep_0 hs hok (fun c i hc => f1 c i (by unfold ab_sc at hc; omega) (by unfold ab_sc at hc; omega))) (fun c i hc => f1 c i (by omega) (by omega))).1 rfl
    · have e : ab_changes z x = (1, 0, z) := by unfold ab_changes; rw [if_neg hne, hpi]
      rw [e] at hQ
      exact (hQ m hs (fun _ _ _ => rfl)).2 (Nat.succ_ne_zero _)
/-- concord -/
theorem ev_S108 (A : ev_all w) (hs : ab_RepC m z) (hok : ab_ok z) (hQ : ab_PQ m t [] true (ab_concord z) Q) : ev_K w 108 [.ref 0] m t Q := by
  have hp : ev_prog[108]? = some ev_m108 := rfl
  have em1 := ev_im1
  obtain ⟨⟨k1, k2⟩, ⟨k3, k4⟩, k5, -⟩ := id hok
  have e40 : ((Int8.ofInt 40).toInt32).toInt = 40 := by decide
  refine ⟨Or.inr ⟨0, _, rfl, rfl⟩, ev_m108, rfl, ev_gK A hp [] 10 ?_⟩
  have hu : ∀ c i, ¬ (c = 0 ∧ i = 9) → ev_up m 0 9 (Int32.ofInt 0) c i = m c i := fun c i h => if_neg h
  have hL0 : ab_L (ev_up m 0 9 (Int32.ofInt 0)) 1 (zD z) := ab_L_cg (fun i => hu _ _ (by omega)) (fun i => hu _ _ (by omega)) hs.1
  have hR0 : ab_RC (ev_up m 0 9 (Int32.ofInt 0)) (zR z) := ab_RC_cg (fun c i h1 h2 => hu _ _ (by omega)) hs.2.1.1
  refine ev_S15 A hR0 k4 ev_isLd ev_isLe (by decide) (Or.inl rfl) (by decide) (by decide) hL0 k2 k1 (by omega) (fun m1 F1 f1 => ?_)
  have g1 : ∀ c i, c ≠ 3 → c ≠ 4 → ¬ (c = 0 ∧ i = 9) → m1 c i = m c i := fun c i z1 z2 z3 => by rw [f1 c i z1 z2]; exact hu c i z3
  have z9 : m1 0 9 = Int32.ofNat 0 := by rw [f1 _ _ (by decide) (by decide)]; exact ev_up_same _ _ _ _
  have hFO : ab_FO m1 (zf z) := ab_FO_cg (fun c i h1 h2 => g1 _ _ (by omega) (by omega) (by omega)) hs.2.2.2.1
  have hth : ∀ x, x < 40 → ab_th m1 x = zt z x := fun x hx => by rw [ab_th_cong (fun j => g1 _ _ (by decide) (by decide) (by omega))]; exact ab_zth hs hx
  have F1' : ab_F m1 3 (ab_dfo z) := F1
  have hol : ab_ol (ab_dfo z) ≤ 16 := by
    unfold ab_dfo
    split
    · exact Nat.zero_le _
    · have h2 := ab_br_len k4 (zD z) (zD z).length 0
      show (ab_br (zR z) (zD z) (zD z).length 0).length ≤ 16
      omega
  show ev_J w ev_m108 (ev_nd 108) Q 20 [ev_vr 0, none, none] [] m1 t
  refine ev_gK A hp [32] 10 ?_
  refine ev_S23 A hFO ev_isLe (by decide) F1' hol ?_
  have efind : (List.range 40).find? (ab_fa m1 (zf z) (ab_dfo z)) = (List.range 40).find? (fun x => zt z x && decide (zf z x = ab_dfo z)) := ab_find_cg _ (fun a ha => by unfold ab_fa; rw [hth a (List.mem_range.mp ha)])
  rw [efind]
  have rep : ∀ (mk : ev_Mem) (fs : List Nat), (∀ c i, c ≠ 3 → c ≠ 4 → c ≠ 270 → ¬ (c = 0 ∧ i = 9) → mk c i = m c i) → mk 0 9 = Int32.ofNat fs.length → (∀ k, k < fs.length → mk 270 k = Int32.ofNat (fs.getD k 0)) → ab_RepC mk (zD z, zR z, zW z, zP z, zT z, zO z, zB z, fs, z.2.2.2.2.2.2.2.2) := by
    intro mk fs fk h9 h270
    exact ab_Rep_F hs hok (fun c i q1 q2 => fk c i (by unfold ab_sc at q1; omega) (by unfold ab_sc at q1; omega) (by omega) (by omega)) ⟨h9, h270⟩
  show ev_J w ev_m108 (ev_nd 108) Q 32 [ev_vr 0, ev_vi (ab_oi ((List.range 40).find? (fun x => zt z x && decide (zf z x = ab_dfo z)))), none] [] m1 t
  cases hfind : (List.range 40).find? (fun x => zt z x && decide (zf z x = ab_dfo z)) with
  | none =>
    have e : ab_fds z = [] := by unfold ab_fds; rw [hfind]
    unfold ab_concord at hQ
    rw [e] at hQ
    refine ev_gK A hp [39] 10 ?_
    refine And.intro (fun (h : ¬ (-1 : Int32).toInt = (-1 : Int32).toInt) => absurd rfl h) (fun _ => ?_)
    exact (hQ m1 (rep m1 [] (fun c i z1 z2 _ z3 => g1 c i z1 z2 z3) z9 (fun k hk => absurd hk (Nat.not_lt_zero _))) (fun c i hc => g1 c i (by omega) (by omega) (by omega))).1 rfl
  | some y =>
    have hy40 : y < 40 := List.mem_range.mp (List.mem_of_find?_eq_some hfind)
    have hyt : zt z y = true := by
      have h1 := List.find?_some hfind
      rw [Bool.and_eq_true] at h1
      exact h1.1
    have ey := ev_ofNat_i (n := y) (by omega)
    have e : ab_fds z = ((List.range 40).filter (fun x => zt z x && zq z x y)).map (fun x => 100 * (x / 10) + x % 10) := by unfold ab_fds; rw [hfind]
    have fl : ∀ k, (((List.range k).filter (fun x => zt z x && zq z x y)).map (fun x => 100 * (x / 10) + x % 10)).length ≤ k := by
      intro k
      rw [List.length_map]
      have h := List.length_filter_le (fun x => zt z x && zq z x y) (List.range k)
      rw [List.length_range] at h
      exact h
    have loop := ev_lup (P := fun k => ∀ (kk : Int32) (mk : ev_Mem), kk = Int32.ofNat k → (∀ c i, c ≠ 3 → c ≠ 4 → c ≠ 270 → ¬ (c = 0 ∧ i = 9) → mk c i = m c i) → mk 0 9 = Int32.ofNat (((List.range k).filter (fun x => zt z x && zq z x y)).map (fun x => 100 * (x / 10) + x % 10)).length → (∀ j, j < (((List.range k).filter (fun x => zt z x && zq z x y)).map (fun x => 100 * (x / 10) + x % 10)).length → mk 270 j = Int32.ofNat ((((List.range k).filter (fun x => zt z x && zq z x y)).map (fun x => 100 * (x / 10) + x % 10)).getD j 0)) → ev_J w ev_m108 (ev_nd 108) Q 41 [ev_vr 0, ev_vn y, ev_vi kk] [] mk t) 40 (by
      intro k hk ih kk mk ekk fk h9 h270
      subst ekk
      have ek := ev_ofNat_i (n := k) (by omega)
      have hrep := rep mk _ fk h9 h270
      refine ev_gK A hp [47, 107] 10 ?_
      refine And.intro (fun (h : ((Int8.ofInt 40).toInt32).toInt ≤ (Int32.ofNat k).toInt) => ?_) (fun (h : (Int32.ofNat k).toInt < ((Int8.ofInt 40).toInt32).toInt) => ?_)
      · have ek2 : k = 40 := by omega
        subst ek2
        rw [← e] at h9 hrep
        refine ev_gK A hp [] 10 ?_
        show Q (.inl (some (.int (mk 0 9)))) mk t
        rw [h9]
        exact (hQ mk hrep (fun c i hc => fk c i (by omega) (by omega) (by omega) (by omega))).1 rfl
      · have hk40 : k < 40 := by omega
        have hrs : ((List.range (k + 1)).filter (fun x => zt z x && zq z x y)) = (List.range k).filter (fun x => zt z x && zq z x y) ++ (if (zt z k && zq z k y) = true then [k] else []) := by
          rw [List.range_succ, List.filter_append]
          refine congrArg (fun q => (List.range k).filter (fun x => zt z x && zq z x y) ++ q) ?_
          cases hb : (zt z k && zq z k y)
          · rw [List.filter_cons_of_neg (by rw [hb]; decide)]; rfl
          · rw [List.filter_cons_of_pos (p := fun x => zt z x && zq z x y) hb]; rfl
        have hthk : ∀ x, x < 40 → ab_th mk x = zt z x := fun x hx => by rw [ab_th_cong (fun j => fk _ _ (by decide) (by decide) (by decide) (by omega))]; exact ab_zth hs hx
        have hskip : (zt z k && zq z k y) = false → ev_J w ev_m108 (ev_nd 108) Q 101 [ev_vr 0, ev_vn y, ev_vn k] [] mk t := by
          intro hb
          refine ev_gK A hp [41] 10 ?_
          rw [hb, if_neg Bool.false_ne_true, List.append_nil] at hrs
          exact ih hk40 _ mk (ev_succ (by omega)) fk (by rw [hrs]; exact h9) (by rw [hrs]; exact h270)
        refine ev_gK A hp [58, 101] 10 ?_
        refine ev_S24 A hk40 ?_
        rw [hthk k hk40]
        refine And.intro (fun h2 => hskip (by rw [ab_bi_eq h2]; rfl)) (fun h2 => ?_)
        have hkt := ab_bi_neq h2
        refine ev_gK A hp [70, 101] 10 ?_
        refine ev_S25 (a := some k) (b := some y) A (fun x hx => by cases hx; exact hk40) (fun x hx => by cases hx; exact hy40) ?_
        have hEqk : ab_eqm mk 205 (some k) (some y) = zq z k y := by
          have h4 := ab_zEQ hs k y hk40 hy40 (by rw [ab_zth hs hk40]; exact hkt) (by rw [ab_zth hs hy40]; exact hyt)
          show decide ((mk 205 k).toInt = (mk 205 y).toInt) = zq z k y
          rw [fk 205 k (by decide) (by decide) (by decide) (by omega), fk 205 y (by decide) (by decide) (by decide) (by omega)]
          cases hb : zq z k y with
          | true => exact decide_eq_true (h4.mpr hb)
          | false => exact decide_eq_false (fun q => by rw [h4.mp q] at hb; cases hb)
        rw [hEqk]
        refine And.intro (fun h3 => hskip (by rw [hkt, ab_bi_eq h3]; rfl)) (fun h3 => ?_)
        have hkq := ab_bi_neq h3
        have hflk := fl k
        rw [hkt, hkq] at hrs
        have hrs2 : ((List.range (k + 1)).filter (fun x => zt z x && zq z x y)).map (fun x => 100 * (x / 10) + x % 10) = ((List.range k).filter (fun x => zt z x && zq z x y)).map (fun x => 100 * (x / 10) + x % 10) ++ [100 * (k / 10) + k % 10] := by rw [hrs, List.map_append]; rfl
        generalize ((List.range k).filter (fun x => zt z x && zq z x y)).map (fun x => 100 * (x / 10) + x % 10) = fs at *
        have n10 : ¬ (10 : Int32) = 0 := by decide
        have e100 : (Int8.ofInt 100).toInt32 * Int32.ofNat (k / 10) + Int32.ofNat (k % 10) = Int32.ofNat (100 * (k / 10) + k % 10) := by
          have i100 : ((Int8.ofInt 100).toInt32).toInt = 100 := by decide
          have ea := ev_ofNat_i (n := k / 10) (by omega)
          have eb := ev_ofNat_i (n := k % 10) (by omega)
          have em : ((Int8.ofInt 100).toInt32 * Int32.ofNat (k / 10)).toInt = 100 * ((k / 10 : Nat) : Int) := by rw [ev_mul_i (by rw [ea, i100]; omega) (by rw [ea, i100]; omega), ea, i100]
          apply ev_eq_of
          rw [ev_add_i (by omega) (by omega), em, eb, ev_ofNat_i (by omega)]
          omega
        show ev_J w ev_m108 (ev_nd 108) Q 70 [ev_vr 0, ev_vn y, ev_vn k] [] mk t
        refine ev_gK A hp [] 8 ?_
        refine And.intro n10 ?_
        show ev_J w ev_m108 (ev_nd 108) Q 84 [ev_vr 0, ev_vn y, ev_vn k] [.int (Int32.ofNat k / 10), .int (Int8.ofInt 100).toInt32, .int (mk 0 9), .ref 270] mk t
        rw [ev_d10 (by omega)]
        refine ev_gK A hp [] 4 ?_
        refine And.intro n10 ?_
        show ev_J w ev_m108 (ev_nd 108) Q 89 [ev_vr 0, ev_vn y, ev_vn k] [.int (Int32.ofNat k - Int32.ofNat k / 10 * 10), .int ((Int8.ofInt 100).toInt32 * Int32.ofNat (k / 10)), .int (mk 0 9), .ref 270] mk t
        rw [ev_r10 (by omega)]
        refine ev_gK A hp [] 1 ?_
        show ev_J w ev_m108 (ev_nd 108) Q 90 [ev_vr 0, ev_vn y, ev_vn k] [.int ((Int8.ofInt 100).toInt32 * Int32.ofNat (k / 10) + Int32.ofNat (k % 10)), .int (mk 0 9), .ref 270] mk t
        rw [e100]
        refine ev_gK A hp [41] 20 ?_
        refine And.intro (ev_iin h9 (by omega) (by decide)) ?_
        refine ih hk40 _ _ (ev_succ (by omega)) (fun c i z1 z2 z3 z4 => ?_) ?_ (fun j hj => ?_)
        · exact (if_neg z4).trans ((ev_up_cell _ z3 _ _ _).trans (fk c i z1 z2 z3 z4))
        · rw [ev_up_same, ev_up_cell _ (by decide), h9, hrs2, List.length_append, List.length_singleton]
          exact ev_succ (by omega)
        · rw [hrs2, List.length_append, List.length_singleton] at hj
          rw [ev_up_cell _ (by decide), ev_at h9 (by omega), hrs2, List.getD_eq_getElem?_getD]
          by_cases hjl : j = fs.length
          · rw [hjl, ev_up_same, List.getElem?_append_right (Nat.le_refl _), Nat.sub_self]; rfl
          · rw [ev_up_idx _ _ hjl, List.getElem?_append_left (by omega), ← List.getD_eq_getElem?_getD]
            exact h270 j (by omega))
    refine ev_gK A hp [41] 10 ?_
    refine And.intro (fun _ => ?_) (fun (h : (Int32.ofNat y).toInt = (Int32.ofInt (-1)).toInt) => by omega)
    exact loop 0 (by omega) _ m1 rfl (fun c i z1 z2 _ z3 => g1 c i z1 z2 z3) z9 (fun j hj => absurd hj (Nat.not_lt_zero _))
end EvCalls3
