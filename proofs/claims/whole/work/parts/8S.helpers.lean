/-! the law's helpers -/
section EvHelp
variable {w : ev_W} {Q : ev_QT} {m : ev_Mem} {t : ev_H} {z : ab_Z}
def ab_QC (m : ev_Mem) (t : ev_H) (ex : List Nat) (b : Bool) (r : ab_Y) : ev_QT := fun res m' t' => ab_RepC m' r.2.2 ∧ (∀ c i, 277 ≤ c → m' c i = m c i) ∧ ((r.1 = 0 ∧ res = .inl (if b = true then some (.int r.2.1) else none) ∧ t' = t) ∨ (¬ r.1 = 0 ∧ res = .inr (307 + t.length) ∧ t' = t ++ [.inr (ex.getD (r.1 - 1) 0, [])]))
theorem ab_PQ_QC {ex : List Nat} {b : Bool} {r : ab_Y} : ab_PQ m t ex b r (ab_QC m t ex b r) := fun _ h1 h2 => ⟨fun h => ⟨h1, h2, Or.inl ⟨h, rfl, rfl⟩⟩, fun h => ⟨h1, h2, Or.inr ⟨h, rfl, rfl⟩⟩⟩
def ab_PH (m : ev_Mem) (ths : ev_H) (b : Bool) (r : ab_Y) (Q : ev_QT) : Prop := ∀ (m' : ev_Mem) (ths' : ev_H) (f : Nat → Int64), ab_RepC m' r.2.2 → (∀ c i, 277 ≤ c → m' c i = m c i) → ths'.length ≤ ths.length + 1 → ev_cost ths' ≤ ev_cost ths + 6 → (b = true → r.1 = 0 → f 0 = r.2.1.toInt64) → Q (.inl (some (.int (Int32.ofNat r.1)))) m' (ev_lc f :: ths')
theorem ev_hp_top (m : ev_Mem) (t : ev_H) (x : ev_E) : (ev_hp m (t ++ [x]))[307 + t.length]? = some x := by
  unfold ev_hp
  rw [List.getElem?_append_right (by rw [ev_st_len]; omega), ev_st_len, List.getElem?_append_right (by omega), (by omega : 307 + t.length - 307 - t.length = 0)]
  rfl
theorem ev_exc6 {ex : List Nat} (h : ∀ c ∈ ex, ev_sz c = 6) {j : Nat} (hj : j < ex.length) : ev_sz (ex.getD j 0) = 6 := by
  rw [List.getD_eq_getElem?_getD, List.getElem?_eq_getElem hj]
  exact h _ (List.getElem_mem hj)
theorem ev_help0 {M : ev_M} {d : Nat × Nat} {pc k a b idx : Nat} {L : List (Option Value)} {st rest : List Value} {r : ab_Y} {ex : List Nat} {bb : Bool} {f : Nat → Int64} {ths : ev_H} {nn : Nat → Nat} (A : ev_all w) (N : ∀ x ∈ ev_nots, x.before w.2.2.1 w.2.1 = true) (hp : ev_prog[k]? = some M) (hi : ev_ins M pc = some (.invokevirtual idx, a, b)) (hst : st.drop b = .ref 0 :: rest) (hc : (decide (b ≤ st.length) && ev_cats (st.take b) && ev_room a rest d && !(ev_sta a)) = true)
    (K : ev_K w a (.ref 0 :: (st.take b).reverse) m (ev_lc f :: ths) (ab_QC m (ev_lc f :: ths) ex bb r)) (hr : r.1 ≤ ex.length) (h6 : ∀ c ∈ ex, ev_sz c = 6)
    (good : ∀ m', r.1 = 0 → ab_RepC m' r.2.2 → (∀ c i, 277 ≤ c → m' c i = m c i) → ev_J w M d Q (pc + 3) L ((if bb = true then some (.int r.2.1) else none : Option Value).toList ++ rest) m' (ev_lc f :: ths))
    (hf : ∀ j, j < ex.length → ∃ q : vw_C, ev_cl[ex.getD j 0]? = some q ∧ ev_fst M.1.cls q.1 pc (nn j) M.2.2.2.2.1 = true)
    (hj : ∀ j, j < ex.length → ∀ m' t' e, Q (.inl (some (.int (Int32.ofNat (j + 1))))) m' t' → ev_J w M d Q (nn j) L [.ref e] m' t')
    (hQ : ab_PH m ths bb r Q) : ev_J w M d Q pc L st m (ev_lc f :: ths) := by
  refine ev_jcallH A N hp hi hst hc K (fun v m' t' hq => ?_) (fun e m' t' hq => ?_)
  · obtain ⟨h1, h2, h3 | h3⟩ := hq
    · obtain ⟨h4, h5, h6⟩ := h3
      subst h6
      injection h5 with h5
      rw [h5]
      exact good m' h4 h1 h2
    · obtain ⟨-, h5, -⟩ := h3
      cases h5
  · obtain ⟨h1, h2, h3 | h3⟩ := hq
    · obtain ⟨-, h5, -⟩ := h3
      cases h5
    · obtain ⟨h4, h5, h7⟩ := h3
      subst h7
      injection h5 with h5
      subst h5
      have hlt : r.1 - 1 < ex.length := by omega
      obtain ⟨q, g1, g2⟩ := hf _ hlt
      refine ⟨_, nn (r.1 - 1), q, ev_hp_top m' (ev_lc f :: ths) _, g1, g2, hj _ hlt m' _ _ ?_⟩
      have h8 := hQ m' (ths ++ [.inr (ex.getD (r.1 - 1) 0, [])]) f h1 h2 (by rw [List.length_append, List.length_singleton]; exact Nat.le_refl _) (by rw [ev_cost_app]; have e : ev_c1 (.inr (ex.getD (r.1 - 1) 0, [])) = 6 := ev_exc6 h6 hlt; omega) (fun _ q => absurd q h4)
      rw [(by omega : r.1 - 1 + 1 = r.1)]
      exact h8
theorem ev_helpV {M : ev_M} {d : Nat × Nat} {pc k a b idx : Nat} {L : List (Option Value)} {st : List Value} {r : ab_Y} {ex : List Nat} {f : Nat → Int64} {ths : ev_H} {nn : Nat → Nat} (A : ev_all w) (N : ∀ x ∈ ev_nots, x.before w.2.2.1 w.2.1 = true) (hp : ev_prog[k]? = some M) (hi : ev_ins M pc = some (.invokevirtual idx, a, b)) (hst : st.drop b = [.ref 0, .int (Int32.ofInt 0), .ref 307]) (hc : (decide (b ≤ st.length) && ev_cats (st.take b) && ev_room a [.int (Int32.ofInt 0), .ref 307] d && !(ev_sta a)) = true)
    (K : ev_K w a (.ref 0 :: (st.take b).reverse) m (ev_lc f :: ths) (ab_QC m (ev_lc f :: ths) ex true r)) (hr : r.1 ≤ ex.length) (h6 : ∀ c ∈ ex, ev_sz c = 6)
    (good : ∀ m' (v : Int32), Q (.inl (some (.int 0))) m' (ev_lc (vp_updL f 0 v.toInt64) :: ths) → ev_J w M d Q (pc + 3) L [.int v, .int (Int32.ofInt 0), .ref 307] m' (ev_lc f :: ths))
    (hf : ∀ j, j < ex.length → ∃ q : vw_C, ev_cl[ex.getD j 0]? = some q ∧ ev_fst M.1.cls q.1 pc (nn j) M.2.2.2.2.1 = true)
    (hj : ∀ j, j < ex.length → ∀ m' t' e, Q (.inl (some (.int (Int32.ofNat (j + 1))))) m' t' → ev_J w M d Q (nn j) L [.ref e] m' t')
    (hQ : ab_PH m ths true r Q) : ev_J w M d Q pc L st m (ev_lc f :: ths) := by
  refine ev_help0 A N hp hi hst hc K hr h6 (fun m' h0 h1 h2 => good m' r.2.1 ?_) hf hj hQ
  have h3 := hQ m' ths (vp_updL f 0 r.2.1.toInt64) h1 h2 (Nat.le_succ _) (by omega) (fun _ _ => if_pos rfl)
  rw [h0] at h3
  exact h3
theorem ev_helpN {M : ev_M} {d : Nat × Nat} {pc k a b idx : Nat} {L : List (Option Value)} {st : List Value} {r : ab_Y} {ex : List Nat} {f : Nat → Int64} {ths : ev_H} {nn : Nat → Nat} (A : ev_all w) (N : ∀ x ∈ ev_nots, x.before w.2.2.1 w.2.1 = true) (hp : ev_prog[k]? = some M) (hi : ev_ins M pc = some (.invokevirtual idx, a, b)) (hst : st.drop b = [.ref 0]) (hc : (decide (b ≤ st.length) && ev_cats (st.take b) && ev_room a [] d && !(ev_sta a)) = true)
    (K : ev_K w a (.ref 0 :: (st.take b).reverse) m (ev_lc f :: ths) (ab_QC m (ev_lc f :: ths) ex false r)) (hr : r.1 ≤ ex.length) (h6 : ∀ c ∈ ex, ev_sz c = 6)
    (good : ∀ m' t', Q (.inl (some (.int 0))) m' t' → ev_J w M d Q (pc + 3) L [] m' t')
    (hf : ∀ j, j < ex.length → ∃ q : vw_C, ev_cl[ex.getD j 0]? = some q ∧ ev_fst M.1.cls q.1 pc (nn j) M.2.2.2.2.1 = true)
    (hj : ∀ j, j < ex.length → ∀ m' t' e, Q (.inl (some (.int (Int32.ofNat (j + 1))))) m' t' → ev_J w M d Q (nn j) L [.ref e] m' t')
    (hQ : ab_PH m ths false r Q) : ev_J w M d Q pc L st m (ev_lc f :: ths) := by
  refine ev_help0 A N hp hi hst hc K hr h6 (fun m' h0 h1 h2 => good m' _ ?_) hf hj hQ
  have h3 := hQ m' ths f h1 h2 (Nat.le_succ _) (by omega) (fun q => by cases q)
  rw [h0] at h3
  exact h3
theorem ab_code_type {c : Int32} : (ab_type z c).1 ≤ 2 := by
  unfold ab_type
  repeat' split
  all_goals exact Nat.le_of_ble_eq_true rfl
/-- type -/
theorem ev_S210 {c : Int32} {f : Nat → Int64} {ths : ev_H} (A : ev_all w) (N : ∀ x ∈ ev_nots, x.before w.2.2.1 w.2.1 = true) (hs : ab_RepC m z) (hok : ab_ok z) (hrm : ev_rm w (ev_lc f :: ths)) (hQ : ab_PH m ths true (ab_type z c) Q) : ev_K w 210 [.ref 0, .int c, .ref 307] m (ev_lc f :: ths) Q := by
  have hp : ev_prog[210]? = some ev_m210 := rfl
  refine ⟨Or.inl rfl, ev_m210, rfl, ev_gK A hp [] 4 ?_⟩
  show ev_J w ev_m210 (ev_nd 210) Q 4 [ev_vr 0, ev_vi c, ev_vr 307, none] [.int c, .ref 0, .int (Int32.ofInt 0), .ref 307] m (ev_lc f :: ths)
  exact ev_helpV (b := 1) (idx := 7) (ex := [11, 12]) (nn := fun j => ([12, 15] : List Nat).getD j 0) A N hp rfl rfl rfl (ev_S109 A hs hok hrm ab_PQ_QC) ab_code_type (by decide) (fun m' v h => ev_gH A hp [] 10 ⟨rfl, ⟨by decide, by decide⟩, h⟩) (fun j hj => by
    match j, hj with
    | 0, _ => exact ⟨_, rfl, by decide +kernel⟩
    | 1, _ => exact ⟨_, rfl, by decide +kernel⟩) (fun j hj m' t' e h => by
    match j, hj with
    | 0, _ => exact ev_gK A hp [] 5 h
    | 1, _ => exact ev_gK A hp [] 5 h) hQ
theorem ab_code_cut {n : Int32} : (ab_cut z n).1 ≤ 1 := by
  unfold ab_cut
  repeat' split
  all_goals exact Nat.le_of_ble_eq_true rfl
/-- cut -/
theorem ev_S211 {n : Int32} {f : Nat → Int64} {ths : ev_H} (A : ev_all w) (N : ∀ x ∈ ev_nots, x.before w.2.2.1 w.2.1 = true) (hs : ab_RepC m z) (hok : ab_ok z) (hrm : ev_rm w (ev_lc f :: ths)) (hQ : ab_PH m ths false (ab_cut z n) Q) : ev_K w 211 [.ref 0, .int n] m (ev_lc f :: ths) Q := by
  have hp : ev_prog[211]? = some ev_m211 := rfl
  refine ⟨Or.inl rfl, ev_m211, rfl, ev_gK A hp [] 2 ?_⟩
  show ev_J w ev_m211 (ev_nd 211) Q 2 [ev_vr 0, ev_vi n, none] [.int n, .ref 0] m (ev_lc f :: ths)
  exact ev_helpN (b := 1) (idx := 17) (ex := [11]) (nn := fun j => ([8] : List Nat).getD j 0) A N hp rfl rfl rfl (ev_S110 A hs hok hrm ab_PQ_QC) ab_code_cut (by decide) (fun m' t' h => ev_gH A hp [] 10 h) (fun j hj => by
    match j, hj with
    | 0, _ => exact ⟨_, rfl, by decide +kernel⟩) (fun j hj m' t' e h => by
    match j, hj with
    | 0, _ => exact ev_gK A hp [] 5 h) hQ
theorem ab_code_word {x : Int32} : (ab_word z x).1 ≤ 4 := by
  unfold ab_word
  repeat' split
  all_goals exact Nat.le_of_ble_eq_true rfl
/-- word -/
theorem ev_S212 {x : Int32} {f : Nat → Int64} {ths : ev_H} (A : ev_all w) (N : ∀ x ∈ ev_nots, x.before w.2.2.1 w.2.1 = true) (hs : ab_RepC m z) (hok : ab_ok z) (hrm : ev_rm w (ev_lc f :: ths)) (hQ : ab_PH m ths true (ab_word z x) Q) : ev_K w 212 [.ref 0, .int x, .ref 307] m (ev_lc f :: ths) Q := by
  have hp : ev_prog[212]? = some ev_m212 := rfl
  refine ⟨Or.inl rfl, ev_m212, rfl, ev_gK A hp [] 4 ?_⟩
  show ev_J w ev_m212 (ev_nd 212) Q 4 [ev_vr 0, ev_vi x, ev_vr 307, none] [.int x, .ref 0, .int (Int32.ofInt 0), .ref 307] m (ev_lc f :: ths)
  exact ev_helpV (b := 1) (idx := 21) (ex := [13, 12, 11, 14]) (nn := fun j => ([12, 15, 18, 21] : List Nat).getD j 0) A N hp rfl rfl rfl (ev_S111 A hs hok hrm ab_PQ_QC) ab_code_word (by decide) (fun m' v h => ev_gH A hp [] 10 ⟨rfl, ⟨by decide, by decide⟩, h⟩) (fun j hj => by
    match j, hj with
    | 0, _ => exact ⟨_, rfl, by decide +kernel⟩
    | 1, _ => exact ⟨_, rfl, by decide +kernel⟩
    | 2, _ => exact ⟨_, rfl, by decide +kernel⟩
    | 3, _ => exact ⟨_, rfl, by decide +kernel⟩) (fun j hj m' t' e h => by
    match j, hj with
    | 0, _ => exact ev_gK A hp [] 5 h
    | 1, _ => exact ev_gK A hp [] 5 h
    | 2, _ => exact ev_gK A hp [] 5 h
    | 3, _ => exact ev_gK A hp [] 5 h) hQ
theorem ab_code_rule {n : Int32} : (ab_rule z n).1 ≤ 2 := by
  unfold ab_rule
  repeat' split
  all_goals exact Nat.le_of_ble_eq_true rfl
/-- rule -/
theorem ev_S213 {n : Int32} {f : Nat → Int64} {ths : ev_H} (A : ev_all w) (N : ∀ x ∈ ev_nots, x.before w.2.2.1 w.2.1 = true) (hs : ab_RepC m z) (hok : ab_ok z) (hrm : ev_rm w (ev_lc f :: ths)) (hQ : ab_PH m ths true (ab_rule z n) Q) : ev_K w 213 [.ref 0, .int n, .ref 307] m (ev_lc f :: ths) Q := by
  have hp : ev_prog[213]? = some ev_m213 := rfl
  refine ⟨Or.inl rfl, ev_m213, rfl, ev_gK A hp [] 4 ?_⟩
  show ev_J w ev_m213 (ev_nd 213) Q 4 [ev_vr 0, ev_vi n, ev_vr 307, none] [.int n, .ref 0, .int (Int32.ofInt 0), .ref 307] m (ev_lc f :: ths)
  exact ev_helpV (b := 1) (idx := 29) (ex := [11, 14]) (nn := fun j => ([12, 15] : List Nat).getD j 0) A N hp rfl rfl rfl (ev_S113 A hs hok hrm ab_PQ_QC) ab_code_rule (by decide) (fun m' v h => ev_gH A hp [] 10 ⟨rfl, ⟨by decide, by decide⟩, h⟩) (fun j hj => by
    match j, hj with
    | 0, _ => exact ⟨_, rfl, by decide +kernel⟩
    | 1, _ => exact ⟨_, rfl, by decide +kernel⟩) (fun j hj m' t' e h => by
    match j, hj with
    | 0, _ => exact ev_gK A hp [] 5 h
    | 1, _ => exact ev_gK A hp [] 5 h) hQ
theorem ab_code_equate {x i y j : Int32} : (ab_equate z x i y j).1 ≤ 3 := by
  unfold ab_equate
  repeat' split
  all_goals exact Nat.le_of_ble_eq_true rfl
/-- equate -/
theorem ev_S214 {x i y j : Int32} {f : Nat → Int64} {ths : ev_H} (A : ev_all w) (N : ∀ x ∈ ev_nots, x.before w.2.2.1 w.2.1 = true) (hs : ab_RepC m z) (hok : ab_ok z) (hrm : ev_rm w (ev_lc f :: ths)) (hQ : ab_PH m ths true (ab_equate z x i y j) Q) : ev_K w 214 [.ref 0, .int x, .int i, .int y, .int j, .ref 307] m (ev_lc f :: ths) Q := by
  have hp : ev_prog[214]? = some ev_m214 := rfl
  refine ⟨Or.inl rfl, ev_m214, rfl, ev_gK A hp [] 7 ?_⟩
  show ev_J w ev_m214 (ev_nd 214) Q 9 [ev_vr 0, ev_vi x, ev_vi i, ev_vi y, ev_vi j, ev_vr 307, none] [.int j, .int y, .int i, .int x, .ref 0, .int (Int32.ofInt 0), .ref 307] m (ev_lc f :: ths)
  exact ev_helpV (b := 4) (idx := 32) (ex := [13, 11, 14]) (nn := fun j => ([17, 21, 25] : List Nat).getD j 0) A N hp rfl rfl rfl (ev_S114 A hs hok hrm ab_PQ_QC) ab_code_equate (by decide) (fun m' v h => ev_gH A hp [] 10 ⟨rfl, ⟨by decide, by decide⟩, h⟩) (fun j hj => by
    match j, hj with
    | 0, _ => exact ⟨_, rfl, by decide +kernel⟩
    | 1, _ => exact ⟨_, rfl, by decide +kernel⟩
    | 2, _ => exact ⟨_, rfl, by decide +kernel⟩) (fun j hj m' t' e h => by
    match j, hj with
    | 0, _ => exact ev_gK A hp [] 5 h
    | 1, _ => exact ev_gK A hp [] 5 h
    | 2, _ => exact ev_gK A hp [] 5 h) hQ
theorem ab_code_fform {x i : Int32} : (ab_fform z x i).1 ≤ 1 := by
  unfold ab_fform
  repeat' split
  all_goals exact Nat.le_of_ble_eq_true rfl
/-- form -/
theorem ev_S215 {x i : Int32} {f : Nat → Int64} {ths : ev_H} (A : ev_all w) (N : ∀ x ∈ ev_nots, x.before w.2.2.1 w.2.1 = true) (hs : ab_RepC m z) (hok : ab_ok z) (hrm : ev_rm w (ev_lc f :: ths)) (hQ : ab_PH m ths true (ab_fform z x i) Q) : ev_K w 215 [.ref 0, .int x, .int i, .ref 307] m (ev_lc f :: ths) Q := by
  have hp : ev_prog[215]? = some ev_m215 := rfl
  refine ⟨Or.inl rfl, ev_m215, rfl, ev_gK A hp [] 5 ?_⟩
  show ev_J w ev_m215 (ev_nd 215) Q 5 [ev_vr 0, ev_vi x, ev_vi i, ev_vr 307, none] [.int i, .int x, .ref 0, .int (Int32.ofInt 0), .ref 307] m (ev_lc f :: ths)
  exact ev_helpV (b := 2) (idx := 36) (ex := [13]) (nn := fun j => ([13] : List Nat).getD j 0) A N hp rfl rfl rfl (ev_S116 A hs hok hrm ab_PQ_QC) ab_code_fform (by decide) (fun m' v h => ev_gH A hp [] 10 ⟨rfl, ⟨by decide, by decide⟩, h⟩) (fun j hj => by
    match j, hj with
    | 0, _ => exact ⟨_, rfl, by decide +kernel⟩) (fun j hj m' t' e h => by
    match j, hj with
    | 0, _ => exact ev_gK A hp [] 5 h) hQ
theorem ab_code_dist {x i y j : Int32} : (ab_dist z x i y j).1 ≤ 1 := by
  unfold ab_dist
  repeat' split
  all_goals exact Nat.le_of_ble_eq_true rfl
/-- distance -/
theorem ev_S216 {x i y j : Int32} {f : Nat → Int64} {ths : ev_H} (A : ev_all w) (N : ∀ x ∈ ev_nots, x.before w.2.2.1 w.2.1 = true) (hs : ab_RepC m z) (hok : ab_ok z) (hrm : ev_rm w (ev_lc f :: ths)) (hQ : ab_PH m ths true (ab_dist z x i y j) Q) : ev_K w 216 [.ref 0, .int x, .int i, .int y, .int j, .ref 307] m (ev_lc f :: ths) Q := by
  have hp : ev_prog[216]? = some ev_m216 := rfl
  refine ⟨Or.inl rfl, ev_m216, rfl, ev_gK A hp [] 7 ?_⟩
  show ev_J w ev_m216 (ev_nd 216) Q 9 [ev_vr 0, ev_vi x, ev_vi i, ev_vi y, ev_vi j, ev_vr 307, none] [.int j, .int y, .int i, .int x, .ref 0, .int (Int32.ofInt 0), .ref 307] m (ev_lc f :: ths)
  exact ev_helpV (b := 4) (idx := 40) (ex := [13]) (nn := fun j => ([17] : List Nat).getD j 0) A N hp rfl rfl rfl (ev_S117 A hs hok hrm ab_PQ_QC) ab_code_dist (by decide) (fun m' v h => ev_gH A hp [] 10 ⟨rfl, ⟨by decide, by decide⟩, h⟩) (fun j hj => by
    match j, hj with
    | 0, _ => exact ⟨_, rfl, by decide +kernel⟩) (fun j hj m' t' e h => by
    match j, hj with
    | 0, _ => exact ev_gK A hp [] 5 h) hQ
theorem ab_code_join {x : Int32} : (ab_join z x).1 ≤ 3 := by
  unfold ab_join
  repeat' split
  all_goals exact Nat.le_of_ble_eq_true rfl
/-- join -/
theorem ev_S217 {x : Int32} {f : Nat → Int64} {ths : ev_H} (A : ev_all w) (N : ∀ x ∈ ev_nots, x.before w.2.2.1 w.2.1 = true) (hs : ab_RepC m z) (hok : ab_ok z) (hrm : ev_rm w (ev_lc f :: ths)) (hQ : ab_PH m ths true (ab_join z x) Q) : ev_K w 217 [.ref 0, .int x, .ref 307] m (ev_lc f :: ths) Q := by
  have hp : ev_prog[217]? = some ev_m217 := rfl
  refine ⟨Or.inl rfl, ev_m217, rfl, ev_gK A hp [] 4 ?_⟩
  show ev_J w ev_m217 (ev_nd 217) Q 4 [ev_vr 0, ev_vi x, ev_vr 307, none] [.int x, .ref 0, .int (Int32.ofInt 0), .ref 307] m (ev_lc f :: ths)
  exact ev_helpV (b := 1) (idx := 43) (ex := [13, 12, 14]) (nn := fun j => ([12, 15, 18] : List Nat).getD j 0) A N hp rfl rfl rfl (ev_S118 A hs hok hrm ab_PQ_QC) ab_code_join (by decide) (fun m' v h => ev_gH A hp [] 10 ⟨rfl, ⟨by decide, by decide⟩, h⟩) (fun j hj => by
    match j, hj with
    | 0, _ => exact ⟨_, rfl, by decide +kernel⟩
    | 1, _ => exact ⟨_, rfl, by decide +kernel⟩
    | 2, _ => exact ⟨_, rfl, by decide +kernel⟩) (fun j hj m' t' e h => by
    match j, hj with
    | 0, _ => exact ev_gK A hp [] 5 h
    | 1, _ => exact ev_gK A hp [] 5 h
    | 2, _ => exact ev_gK A hp [] 5 h) hQ
theorem ab_code_retract : (ab_retract z).1 ≤ 1 := by
  unfold ab_retract
  repeat' split
  all_goals exact Nat.le_of_ble_eq_true rfl
/-- retract -/
theorem ev_S218 {f : Nat → Int64} {ths : ev_H} (A : ev_all w) (N : ∀ x ∈ ev_nots, x.before w.2.2.1 w.2.1 = true) (hs : ab_RepC m z) (hok : ab_ok z) (hrm : ev_rm w (ev_lc f :: ths)) (hQ : ab_PH m ths true (ab_retract z) Q) : ev_K w 218 [.ref 0, .ref 307] m (ev_lc f :: ths) Q := by
  have hp : ev_prog[218]? = some ev_m218 := rfl
  refine ⟨Or.inl rfl, ev_m218, rfl, ev_gK A hp [] 3 ?_⟩
  show ev_J w ev_m218 (ev_nd 218) Q 3 [ev_vr 0, ev_vr 307, none] [.ref 0, .int (Int32.ofInt 0), .ref 307] m (ev_lc f :: ths)
  exact ev_helpV (b := 0) (idx := 46) (ex := [12]) (nn := fun j => ([11] : List Nat).getD j 0) A N hp rfl rfl rfl (ev_S119 A hs hok hrm ab_PQ_QC) ab_code_retract (by decide) (fun m' v h => ev_gH A hp [] 10 ⟨rfl, ⟨by decide, by decide⟩, h⟩) (fun j hj => by
    match j, hj with
    | 0, _ => exact ⟨_, rfl, by decide +kernel⟩) (fun j hj m' t' e h => by
    match j, hj with
    | 0, _ => exact ev_gK A hp [] 5 h) hQ
theorem ab_code_at {p x : Int32} : (ab_at z p x).1 ≤ 1 := by
  unfold ab_at
  repeat' split
  all_goals exact Nat.le_of_ble_eq_true rfl
/-- at -/
theorem ev_S219 {p x : Int32} {f : Nat → Int64} {ths : ev_H} (A : ev_all w) (N : ∀ x ∈ ev_nots, x.before w.2.2.1 w.2.1 = true) (hs : ab_RepC m z) (hok : ab_ok z) (hrm : ev_rm w (ev_lc f :: ths)) (hQ : ab_PH m ths true (ab_at z p x) Q) : ev_K w 219 [.ref 0, .int p, .int x, .ref 307] m (ev_lc f :: ths) Q := by
  have hp : ev_prog[219]? = some ev_m219 := rfl
  refine ⟨Or.inl rfl, ev_m219, rfl, ev_gK A hp [] 5 ?_⟩
  show ev_J w ev_m219 (ev_nd 219) Q 5 [ev_vr 0, ev_vi p, ev_vi x, ev_vr 307, none] [.int x, .int p, .ref 0, .int (Int32.ofInt 0), .ref 307] m (ev_lc f :: ths)
  exact ev_helpV (b := 2) (idx := 50) (ex := [13]) (nn := fun j => ([13] : List Nat).getD j 0) A N hp rfl rfl rfl (ev_S120 A hs hok hrm ab_PQ_QC) ab_code_at (by decide) (fun m' v h => ev_gH A hp [] 10 ⟨rfl, ⟨by decide, by decide⟩, h⟩) (fun j hj => by
    match j, hj with
    | 0, _ => exact ⟨_, rfl, by decide +kernel⟩) (fun j hj m' t' e h => by
    match j, hj with
    | 0, _ => exact ev_gK A hp [] 5 h) hQ
theorem ab_code_beside {x i y : Int32} : (ab_beside z x i y).1 ≤ 1 := by
  unfold ab_beside
  repeat' split
  all_goals exact Nat.le_of_ble_eq_true rfl
/-- beside -/
theorem ev_S220 {x i y : Int32} {f : Nat → Int64} {ths : ev_H} (A : ev_all w) (N : ∀ x ∈ ev_nots, x.before w.2.2.1 w.2.1 = true) (hs : ab_RepC m z) (hok : ab_ok z) (hrm : ev_rm w (ev_lc f :: ths)) (hQ : ab_PH m ths true (ab_beside z x i y) Q) : ev_K w 220 [.ref 0, .int x, .int i, .int y, .ref 307] m (ev_lc f :: ths) Q := by
  have hp : ev_prog[220]? = some ev_m220 := rfl
  refine ⟨Or.inl rfl, ev_m220, rfl, ev_gK A hp [] 6 ?_⟩
  show ev_J w ev_m220 (ev_nd 220) Q 7 [ev_vr 0, ev_vi x, ev_vi i, ev_vi y, ev_vr 307, none] [.int y, .int i, .int x, .ref 0, .int (Int32.ofInt 0), .ref 307] m (ev_lc f :: ths)
  exact ev_helpV (b := 3) (idx := 53) (ex := [13]) (nn := fun j => ([15] : List Nat).getD j 0) A N hp rfl rfl rfl (ev_S122 A hs hok hrm ab_PQ_QC) ab_code_beside (by decide) (fun m' v h => ev_gH A hp [] 10 ⟨rfl, ⟨by decide, by decide⟩, h⟩) (fun j hj => by
    match j, hj with
    | 0, _ => exact ⟨_, rfl, by decide +kernel⟩) (fun j hj m' t' e h => by
    match j, hj with
    | 0, _ => exact ev_gK A hp [] 5 h) hQ
theorem ab_code_base {x : Int32} : (ab_base z x).1 ≤ 2 := by
  unfold ab_base
  repeat' split
  all_goals exact Nat.le_of_ble_eq_true rfl
/-- base -/
theorem ev_S221 {x : Int32} {f : Nat → Int64} {ths : ev_H} (A : ev_all w) (N : ∀ x ∈ ev_nots, x.before w.2.2.1 w.2.1 = true) (hs : ab_RepC m z) (hok : ab_ok z) (hrm : ev_rm w (ev_lc f :: ths)) (hQ : ab_PH m ths false (ab_base z x) Q) : ev_K w 221 [.ref 0, .int x] m (ev_lc f :: ths) Q := by
  have hp : ev_prog[221]? = some ev_m221 := rfl
  refine ⟨Or.inl rfl, ev_m221, rfl, ev_gK A hp [] 2 ?_⟩
  show ev_J w ev_m221 (ev_nd 221) Q 2 [ev_vr 0, ev_vi x, none] [.int x, .ref 0] m (ev_lc f :: ths)
  exact ev_helpN (b := 1) (idx := 57) (ex := [13, 12]) (nn := fun j => ([8, 11] : List Nat).getD j 0) A N hp rfl rfl rfl (ev_S123 A hs hok hrm ab_PQ_QC) ab_code_base (by decide) (fun m' t' h => ev_gH A hp [] 10 h) (fun j hj => by
    match j, hj with
    | 0, _ => exact ⟨_, rfl, by decide +kernel⟩
    | 1, _ => exact ⟨_, rfl, by decide +kernel⟩) (fun j hj m' t' e h => by
    match j, hj with
    | 0, _ => exact ev_gK A hp [] 5 h
    | 1, _ => exact ev_gK A hp [] 5 h) hQ
theorem ab_code_choose {p x : Int32} : (ab_choose z p x).1 ≤ 2 := by
  unfold ab_choose
  repeat' split
  all_goals exact Nat.le_of_ble_eq_true rfl
/-- choose -/
theorem ev_S222 {p x : Int32} {f : Nat → Int64} {ths : ev_H} (A : ev_all w) (N : ∀ x ∈ ev_nots, x.before w.2.2.1 w.2.1 = true) (hs : ab_RepC m z) (hok : ab_ok z) (hrm : ev_rm w (ev_lc f :: ths)) (hQ : ab_PH m ths false (ab_choose z p x) Q) : ev_K w 222 [.ref 0, .int p, .int x] m (ev_lc f :: ths) Q := by
  have hp : ev_prog[222]? = some ev_m222 := rfl
  refine ⟨Or.inl rfl, ev_m222, rfl, ev_gK A hp [] 3 ?_⟩
  show ev_J w ev_m222 (ev_nd 222) Q 3 [ev_vr 0, ev_vi p, ev_vi x, none] [.int x, .int p, .ref 0] m (ev_lc f :: ths)
  exact ev_helpN (b := 2) (idx := 60) (ex := [13, 12]) (nn := fun j => ([9, 12] : List Nat).getD j 0) A N hp rfl rfl rfl (ev_S125 A hs hok hrm ab_PQ_QC) ab_code_choose (by decide) (fun m' t' h => ev_gH A hp [] 10 h) (fun j hj => by
    match j, hj with
    | 0, _ => exact ⟨_, rfl, by decide +kernel⟩
    | 1, _ => exact ⟨_, rfl, by decide +kernel⟩) (fun j hj m' t' e h => by
    match j, hj with
    | 0, _ => exact ev_gK A hp [] 5 h
    | 1, _ => exact ev_gK A hp [] 5 h) hQ
theorem ab_code_outc {k : Int32} : (ab_outc z k).1 ≤ 1 := by
  unfold ab_outc
  repeat' split
  all_goals exact Nat.le_of_ble_eq_true rfl
/-- out -/
theorem ev_S223 {k : Int32} {f : Nat → Int64} {ths : ev_H} (A : ev_all w) (N : ∀ x ∈ ev_nots, x.before w.2.2.1 w.2.1 = true) (hs : ab_RepC m z) (hok : ab_ok z) (hrm : ev_rm w (ev_lc f :: ths)) (hQ : ab_PH m ths true (ab_outc z k) Q) : ev_K w 223 [.ref 0, .int k, .ref 307] m (ev_lc f :: ths) Q := by
  have hp : ev_prog[223]? = some ev_m223 := rfl
  refine ⟨Or.inl rfl, ev_m223, rfl, ev_gK A hp [] 4 ?_⟩
  show ev_J w ev_m223 (ev_nd 223) Q 4 [ev_vr 0, ev_vi k, ev_vr 307, none] [.int k, .ref 0, .int (Int32.ofInt 0), .ref 307] m (ev_lc f :: ths)
  exact ev_helpV (b := 1) (idx := 64) (ex := [13]) (nn := fun j => ([12] : List Nat).getD j 0) A N hp rfl rfl rfl (ev_S126 A hs hok hrm ab_PQ_QC) ab_code_outc (by decide) (fun m' v h => ev_gH A hp [] 10 ⟨rfl, ⟨by decide, by decide⟩, h⟩) (fun j hj => by
    match j, hj with
    | 0, _ => exact ⟨_, rfl, by decide +kernel⟩) (fun j hj m' t' e h => by
    match j, hj with
    | 0, _ => exact ev_gK A hp [] 5 h) hQ
theorem ab_code_amend {k c : Int32} : (ab_amend z k c).1 ≤ 1 := by
  unfold ab_amend
  repeat' split
  all_goals exact Nat.le_of_ble_eq_true rfl
/-- amend -/
theorem ev_S224 {k c : Int32} {f : Nat → Int64} {ths : ev_H} (A : ev_all w) (N : ∀ x ∈ ev_nots, x.before w.2.2.1 w.2.1 = true) (hs : ab_RepC m z) (hok : ab_ok z) (hrm : ev_rm w (ev_lc f :: ths)) (hc : ab_c16 c) (hQ : ab_PH m ths false (ab_amend z k c) Q) : ev_K w 224 [.ref 0, .int k, .int c] m (ev_lc f :: ths) Q := by
  have hp : ev_prog[224]? = some ev_m224 := rfl
  refine ⟨Or.inl rfl, ev_m224, rfl, ev_gK A hp [] 3 ?_⟩
  show ev_J w ev_m224 (ev_nd 224) Q 3 [ev_vr 0, ev_vi k, ev_vi c, none] [.int c, .int k, .ref 0] m (ev_lc f :: ths)
  exact ev_helpN (b := 2) (idx := 67) (ex := [13]) (nn := fun j => ([9] : List Nat).getD j 0) A N hp rfl rfl rfl (ev_S128 A hs hok hrm hc ab_PQ_QC) ab_code_amend (by decide) (fun m' t' h => ev_gH A hp [] 10 h) (fun j hj => by
    match j, hj with
    | 0, _ => exact ⟨_, rfl, by decide +kernel⟩) (fun j hj m' t' e h => by
    match j, hj with
    | 0, _ => exact ev_gK A hp [] 5 h) hQ
theorem ab_code_rebuild {x : Int32} : (ab_rebuild z x).1 ≤ 2 := by
  unfold ab_rebuild
  repeat' split
  all_goals exact Nat.le_of_ble_eq_true rfl
/-- rebuild -/
theorem ev_S225 {x : Int32} {f : Nat → Int64} {ths : ev_H} (A : ev_all w) (N : ∀ x ∈ ev_nots, x.before w.2.2.1 w.2.1 = true) (hs : ab_RepC m z) (hok : ab_ok z) (hrm : ev_rm w (ev_lc f :: ths)) (hQ : ab_PH m ths true (ab_rebuild z x) Q) : ev_K w 225 [.ref 0, .int x, .ref 307] m (ev_lc f :: ths) Q := by
  have hp : ev_prog[225]? = some ev_m225 := rfl
  refine ⟨Or.inl rfl, ev_m225, rfl, ev_gK A hp [] 4 ?_⟩
  show ev_J w ev_m225 (ev_nd 225) Q 4 [ev_vr 0, ev_vi x, ev_vr 307, none] [.int x, .ref 0, .int (Int32.ofInt 0), .ref 307] m (ev_lc f :: ths)
  exact ev_helpV (b := 1) (idx := 71) (ex := [13, 12]) (nn := fun j => ([12, 15] : List Nat).getD j 0) A N hp rfl rfl rfl (ev_S129 A hs hok hrm ab_PQ_QC) ab_code_rebuild (by decide) (fun m' v h => ev_gH A hp [] 10 ⟨rfl, ⟨by decide, by decide⟩, h⟩) (fun j hj => by
    match j, hj with
    | 0, _ => exact ⟨_, rfl, by decide +kernel⟩
    | 1, _ => exact ⟨_, rfl, by decide +kernel⟩) (fun j hj m' t' e h => by
    match j, hj with
    | 0, _ => exact ev_gK A hp [] 5 h
    | 1, _ => exact ev_gK A hp [] 5 h) hQ
theorem ab_code_found {i : Int32} : (ab_found z i).1 ≤ 1 := by
  unfold ab_found
  repeat' split
  all_goals exact Nat.le_of_ble_eq_true rfl
/-- found -/
theorem ev_S226 {i : Int32} {f : Nat → Int64} {ths : ev_H} (A : ev_all w) (N : ∀ x ∈ ev_nots, x.before w.2.2.1 w.2.1 = true) (hs : ab_RepC m z) (hok : ab_ok z) (hrm : ev_rm w (ev_lc f :: ths)) (hQ : ab_PH m ths true (ab_found z i) Q) : ev_K w 226 [.ref 0, .int i, .ref 307] m (ev_lc f :: ths) Q := by
  have hp : ev_prog[226]? = some ev_m226 := rfl
  refine ⟨Or.inl rfl, ev_m226, rfl, ev_gK A hp [] 4 ?_⟩
  show ev_J w ev_m226 (ev_nd 226) Q 4 [ev_vr 0, ev_vi i, ev_vr 307, none] [.int i, .ref 0, .int (Int32.ofInt 0), .ref 307] m (ev_lc f :: ths)
  exact ev_helpV (b := 1) (idx := 74) (ex := [13]) (nn := fun j => ([12] : List Nat).getD j 0) A N hp rfl rfl rfl (ev_S130 A hs hok hrm ab_PQ_QC) ab_code_found (by decide) (fun m' v h => ev_gH A hp [] 10 ⟨rfl, ⟨by decide, by decide⟩, h⟩) (fun j hj => by
    match j, hj with
    | 0, _ => exact ⟨_, rfl, by decide +kernel⟩) (fun j hj m' t' e h => by
    match j, hj with
    | 0, _ => exact ev_gK A hp [] 5 h) hQ
theorem ab_code_blocks {x y : Int32} : (ab_blocks z x y).1 ≤ 3 := by
  unfold ab_blocks
  repeat' split
  all_goals exact Nat.le_of_ble_eq_true rfl
/-- blocks -/
theorem ev_S227 {x y : Int32} {f : Nat → Int64} {ths : ev_H} (A : ev_all w) (N : ∀ x ∈ ev_nots, x.before w.2.2.1 w.2.1 = true) (hs : ab_RepC m z) (hok : ab_ok z) (hrm : ev_rm w (ev_lc f :: ths)) (hQ : ab_PH m ths true (ab_blocks z x y) Q) : ev_K w 227 [.ref 0, .int x, .int y, .ref 307] m (ev_lc f :: ths) Q := by
  have hp : ev_prog[227]? = some ev_m227 := rfl
  refine ⟨Or.inl rfl, ev_m227, rfl, ev_gK A hp [] 5 ?_⟩
  show ev_J w ev_m227 (ev_nd 227) Q 5 [ev_vr 0, ev_vi x, ev_vi y, ev_vr 307, none] [.int y, .int x, .ref 0, .int (Int32.ofInt 0), .ref 307] m (ev_lc f :: ths)
  exact ev_helpV (b := 2) (idx := 77) (ex := [13, 11, 12]) (nn := fun j => ([13, 17, 21] : List Nat).getD j 0) A N hp rfl rfl rfl (ev_S131 A hs hok hrm ab_PQ_QC) ab_code_blocks (by decide) (fun m' v h => ev_gH A hp [] 10 ⟨rfl, ⟨by decide, by decide⟩, h⟩) (fun j hj => by
    match j, hj with
    | 0, _ => exact ⟨_, rfl, by decide +kernel⟩
    | 1, _ => exact ⟨_, rfl, by decide +kernel⟩
    | 2, _ => exact ⟨_, rfl, by decide +kernel⟩) (fun j hj m' t' e h => by
    match j, hj with
    | 0, _ => exact ev_gK A hp [] 5 h
    | 1, _ => exact ev_gK A hp [] 5 h
    | 2, _ => exact ev_gK A hp [] 5 h) hQ
theorem ab_code_block {k c : Int32} : (ab_block z k c).1 ≤ 1 := by
  unfold ab_block
  repeat' split
  all_goals exact Nat.le_of_ble_eq_true rfl
/-- block -/
theorem ev_S228 {k c : Int32} {f : Nat → Int64} {ths : ev_H} (A : ev_all w) (N : ∀ x ∈ ev_nots, x.before w.2.2.1 w.2.1 = true) (hs : ab_RepC m z) (hok : ab_ok z) (hrm : ev_rm w (ev_lc f :: ths)) (hQ : ab_PH m ths true (ab_block z k c) Q) : ev_K w 228 [.ref 0, .int k, .int c, .ref 307] m (ev_lc f :: ths) Q := by
  have hp : ev_prog[228]? = some ev_m228 := rfl
  refine ⟨Or.inl rfl, ev_m228, rfl, ev_gK A hp [] 5 ?_⟩
  show ev_J w ev_m228 (ev_nd 228) Q 5 [ev_vr 0, ev_vi k, ev_vi c, ev_vr 307, none] [.int c, .int k, .ref 0, .int (Int32.ofInt 0), .ref 307] m (ev_lc f :: ths)
  exact ev_helpV (b := 2) (idx := 80) (ex := [13]) (nn := fun j => ([13] : List Nat).getD j 0) A N hp rfl rfl rfl (ev_S132 A hs hok hrm ab_PQ_QC) ab_code_block (by decide) (fun m' v h => ev_gH A hp [] 10 ⟨rfl, ⟨by decide, by decide⟩, h⟩) (fun j hj => by
    match j, hj with
    | 0, _ => exact ⟨_, rfl, by decide +kernel⟩) (fun j hj m' t' e h => by
    match j, hj with
    | 0, _ => exact ev_gK A hp [] 5 h) hQ
theorem ab_code_parent {x y : Int32} : (ab_parent z x y).1 ≤ 2 := by
  unfold ab_parent
  repeat' split
  all_goals exact Nat.le_of_ble_eq_true rfl
/-- parent -/
theorem ev_S229 {x y : Int32} {f : Nat → Int64} {ths : ev_H} (A : ev_all w) (N : ∀ x ∈ ev_nots, x.before w.2.2.1 w.2.1 = true) (hs : ab_RepC m z) (hok : ab_ok z) (hrm : ev_rm w (ev_lc f :: ths)) (hQ : ab_PH m ths false (ab_parent z x y) Q) : ev_K w 229 [.ref 0, .int x, .int y] m (ev_lc f :: ths) Q := by
  have hp : ev_prog[229]? = some ev_m229 := rfl
  refine ⟨Or.inl rfl, ev_m229, rfl, ev_gK A hp [] 3 ?_⟩
  show ev_J w ev_m229 (ev_nd 229) Q 3 [ev_vr 0, ev_vi x, ev_vi y, none] [.int y, .int x, .ref 0] m (ev_lc f :: ths)
  exact ev_helpN (b := 2) (idx := 83) (ex := [13, 12]) (nn := fun j => ([9, 12] : List Nat).getD j 0) A N hp rfl rfl rfl (ev_S133 A hs hok hrm ab_PQ_QC) ab_code_parent (by decide) (fun m' t' h => ev_gH A hp [] 10 h) (fun j hj => by
    match j, hj with
    | 0, _ => exact ⟨_, rfl, by decide +kernel⟩
    | 1, _ => exact ⟨_, rfl, by decide +kernel⟩) (fun j hj m' t' e h => by
    match j, hj with
    | 0, _ => exact ev_gK A hp [] 5 h
    | 1, _ => exact ev_gK A hp [] 5 h) hQ
theorem ab_code_changes {x : Int32} : (ab_changes z x).1 ≤ 1 := by
  unfold ab_changes
  repeat' split
  all_goals exact Nat.le_of_ble_eq_true rfl
/-- changes -/
theorem ev_S230 {x : Int32} {f : Nat → Int64} {ths : ev_H} (A : ev_all w) (N : ∀ x ∈ ev_nots, x.before w.2.2.1 w.2.1 = true) (hs : ab_RepC m z) (hok : ab_ok z) (hrm : ev_rm w (ev_lc f :: ths)) (hQ : ab_PH m ths true (ab_changes z x) Q) : ev_K w 230 [.ref 0, .int x, .ref 307] m (ev_lc f :: ths) Q := by
  have hp : ev_prog[230]? = some ev_m230 := rfl
  refine ⟨Or.inl rfl, ev_m230, rfl, ev_gK A hp [] 4 ?_⟩
  show ev_J w ev_m230 (ev_nd 230) Q 4 [ev_vr 0, ev_vi x, ev_vr 307, none] [.int x, .ref 0, .int (Int32.ofInt 0), .ref 307] m (ev_lc f :: ths)
  exact ev_helpV (b := 1) (idx := 86) (ex := [13]) (nn := fun j => ([12] : List Nat).getD j 0) A N hp rfl rfl rfl (ev_S134 A hs hok hrm ab_PQ_QC) ab_code_changes (by decide) (fun m' v h => ev_gH A hp [] 10 ⟨rfl, ⟨by decide, by decide⟩, h⟩) (fun j hj => by
    match j, hj with
    | 0, _ => exact ⟨_, rfl, by decide +kernel⟩) (fun j hj m' t' e h => by
    match j, hj with
    | 0, _ => exact ev_gK A hp [] 5 h) hQ
end EvHelp
