/-! the law's cases -/
section EvCases
variable {w : ev_W} {Q : ev_QT} {m : ev_Mem} {t : ev_H} {z : ab_Z}
def ev_s (w : ev_W) (j : Int32) : Int32 := w.2.2.2.2.2.2.2.2.2 j.toNatClampNeg
set_option maxRecDepth 20000 in
/-- type -/
theorem ev_C0 {i : Nat} {o5 o6 : Option Value} {f : Nat → Int64} {ths : ev_H} (A : ev_all w) (N : ∀ x ∈ ev_nots, x.before w.2.2.1 w.2.1 = true) (hs : ab_RepC m z) (hM : ab_RepM m z) (hok : ab_ok z) (hrm : ev_rm w (ev_lc f :: ths)) (hi : i + 5 ≤ ev_n w) (hn : ev_n w ≤ 2560) (fin : ab_LF w Q i ths) : ev_J w ev_mlaw (12, 434) Q 152 (ev_LL i o5 o6) [] m (ev_lc f :: ths) := by
  refine ev_gL A [1504] 100 ?_
  refine And.intro (ev_bnd (k := 1) hi hn (by decide)) ?_
  refine ev_S210 A N hs hok hrm ?_
  intro m1 ths1 f1 r1 q1 l1 c1 v1
  have M1 := ab_RM_up q1 hM
  refine And.intro (ev_bnd (k := 1) hi hn (by decide)) ?_
  refine ev_S137 A M1 hok ?_
  intro m2 v r2 q2 t2 a2
  have fin2 : ∀ x5 x6 : Int32, ev_J w ev_mlaw (12, 434) Q 1504 (ev_LL i (ev_vi x5) (ev_vi x6)) [] m2 (ev_lc f1 :: ths1) := fun x5 x6 => fin _ m2 f1 ths1 _ _ (ab_ok_type hok _) (ab_RC_lo (ab_ok_type hok _) q2 r1) r2 l1 c1
  refine ev_S136 A ?_
  refine And.intro (fun _ => ?_) (fun h => absurd (congrArg Int32.toInt t2) h)
  refine And.intro (fun _ => ?_) (fun h => ?_)
  · exact fin2 _ _
  · have hz := ab_code0 (Nat.le_trans ab_code_type (by decide)) h
    refine ⟨rfl, ⟨by decide, by decide⟩, ?_⟩
    refine And.intro (fun _ => ?_) (fun h2 => ?_)
    · exact fin2 _ _
    · exfalso
      have h3 : ¬ (lg_cmp (f1 0) v.toInt64).toInt = 0 := h2
      rw [v1 rfl hz, a2 hz] at h3
      exact h3 (lg_cmp_self _)
set_option maxRecDepth 20000 in
/-- word -/
theorem ev_C2 {i : Nat} {o5 o6 : Option Value} {f : Nat → Int64} {ths : ev_H} (A : ev_all w) (N : ∀ x ∈ ev_nots, x.before w.2.2.1 w.2.1 = true) (hs : ab_RepC m z) (hM : ab_RepM m z) (hok : ab_ok z) (hrm : ev_rm w (ev_lc f :: ths)) (hi : i + 5 ≤ ev_n w) (hn : ev_n w ≤ 2560) (fin : ab_LF w Q i ths) : ev_J w ev_mlaw (12, 434) Q 246 (ev_LL i o5 o6) [] m (ev_lc f :: ths) := by
  refine ev_gL A [1504] 100 ?_
  refine And.intro (ev_bnd (k := 1) hi hn (by decide)) ?_
  refine ev_S212 A N hs hok hrm ?_
  intro m1 ths1 f1 r1 q1 l1 c1 v1
  have M1 := ab_RM_up q1 hM
  refine And.intro (ev_bnd (k := 1) hi hn (by decide)) ?_
  refine ev_S139 A M1 hok ?_
  intro m2 v r2 q2 t2 a2
  have fin2 : ∀ x5 x6 : Int32, ev_J w ev_mlaw (12, 434) Q 1504 (ev_LL i (ev_vi x5) (ev_vi x6)) [] m2 (ev_lc f1 :: ths1) := fun x5 x6 => fin _ m2 f1 ths1 _ _ (ab_ok_word hok _) (ab_RC_lo (ab_ok_word hok _) q2 r1) r2 l1 c1
  refine ev_S136 A ?_
  refine And.intro (fun _ => ?_) (fun h => absurd (congrArg Int32.toInt t2) h)
  refine And.intro (fun _ => ?_) (fun h => ?_)
  · exact fin2 _ _
  · have hz := ab_code0 (Nat.le_trans ab_code_word (by decide)) h
    refine ⟨rfl, ⟨by decide, by decide⟩, ?_⟩
    refine And.intro (fun _ => ?_) (fun h2 => ?_)
    · exact fin2 _ _
    · exfalso
      have h3 : ¬ (lg_cmp (f1 0) v.toInt64).toInt = 0 := h2
      rw [v1 rfl hz, a2 hz] at h3
      exact h3 (lg_cmp_self _)
set_option maxRecDepth 20000 in
/-- rule -/
theorem ev_C3 {i : Nat} {o5 o6 : Option Value} {f : Nat → Int64} {ths : ev_H} (A : ev_all w) (N : ∀ x ∈ ev_nots, x.before w.2.2.1 w.2.1 = true) (hs : ab_RepC m z) (hM : ab_RepM m z) (hok : ab_ok z) (hrm : ev_rm w (ev_lc f :: ths)) (hi : i + 5 ≤ ev_n w) (hn : ev_n w ≤ 2560) (fin : ab_LF w Q i ths) : ev_J w ev_mlaw (12, 434) Q 302 (ev_LL i o5 o6) [] m (ev_lc f :: ths) := by
  refine ev_gL A [1504] 100 ?_
  refine And.intro (ev_bnd (k := 1) hi hn (by decide)) ?_
  refine ev_S213 A N hs hok hrm ?_
  intro m1 ths1 f1 r1 q1 l1 c1 v1
  have M1 := ab_RM_up q1 hM
  refine And.intro (ev_bnd (k := 1) hi hn (by decide)) ?_
  refine ev_S151 A M1 hok ?_
  intro m2 v r2 q2 t2 a2
  have fin2 : ∀ x5 x6 : Int32, ev_J w ev_mlaw (12, 434) Q 1504 (ev_LL i (ev_vi x5) (ev_vi x6)) [] m2 (ev_lc f1 :: ths1) := fun x5 x6 => fin _ m2 f1 ths1 _ _ (ab_ok_rule hok _) (ab_RC_lo (ab_ok_rule hok _) q2 r1) r2 l1 c1
  refine ev_S136 A ?_
  refine And.intro (fun _ => ?_) (fun h => absurd (congrArg Int32.toInt t2) h)
  refine And.intro (fun _ => ?_) (fun h => ?_)
  · exact fin2 _ _
  · have hz := ab_code0 (Nat.le_trans ab_code_rule (by decide)) h
    refine ⟨rfl, ⟨by decide, by decide⟩, ?_⟩
    refine And.intro (fun _ => ?_) (fun h2 => ?_)
    · exact fin2 _ _
    · exfalso
      have h3 : ¬ (lg_cmp (f1 0) v.toInt64).toInt = 0 := h2
      rw [v1 rfl hz, a2 hz] at h3
      exact h3 (lg_cmp_self _)
set_option maxRecDepth 20000 in
/-- equate -/
theorem ev_C4 {i : Nat} {o5 o6 : Option Value} {f : Nat → Int64} {ths : ev_H} (A : ev_all w) (N : ∀ x ∈ ev_nots, x.before w.2.2.1 w.2.1 = true) (hs : ab_RepC m z) (hM : ab_RepM m z) (hok : ab_ok z) (hrm : ev_rm w (ev_lc f :: ths)) (hi : i + 5 ≤ ev_n w) (hn : ev_n w ≤ 2560) (fin : ab_LF w Q i ths) : ev_J w ev_mlaw (12, 434) Q 358 (ev_LL i o5 o6) [] m (ev_lc f :: ths) := by
  refine ev_gL A [1504] 100 ?_
  refine And.intro (ev_bnd (k := 1) hi hn (by decide)) ?_
  refine And.intro (ev_bnd (k := 2) hi hn (by decide)) ?_
  refine And.intro (ev_bnd (k := 3) hi hn (by decide)) ?_
  refine And.intro (ev_bnd (k := 4) hi hn (by decide)) ?_
  refine ev_S214 A N hs hok hrm ?_
  intro m1 ths1 f1 r1 q1 l1 c1 v1
  have M1 := ab_RM_up q1 hM
  refine And.intro (ev_bnd (k := 1) hi hn (by decide)) ?_
  refine And.intro (ev_bnd (k := 2) hi hn (by decide)) ?_
  refine And.intro (ev_bnd (k := 3) hi hn (by decide)) ?_
  refine And.intro (ev_bnd (k := 4) hi hn (by decide)) ?_
  refine ev_S152 A M1 hok ?_
  intro m2 v r2 q2 t2 a2
  have fin2 : ∀ x5 x6 : Int32, ev_J w ev_mlaw (12, 434) Q 1504 (ev_LL i (ev_vi x5) (ev_vi x6)) [] m2 (ev_lc f1 :: ths1) := fun x5 x6 => fin _ m2 f1 ths1 _ _ (ab_ok_equate hok _ _ _ _) (ab_RC_lo (ab_ok_equate hok _ _ _ _) q2 r1) r2 l1 c1
  refine ev_S136 A ?_
  refine And.intro (fun _ => ?_) (fun h => absurd (congrArg Int32.toInt t2) h)
  refine And.intro (fun _ => ?_) (fun h => ?_)
  · exact fin2 _ _
  · have hz := ab_code0 (Nat.le_trans ab_code_equate (by decide)) h
    refine ⟨rfl, ⟨by decide, by decide⟩, ?_⟩
    refine And.intro (fun _ => ?_) (fun h2 => ?_)
    · exact fin2 _ _
    · exfalso
      have h3 : ¬ (lg_cmp (f1 0) v.toInt64).toInt = 0 := h2
      rw [v1 rfl hz, a2 hz] at h3
      exact h3 (lg_cmp_self _)
set_option maxRecDepth 20000 in
/-- fform -/
theorem ev_C5 {i : Nat} {o5 o6 : Option Value} {f : Nat → Int64} {ths : ev_H} (A : ev_all w) (N : ∀ x ∈ ev_nots, x.before w.2.2.1 w.2.1 = true) (hs : ab_RepC m z) (hM : ab_RepM m z) (hok : ab_ok z) (hrm : ev_rm w (ev_lc f :: ths)) (hi : i + 5 ≤ ev_n w) (hn : ev_n w ≤ 2560) (fin : ab_LF w Q i ths) : ev_J w ev_mlaw (12, 434) Q 450 (ev_LL i o5 o6) [] m (ev_lc f :: ths) := by
  refine ev_gL A [1504] 100 ?_
  refine And.intro (ev_bnd (k := 1) hi hn (by decide)) ?_
  refine And.intro (ev_bnd (k := 2) hi hn (by decide)) ?_
  refine ev_S215 A N hs hok hrm ?_
  intro m1 ths1 f1 r1 q1 l1 c1 v1
  have M1 := ab_RM_up q1 hM
  refine And.intro (ev_bnd (k := 1) hi hn (by decide)) ?_
  refine And.intro (ev_bnd (k := 2) hi hn (by decide)) ?_
  refine ev_S154 A M1 hok ?_
  intro m2 v r2 q2 t2 a2
  have fin2 : ∀ x5 x6 : Int32, ev_J w ev_mlaw (12, 434) Q 1504 (ev_LL i (ev_vi x5) (ev_vi x6)) [] m2 (ev_lc f1 :: ths1) := fun x5 x6 => fin _ m2 f1 ths1 _ _ (ab_ok_same hok (ab_ok_fform _ _)) (ab_RC_lo (ab_ok_same hok (ab_ok_fform _ _)) q2 r1) r2 l1 c1
  refine ev_S136 A ?_
  refine And.intro (fun _ => ?_) (fun h => absurd (congrArg Int32.toInt t2) h)
  refine And.intro (fun _ => ?_) (fun h => ?_)
  · exact fin2 _ _
  · have hz := ab_code0 (Nat.le_trans ab_code_fform (by decide)) h
    refine ⟨rfl, ⟨by decide, by decide⟩, ?_⟩
    refine And.intro (fun _ => ?_) (fun h2 => ?_)
    · exact fin2 _ _
    · exfalso
      have h3 : ¬ (lg_cmp (f1 0) v.toInt64).toInt = 0 := h2
      rw [v1 rfl hz, a2 hz] at h3
      exact h3 (lg_cmp_self _)
set_option maxRecDepth 20000 in
/-- dist -/
theorem ev_C6 {i : Nat} {o5 o6 : Option Value} {f : Nat → Int64} {ths : ev_H} (A : ev_all w) (N : ∀ x ∈ ev_nots, x.before w.2.2.1 w.2.1 = true) (hs : ab_RepC m z) (hM : ab_RepM m z) (hok : ab_ok z) (hrm : ev_rm w (ev_lc f :: ths)) (hi : i + 5 ≤ ev_n w) (hn : ev_n w ≤ 2560) (fin : ab_LF w Q i ths) : ev_J w ev_mlaw (12, 434) Q 518 (ev_LL i o5 o6) [] m (ev_lc f :: ths) := by
  refine ev_gL A [1504] 100 ?_
  refine And.intro (ev_bnd (k := 1) hi hn (by decide)) ?_
  refine And.intro (ev_bnd (k := 2) hi hn (by decide)) ?_
  refine And.intro (ev_bnd (k := 3) hi hn (by decide)) ?_
  refine And.intro (ev_bnd (k := 4) hi hn (by decide)) ?_
  refine ev_S216 A N hs hok hrm ?_
  intro m1 ths1 f1 r1 q1 l1 c1 v1
  have M1 := ab_RM_up q1 hM
  refine And.intro (ev_bnd (k := 1) hi hn (by decide)) ?_
  refine And.intro (ev_bnd (k := 2) hi hn (by decide)) ?_
  refine And.intro (ev_bnd (k := 3) hi hn (by decide)) ?_
  refine And.intro (ev_bnd (k := 4) hi hn (by decide)) ?_
  refine ev_S155 A M1 hok ?_
  intro m2 v r2 q2 t2 a2
  have fin2 : ∀ x5 x6 : Int32, ev_J w ev_mlaw (12, 434) Q 1504 (ev_LL i (ev_vi x5) (ev_vi x6)) [] m2 (ev_lc f1 :: ths1) := fun x5 x6 => fin _ m2 f1 ths1 _ _ (ab_ok_same hok (ab_ok_dist _ _ _ _)) (ab_RC_lo (ab_ok_same hok (ab_ok_dist _ _ _ _)) q2 r1) r2 l1 c1
  refine ev_S136 A ?_
  refine And.intro (fun _ => ?_) (fun h => absurd (congrArg Int32.toInt t2) h)
  refine And.intro (fun _ => ?_) (fun h => ?_)
  · exact fin2 _ _
  · have hz := ab_code0 (Nat.le_trans ab_code_dist (by decide)) h
    refine ⟨rfl, ⟨by decide, by decide⟩, ?_⟩
    refine And.intro (fun _ => ?_) (fun h2 => ?_)
    · exact fin2 _ _
    · exfalso
      have h3 : ¬ (lg_cmp (f1 0) v.toInt64).toInt = 0 := h2
      rw [v1 rfl hz, a2 hz] at h3
      exact h3 (lg_cmp_self _)
set_option maxRecDepth 20000 in
/-- join -/
theorem ev_C7 {i : Nat} {o5 o6 : Option Value} {f : Nat → Int64} {ths : ev_H} (A : ev_all w) (N : ∀ x ∈ ev_nots, x.before w.2.2.1 w.2.1 = true) (hs : ab_RepC m z) (hM : ab_RepM m z) (hok : ab_ok z) (hrm : ev_rm w (ev_lc f :: ths)) (hi : i + 5 ≤ ev_n w) (hn : ev_n w ≤ 2560) (fin : ab_LF w Q i ths) : ev_J w ev_mlaw (12, 434) Q 610 (ev_LL i o5 o6) [] m (ev_lc f :: ths) := by
  refine ev_gL A [1504] 100 ?_
  refine And.intro (ev_bnd (k := 1) hi hn (by decide)) ?_
  refine ev_S217 A N hs hok hrm ?_
  intro m1 ths1 f1 r1 q1 l1 c1 v1
  have M1 := ab_RM_up q1 hM
  refine And.intro (ev_bnd (k := 1) hi hn (by decide)) ?_
  refine ev_S159 A M1 hok ?_
  intro m2 v r2 q2 t2 a2
  have fin2 : ∀ x5 x6 : Int32, ev_J w ev_mlaw (12, 434) Q 1504 (ev_LL i (ev_vi x5) (ev_vi x6)) [] m2 (ev_lc f1 :: ths1) := fun x5 x6 => fin _ m2 f1 ths1 _ _ (ab_ok_join hok _) (ab_RC_lo (ab_ok_join hok _) q2 r1) r2 l1 c1
  refine ev_S136 A ?_
  refine And.intro (fun _ => ?_) (fun h => absurd (congrArg Int32.toInt t2) h)
  refine And.intro (fun _ => ?_) (fun h => ?_)
  · exact fin2 _ _
  · have hz := ab_code0 (Nat.le_trans ab_code_join (by decide)) h
    refine ⟨rfl, ⟨by decide, by decide⟩, ?_⟩
    refine And.intro (fun _ => ?_) (fun h2 => ?_)
    · exact fin2 _ _
    · exfalso
      have h3 : ¬ (lg_cmp (f1 0) v.toInt64).toInt = 0 := h2
      rw [v1 rfl hz, a2 hz] at h3
      exact h3 (lg_cmp_self _)
set_option maxRecDepth 20000 in
/-- retract -/
theorem ev_C8 {i : Nat} {o5 o6 : Option Value} {f : Nat → Int64} {ths : ev_H} (A : ev_all w) (N : ∀ x ∈ ev_nots, x.before w.2.2.1 w.2.1 = true) (hs : ab_RepC m z) (hM : ab_RepM m z) (hok : ab_ok z) (hrm : ev_rm w (ev_lc f :: ths)) (hi : i + 5 ≤ ev_n w) (hn : ev_n w ≤ 2560) (fin : ab_LF w Q i ths) : ev_J w ev_mlaw (12, 434) Q 666 (ev_LL i o5 o6) [] m (ev_lc f :: ths) := by
  refine ev_gL A [1504] 100 ?_
  refine ev_S218 A N hs hok hrm ?_
  intro m1 ths1 f1 r1 q1 l1 c1 v1
  have M1 := ab_RM_up q1 hM
  refine ev_S168 A M1 hok ?_
  intro m2 v r2 q2 t2 a2
  have fin2 : ∀ x5 x6 : Int32, ev_J w ev_mlaw (12, 434) Q 1504 (ev_LL i (ev_vi x5) (ev_vi x6)) [] m2 (ev_lc f1 :: ths1) := fun x5 x6 => fin _ m2 f1 ths1 _ _ (ab_ok_retract hok) (ab_RC_lo (ab_ok_retract hok) q2 r1) r2 l1 c1
  refine ev_S136 A ?_
  refine And.intro (fun _ => ?_) (fun h => absurd (congrArg Int32.toInt t2) h)
  refine And.intro (fun _ => ?_) (fun h => ?_)
  · exact fin2 _ _
  · have hz := ab_code0 (Nat.le_trans ab_code_retract (by decide)) h
    refine ⟨rfl, ⟨by decide, by decide⟩, ?_⟩
    refine And.intro (fun _ => ?_) (fun h2 => ?_)
    · exact fin2 _ _
    · exfalso
      have h3 : ¬ (lg_cmp (f1 0) v.toInt64).toInt = 0 := h2
      rw [v1 rfl hz, a2 hz] at h3
      exact h3 (lg_cmp_self _)
set_option maxRecDepth 20000 in
/-- at -/
theorem ev_C10 {i : Nat} {o5 o6 : Option Value} {f : Nat → Int64} {ths : ev_H} (A : ev_all w) (N : ∀ x ∈ ev_nots, x.before w.2.2.1 w.2.1 = true) (hs : ab_RepC m z) (hM : ab_RepM m z) (hok : ab_ok z) (hrm : ev_rm w (ev_lc f :: ths)) (hi : i + 5 ≤ ev_n w) (hn : ev_n w ≤ 2560) (fin : ab_LF w Q i ths) : ev_J w ev_mlaw (12, 434) Q 723 (ev_LL i o5 o6) [] m (ev_lc f :: ths) := by
  refine ev_gL A [1504] 100 ?_
  refine And.intro (ev_bnd (k := 1) hi hn (by decide)) ?_
  refine And.intro (ev_bnd (k := 2) hi hn (by decide)) ?_
  refine ev_S219 A N hs hok hrm ?_
  intro m1 ths1 f1 r1 q1 l1 c1 v1
  have M1 := ab_RM_up q1 hM
  refine And.intro (ev_bnd (k := 1) hi hn (by decide)) ?_
  refine And.intro (ev_bnd (k := 2) hi hn (by decide)) ?_
  refine ev_S170 A M1 hok ?_
  intro m2 v r2 q2 t2 a2
  have fin2 : ∀ x5 x6 : Int32, ev_J w ev_mlaw (12, 434) Q 1504 (ev_LL i (ev_vi x5) (ev_vi x6)) [] m2 (ev_lc f1 :: ths1) := fun x5 x6 => fin _ m2 f1 ths1 _ _ (ab_ok_same hok (ab_ok_at _ _)) (ab_RC_lo (ab_ok_same hok (ab_ok_at _ _)) q2 r1) r2 l1 c1
  refine ev_S136 A ?_
  refine And.intro (fun _ => ?_) (fun h => absurd (congrArg Int32.toInt t2) h)
  refine And.intro (fun _ => ?_) (fun h => ?_)
  · exact fin2 _ _
  · have hz := ab_code0 (Nat.le_trans ab_code_at (by decide)) h
    refine ⟨rfl, ⟨by decide, by decide⟩, ?_⟩
    refine And.intro (fun _ => ?_) (fun h2 => ?_)
    · exact fin2 _ _
    · exfalso
      have h3 : ¬ (lg_cmp (f1 0) v.toInt64).toInt = 0 := h2
      rw [v1 rfl hz, a2 hz] at h3
      exact h3 (lg_cmp_self _)
set_option maxRecDepth 20000 in
/-- beside -/
theorem ev_C11 {i : Nat} {o5 o6 : Option Value} {f : Nat → Int64} {ths : ev_H} (A : ev_all w) (N : ∀ x ∈ ev_nots, x.before w.2.2.1 w.2.1 = true) (hs : ab_RepC m z) (hM : ab_RepM m z) (hok : ab_ok z) (hrm : ev_rm w (ev_lc f :: ths)) (hi : i + 5 ≤ ev_n w) (hn : ev_n w ≤ 2560) (fin : ab_LF w Q i ths) : ev_J w ev_mlaw (12, 434) Q 791 (ev_LL i o5 o6) [] m (ev_lc f :: ths) := by
  refine ev_gL A [1504] 100 ?_
  refine And.intro (ev_bnd (k := 1) hi hn (by decide)) ?_
  refine And.intro (ev_bnd (k := 2) hi hn (by decide)) ?_
  refine And.intro (ev_bnd (k := 3) hi hn (by decide)) ?_
  refine ev_S220 A N hs hok hrm ?_
  intro m1 ths1 f1 r1 q1 l1 c1 v1
  have M1 := ab_RM_up q1 hM
  refine And.intro (ev_bnd (k := 1) hi hn (by decide)) ?_
  refine And.intro (ev_bnd (k := 2) hi hn (by decide)) ?_
  refine And.intro (ev_bnd (k := 3) hi hn (by decide)) ?_
  refine ev_S172 A M1 hok ?_
  intro m2 v r2 q2 t2 a2
  have fin2 : ∀ x5 x6 : Int32, ev_J w ev_mlaw (12, 434) Q 1504 (ev_LL i (ev_vi x5) (ev_vi x6)) [] m2 (ev_lc f1 :: ths1) := fun x5 x6 => fin _ m2 f1 ths1 _ _ (ab_ok_same hok (ab_ok_beside _ _ _)) (ab_RC_lo (ab_ok_same hok (ab_ok_beside _ _ _)) q2 r1) r2 l1 c1
  refine ev_S136 A ?_
  refine And.intro (fun _ => ?_) (fun h => absurd (congrArg Int32.toInt t2) h)
  refine And.intro (fun _ => ?_) (fun h => ?_)
  · exact fin2 _ _
  · have hz := ab_code0 (Nat.le_trans ab_code_beside (by decide)) h
    refine ⟨rfl, ⟨by decide, by decide⟩, ?_⟩
    refine And.intro (fun _ => ?_) (fun h2 => ?_)
    · exact fin2 _ _
    · exfalso
      have h3 : ¬ (lg_cmp (f1 0) v.toInt64).toInt = 0 := h2
      rw [v1 rfl hz, a2 hz] at h3
      exact h3 (lg_cmp_self _)
set_option maxRecDepth 20000 in
/-- outc -/
theorem ev_C15 {i : Nat} {o5 o6 : Option Value} {f : Nat → Int64} {ths : ev_H} (A : ev_all w) (N : ∀ x ∈ ev_nots, x.before w.2.2.1 w.2.1 = true) (hs : ab_RepC m z) (hM : ab_RepM m z) (hok : ab_ok z) (hrm : ev_rm w (ev_lc f :: ths)) (hi : i + 5 ≤ ev_n w) (hn : ev_n w ≤ 2560) (fin : ab_LF w Q i ths) : ev_J w ev_mlaw (12, 434) Q 996 (ev_LL i o5 o6) [] m (ev_lc f :: ths) := by
  refine ev_gL A [1504] 100 ?_
  refine And.intro (ev_bnd (k := 1) hi hn (by decide)) ?_
  refine ev_S223 A N hs hok hrm ?_
  intro m1 ths1 f1 r1 q1 l1 c1 v1
  have M1 := ab_RM_up q1 hM
  refine And.intro (ev_bnd (k := 1) hi hn (by decide)) ?_
  refine ev_S184 A M1 hok ?_
  intro m2 v r2 q2 t2 a2
  have fin2 : ∀ x5 x6 : Int32, ev_J w ev_mlaw (12, 434) Q 1504 (ev_LL i (ev_vi x5) (ev_vi x6)) [] m2 (ev_lc f1 :: ths1) := fun x5 x6 => fin _ m2 f1 ths1 _ _ (ab_ok_same hok (ab_ok_outc _)) (ab_RC_lo (ab_ok_same hok (ab_ok_outc _)) q2 r1) r2 l1 c1
  refine ev_S136 A ?_
  refine And.intro (fun _ => ?_) (fun h => absurd (congrArg Int32.toInt t2) h)
  refine And.intro (fun _ => ?_) (fun h => ?_)
  · exact fin2 _ _
  · have hz := ab_code0 (Nat.le_trans ab_code_outc (by decide)) h
    refine ⟨rfl, ⟨by decide, by decide⟩, ?_⟩
    refine And.intro (fun _ => ?_) (fun h2 => ?_)
    · exact fin2 _ _
    · exfalso
      have h3 : ¬ (lg_cmp (f1 0) v.toInt64).toInt = 0 := h2
      rw [v1 rfl hz, a2 hz] at h3
      exact h3 (lg_cmp_self _)
set_option maxRecDepth 20000 in
/-- rebuild -/
theorem ev_C17 {i : Nat} {o5 o6 : Option Value} {f : Nat → Int64} {ths : ev_H} (A : ev_all w) (N : ∀ x ∈ ev_nots, x.before w.2.2.1 w.2.1 = true) (hs : ab_RepC m z) (hM : ab_RepM m z) (hok : ab_ok z) (hrm : ev_rm w (ev_lc f :: ths)) (hi : i + 5 ≤ ev_n w) (hn : ev_n w ≤ 2560) (fin : ab_LF w Q i ths) : ev_J w ev_mlaw (12, 434) Q 1102 (ev_LL i o5 o6) [] m (ev_lc f :: ths) := by
  refine ev_gL A [1504] 100 ?_
  refine And.intro (ev_bnd (k := 1) hi hn (by decide)) ?_
  refine ev_S225 A N hs hok hrm ?_
  intro m1 ths1 f1 r1 q1 l1 c1 v1
  have M1 := ab_RM_up q1 hM
  refine And.intro (ev_bnd (k := 1) hi hn (by decide)) ?_
  refine ev_S186 A M1 hok ?_
  intro m2 v r2 q2 t2 a2
  have fin2 : ∀ x5 x6 : Int32, ev_J w ev_mlaw (12, 434) Q 1504 (ev_LL i (ev_vi x5) (ev_vi x6)) [] m2 (ev_lc f1 :: ths1) := fun x5 x6 => fin _ m2 f1 ths1 _ _ (ab_ok_rebuild hok _) (ab_RC_lo (ab_ok_rebuild hok _) q2 r1) r2 l1 c1
  refine ev_S136 A ?_
  refine And.intro (fun _ => ?_) (fun h => absurd (congrArg Int32.toInt t2) h)
  refine And.intro (fun _ => ?_) (fun h => ?_)
  · exact fin2 _ _
  · have hz := ab_code0 (Nat.le_trans ab_code_rebuild (by decide)) h
    refine ⟨rfl, ⟨by decide, by decide⟩, ?_⟩
    refine And.intro (fun _ => ?_) (fun h2 => ?_)
    · exact fin2 _ _
    · exfalso
      have h3 : ¬ (lg_cmp (f1 0) v.toInt64).toInt = 0 := h2
      rw [v1 rfl hz, a2 hz] at h3
      exact h3 (lg_cmp_self _)
set_option maxRecDepth 20000 in
/-- found -/
theorem ev_C20 {i : Nat} {o5 o6 : Option Value} {f : Nat → Int64} {ths : ev_H} (A : ev_all w) (N : ∀ x ∈ ev_nots, x.before w.2.2.1 w.2.1 = true) (hs : ab_RepC m z) (hM : ab_RepM m z) (hok : ab_ok z) (hrm : ev_rm w (ev_lc f :: ths)) (hi : i + 5 ≤ ev_n w) (hn : ev_n w ≤ 2560) (fin : ab_LF w Q i ths) : ev_J w ev_mlaw (12, 434) Q 1208 (ev_LL i o5 o6) [] m (ev_lc f :: ths) := by
  refine ev_gL A [1504] 100 ?_
  refine And.intro (ev_bnd (k := 1) hi hn (by decide)) ?_
  refine ev_S226 A N hs hok hrm ?_
  intro m1 ths1 f1 r1 q1 l1 c1 v1
  have M1 := ab_RM_up q1 hM
  refine And.intro (ev_bnd (k := 1) hi hn (by decide)) ?_
  refine ev_S201 A M1 hok ?_
  intro m2 v r2 q2 t2 a2
  have fin2 : ∀ x5 x6 : Int32, ev_J w ev_mlaw (12, 434) Q 1504 (ev_LL i (ev_vi x5) (ev_vi x6)) [] m2 (ev_lc f1 :: ths1) := fun x5 x6 => fin _ m2 f1 ths1 _ _ (ab_ok_same hok (ab_ok_found _)) (ab_RC_lo (ab_ok_same hok (ab_ok_found _)) q2 r1) r2 l1 c1
  refine ev_S136 A ?_
  refine And.intro (fun _ => ?_) (fun h => absurd (congrArg Int32.toInt t2) h)
  refine And.intro (fun _ => ?_) (fun h => ?_)
  · exact fin2 _ _
  · have hz := ab_code0 (Nat.le_trans ab_code_found (by decide)) h
    refine ⟨rfl, ⟨by decide, by decide⟩, ?_⟩
    refine And.intro (fun _ => ?_) (fun h2 => ?_)
    · exact fin2 _ _
    · exfalso
      have h3 : ¬ (lg_cmp (f1 0) v.toInt64).toInt = 0 := h2
      rw [v1 rfl hz, a2 hz] at h3
      exact h3 (lg_cmp_self _)
set_option maxRecDepth 20000 in
/-- blocks -/
theorem ev_C21 {i : Nat} {o5 o6 : Option Value} {f : Nat → Int64} {ths : ev_H} (A : ev_all w) (N : ∀ x ∈ ev_nots, x.before w.2.2.1 w.2.1 = true) (hs : ab_RepC m z) (hM : ab_RepM m z) (hok : ab_ok z) (hrm : ev_rm w (ev_lc f :: ths)) (hi : i + 5 ≤ ev_n w) (hn : ev_n w ≤ 2560) (fin : ab_LF w Q i ths) : ev_J w ev_mlaw (12, 434) Q 1264 (ev_LL i o5 o6) [] m (ev_lc f :: ths) := by
  refine ev_gL A [1504] 100 ?_
  refine And.intro (ev_bnd (k := 1) hi hn (by decide)) ?_
  refine And.intro (ev_bnd (k := 2) hi hn (by decide)) ?_
  refine ev_S227 A N hs hok hrm ?_
  intro m1 ths1 f1 r1 q1 l1 c1 v1
  have M1 := ab_RM_up q1 hM
  refine And.intro (ev_bnd (k := 1) hi hn (by decide)) ?_
  refine And.intro (ev_bnd (k := 2) hi hn (by decide)) ?_
  refine ev_S202 A M1 hok ?_
  intro m2 v r2 q2 t2 a2
  have fin2 : ∀ x5 x6 : Int32, ev_J w ev_mlaw (12, 434) Q 1504 (ev_LL i (ev_vi x5) (ev_vi x6)) [] m2 (ev_lc f1 :: ths1) := fun x5 x6 => fin _ m2 f1 ths1 _ _ (ab_ok_blocks hok _ _) (ab_RC_lo (ab_ok_blocks hok _ _) q2 r1) r2 l1 c1
  refine ev_S136 A ?_
  refine And.intro (fun _ => ?_) (fun h => absurd (congrArg Int32.toInt t2) h)
  refine And.intro (fun _ => ?_) (fun h => ?_)
  · exact fin2 _ _
  · have hz := ab_code0 (Nat.le_trans ab_code_blocks (by decide)) h
    refine ⟨rfl, ⟨by decide, by decide⟩, ?_⟩
    refine And.intro (fun _ => ?_) (fun h2 => ?_)
    · exact fin2 _ _
    · exfalso
      have h3 : ¬ (lg_cmp (f1 0) v.toInt64).toInt = 0 := h2
      rw [v1 rfl hz, a2 hz] at h3
      exact h3 (lg_cmp_self _)
set_option maxRecDepth 20000 in
/-- block -/
theorem ev_C22 {i : Nat} {o5 o6 : Option Value} {f : Nat → Int64} {ths : ev_H} (A : ev_all w) (N : ∀ x ∈ ev_nots, x.before w.2.2.1 w.2.1 = true) (hs : ab_RepC m z) (hM : ab_RepM m z) (hok : ab_ok z) (hrm : ev_rm w (ev_lc f :: ths)) (hi : i + 5 ≤ ev_n w) (hn : ev_n w ≤ 2560) (fin : ab_LF w Q i ths) : ev_J w ev_mlaw (12, 434) Q 1332 (ev_LL i o5 o6) [] m (ev_lc f :: ths) := by
  refine ev_gL A [1504] 100 ?_
  refine And.intro (ev_bnd (k := 1) hi hn (by decide)) ?_
  refine And.intro (ev_bnd (k := 2) hi hn (by decide)) ?_
  refine ev_S228 A N hs hok hrm ?_
  intro m1 ths1 f1 r1 q1 l1 c1 v1
  have M1 := ab_RM_up q1 hM
  refine And.intro (ev_bnd (k := 1) hi hn (by decide)) ?_
  refine And.intro (ev_bnd (k := 2) hi hn (by decide)) ?_
  refine ev_S204 A M1 hok ?_
  intro m2 v r2 q2 t2 a2
  have fin2 : ∀ x5 x6 : Int32, ev_J w ev_mlaw (12, 434) Q 1504 (ev_LL i (ev_vi x5) (ev_vi x6)) [] m2 (ev_lc f1 :: ths1) := fun x5 x6 => fin _ m2 f1 ths1 _ _ (ab_ok_same hok (ab_ok_block _ _)) (ab_RC_lo (ab_ok_same hok (ab_ok_block _ _)) q2 r1) r2 l1 c1
  refine ev_S136 A ?_
  refine And.intro (fun _ => ?_) (fun h => absurd (congrArg Int32.toInt t2) h)
  refine And.intro (fun _ => ?_) (fun h => ?_)
  · exact fin2 _ _
  · have hz := ab_code0 (Nat.le_trans ab_code_block (by decide)) h
    refine ⟨rfl, ⟨by decide, by decide⟩, ?_⟩
    refine And.intro (fun _ => ?_) (fun h2 => ?_)
    · exact fin2 _ _
    · exfalso
      have h3 : ¬ (lg_cmp (f1 0) v.toInt64).toInt = 0 := h2
      rw [v1 rfl hz, a2 hz] at h3
      exact h3 (lg_cmp_self _)
set_option maxRecDepth 20000 in
/-- changes -/
theorem ev_C24 {i : Nat} {o5 o6 : Option Value} {f : Nat → Int64} {ths : ev_H} (A : ev_all w) (N : ∀ x ∈ ev_nots, x.before w.2.2.1 w.2.1 = true) (hs : ab_RepC m z) (hM : ab_RepM m z) (hok : ab_ok z) (hrm : ev_rm w (ev_lc f :: ths)) (hi : i + 5 ≤ ev_n w) (hn : ev_n w ≤ 2560) (fin : ab_LF w Q i ths) : ev_J w ev_mlaw (12, 434) Q 1448 (ev_LL i o5 o6) [] m (ev_lc f :: ths) := by
  refine ev_gL A [1504] 100 ?_
  refine And.intro (ev_bnd (k := 1) hi hn (by decide)) ?_
  refine ev_S230 A N hs hok hrm ?_
  intro m1 ths1 f1 r1 q1 l1 c1 v1
  have M1 := ab_RM_up q1 hM
  refine And.intro (ev_bnd (k := 1) hi hn (by decide)) ?_
  refine ev_S206 A M1 hok ?_
  intro m2 v r2 q2 t2 a2
  have fin2 : ∀ x5 x6 : Int32, ev_J w ev_mlaw (12, 434) Q 1504 (ev_LL i (ev_vi x5) (ev_vi x6)) [] m2 (ev_lc f1 :: ths1) := fun x5 x6 => fin _ m2 f1 ths1 _ _ (ab_ok_same hok (ab_ok_changes _)) (ab_RC_lo (ab_ok_same hok (ab_ok_changes _)) q2 r1) r2 l1 c1
  refine ev_S136 A ?_
  refine And.intro (fun _ => ?_) (fun h => absurd (congrArg Int32.toInt t2) h)
  refine And.intro (fun _ => ?_) (fun h => ?_)
  · exact fin2 _ _
  · have hz := ab_code0 (Nat.le_trans ab_code_changes (by decide)) h
    refine ⟨rfl, ⟨by decide, by decide⟩, ?_⟩
    refine And.intro (fun _ => ?_) (fun h2 => ?_)
    · exact fin2 _ _
    · exfalso
      have h3 : ¬ (lg_cmp (f1 0) v.toInt64).toInt = 0 := h2
      rw [v1 rfl hz, a2 hz] at h3
      exact h3 (lg_cmp_self _)
set_option maxRecDepth 20000 in
/-- cut -/
theorem ev_C1 {i : Nat} {o5 o6 : Option Value} {f : Nat → Int64} {ths : ev_H} (A : ev_all w) (N : ∀ x ∈ ev_nots, x.before w.2.2.1 w.2.1 = true) (hs : ab_RepC m z) (hM : ab_RepM m z) (hok : ab_ok z) (hrm : ev_rm w (ev_lc f :: ths)) (hi : i + 5 ≤ ev_n w) (hn : ev_n w ≤ 2560) (fin : ab_LF w Q i ths) : ev_J w ev_mlaw (12, 434) Q 210 (ev_LL i o5 o6) [] m (ev_lc f :: ths) := by
  refine ev_gL A [1504] 100 ?_
  refine And.intro (ev_bnd (k := 1) hi hn (by decide)) ?_
  refine ev_S211 A N hs hok hrm ?_
  intro m1 ths1 f1 r1 q1 l1 c1 v1
  have M1 := ab_RM_up q1 hM
  refine And.intro (ev_bnd (k := 1) hi hn (by decide)) ?_
  refine ev_S138 A M1 hok ?_
  intro m2 v r2 q2 t2 a2
  refine ev_S136 A ?_
  refine And.intro (fun _ => ?_) (fun h => absurd (congrArg Int32.toInt t2) h)
  exact fin _ m2 f1 ths1 _ _ (ab_ok_cut hok _) (ab_RC_lo (ab_ok_cut hok _) q2 r1) r2 l1 c1
set_option maxRecDepth 20000 in
/-- base -/
theorem ev_C12 {i : Nat} {o5 o6 : Option Value} {f : Nat → Int64} {ths : ev_H} (A : ev_all w) (N : ∀ x ∈ ev_nots, x.before w.2.2.1 w.2.1 = true) (hs : ab_RepC m z) (hM : ab_RepM m z) (hok : ab_ok z) (hrm : ev_rm w (ev_lc f :: ths)) (hi : i + 5 ≤ ev_n w) (hn : ev_n w ≤ 2560) (fin : ab_LF w Q i ths) : ev_J w ev_mlaw (12, 434) Q 871 (ev_LL i o5 o6) [] m (ev_lc f :: ths) := by
  refine ev_gL A [1504] 100 ?_
  refine And.intro (ev_bnd (k := 1) hi hn (by decide)) ?_
  refine ev_S221 A N hs hok hrm ?_
  intro m1 ths1 f1 r1 q1 l1 c1 v1
  have M1 := ab_RM_up q1 hM
  refine And.intro (ev_bnd (k := 1) hi hn (by decide)) ?_
  refine ev_S174 A M1 hok ?_
  intro m2 v r2 q2 t2 a2
  refine ev_S136 A ?_
  refine And.intro (fun _ => ?_) (fun h => absurd (congrArg Int32.toInt t2) h)
  exact fin _ m2 f1 ths1 _ _ (ab_ok_base hok _) (ab_RC_lo (ab_ok_base hok _) q2 r1) r2 l1 c1
set_option maxRecDepth 20000 in
/-- choose -/
theorem ev_C13 {i : Nat} {o5 o6 : Option Value} {f : Nat → Int64} {ths : ev_H} (A : ev_all w) (N : ∀ x ∈ ev_nots, x.before w.2.2.1 w.2.1 = true) (hs : ab_RepC m z) (hM : ab_RepM m z) (hok : ab_ok z) (hrm : ev_rm w (ev_lc f :: ths)) (hi : i + 5 ≤ ev_n w) (hn : ev_n w ≤ 2560) (fin : ab_LF w Q i ths) : ev_J w ev_mlaw (12, 434) Q 907 (ev_LL i o5 o6) [] m (ev_lc f :: ths) := by
  refine ev_gL A [1504] 100 ?_
  refine And.intro (ev_bnd (k := 1) hi hn (by decide)) ?_
  refine And.intro (ev_bnd (k := 2) hi hn (by decide)) ?_
  refine ev_S222 A N hs hok hrm ?_
  intro m1 ths1 f1 r1 q1 l1 c1 v1
  have M1 := ab_RM_up q1 hM
  refine And.intro (ev_bnd (k := 1) hi hn (by decide)) ?_
  refine And.intro (ev_bnd (k := 2) hi hn (by decide)) ?_
  refine ev_S175 A M1 hok ?_
  intro m2 v r2 q2 t2 a2
  refine ev_S136 A ?_
  refine And.intro (fun _ => ?_) (fun h => absurd (congrArg Int32.toInt t2) h)
  exact fin _ m2 f1 ths1 _ _ (ab_ok_choose hok _ _) (ab_RC_lo (ab_ok_choose hok _ _) q2 r1) r2 l1 c1
set_option maxRecDepth 20000 in
/-- amend -/
theorem ev_C16 {i : Nat} {o5 o6 : Option Value} {f : Nat → Int64} {ths : ev_H} (A : ev_all w) (N : ∀ x ∈ ev_nots, x.before w.2.2.1 w.2.1 = true) (hs : ab_RepC m z) (hM : ab_RepM m z) (hok : ab_ok z) (hrm : ev_rm w (ev_lc f :: ths)) (hi : i + 5 ≤ ev_n w) (hn : ev_n w ≤ 2560) (fin : ab_LF w Q i ths) : ev_J w ev_mlaw (12, 434) Q 1052 (ev_LL i o5 o6) [] m (ev_lc f :: ths) := by
  refine ev_gL A [1504] 100 ?_
  refine And.intro (ev_bnd (k := 1) hi hn (by decide)) ?_
  refine And.intro (ev_bnd (k := 2) hi hn (by decide)) ?_
  refine ev_S224 A N hs hok hrm (ab_i2c16 _) ?_
  intro m1 ths1 f1 r1 q1 l1 c1 v1
  have M1 := ab_RM_up q1 hM
  refine And.intro (ev_bnd (k := 1) hi hn (by decide)) ?_
  refine And.intro (ev_bnd (k := 2) hi hn (by decide)) ?_
  refine ev_S185 A M1 hok ?_
  intro m2 v r2 q2 t2 a2
  refine ev_S136 A ?_
  refine And.intro (fun _ => ?_) (fun h => absurd (congrArg Int32.toInt t2) h)
  exact fin _ m2 f1 ths1 _ _ (ab_ok_amend hok _ (ab_i2c16 _)) (ab_RC_lo (ab_ok_amend hok _ (ab_i2c16 _)) q2 r1) r2 l1 c1
set_option maxRecDepth 20000 in
/-- parent -/
theorem ev_C23 {i : Nat} {o5 o6 : Option Value} {f : Nat → Int64} {ths : ev_H} (A : ev_all w) (N : ∀ x ∈ ev_nots, x.before w.2.2.1 w.2.1 = true) (hs : ab_RepC m z) (hM : ab_RepM m z) (hok : ab_ok z) (hrm : ev_rm w (ev_lc f :: ths)) (hi : i + 5 ≤ ev_n w) (hn : ev_n w ≤ 2560) (fin : ab_LF w Q i ths) : ev_J w ev_mlaw (12, 434) Q 1400 (ev_LL i o5 o6) [] m (ev_lc f :: ths) := by
  refine ev_gL A [1504] 100 ?_
  refine And.intro (ev_bnd (k := 1) hi hn (by decide)) ?_
  refine And.intro (ev_bnd (k := 2) hi hn (by decide)) ?_
  refine ev_S229 A N hs hok hrm ?_
  intro m1 ths1 f1 r1 q1 l1 c1 v1
  have M1 := ab_RM_up q1 hM
  refine And.intro (ev_bnd (k := 1) hi hn (by decide)) ?_
  refine And.intro (ev_bnd (k := 2) hi hn (by decide)) ?_
  refine ev_S205 A M1 hok ?_
  intro m2 v r2 q2 t2 a2
  refine ev_S136 A ?_
  refine And.intro (fun _ => ?_) (fun h => absurd (congrArg Int32.toInt t2) h)
  exact fin _ m2 f1 ths1 _ _ (ab_ok_parent hok _ _) (ab_RC_lo (ab_ok_parent hok _ _) q2 r1) r2 l1 c1
set_option maxRecDepth 20000 in
/-- places -/
theorem ev_C9 {i : Nat} {o5 o6 : Option Value} {f : Nat → Int64} {ths : ev_H} (A : ev_all w) (N : ∀ x ∈ ev_nots, x.before w.2.2.1 w.2.1 = true) (hs : ab_RepC m z) (hM : ab_RepM m z) (hok : ab_ok z) (hrm : ev_rm w (ev_lc f :: ths)) (hi : i + 5 ≤ ev_n w) (hn : ev_n w ≤ 2560) (fin : ab_LF w Q i ths) : ev_J w ev_mlaw (12, 434) Q 710 (ev_LL i o5 o6) [] m (ev_lc f :: ths) := by
  refine ev_gL A [1504] 100 ?_
  refine ev_S104 A hs hok ?_
  intro m1 r1 q1
  refine ⟨fun _ => ?_, fun h => absurd rfl h⟩
  have M1 := ab_RM_up q1 hM
  refine ev_S169 A M1 ?_
  intro m2 v r2 q2 t2 a2
  refine And.intro (fun _ => ?_) (fun h => absurd (congrArg Int32.toInt (a2 rfl).symm) h)
  exact fin _ m2 f ths _ _ (hok) (ab_RC_lo (hok) q2 r1) r2 (Nat.le_succ _) (by omega)
set_option maxRecDepth 20000 in
/-- built -/
theorem ev_C18 {i : Nat} {o5 o6 : Option Value} {f : Nat → Int64} {ths : ev_H} (A : ev_all w) (N : ∀ x ∈ ev_nots, x.before w.2.2.1 w.2.1 = true) (hs : ab_RepC m z) (hM : ab_RepM m z) (hok : ab_ok z) (hrm : ev_rm w (ev_lc f :: ths)) (hi : i + 5 ≤ ev_n w) (hn : ev_n w ≤ 2560) (fin : ab_LF w Q i ths) : ev_J w ev_mlaw (12, 434) Q 1158 (ev_LL i o5 o6) [] m (ev_lc f :: ths) := by
  refine ev_gL A [1504] 100 ?_
  refine And.intro (ev_bnd (k := 1) hi hn (by decide)) ?_
  refine And.intro (ev_bnd (k := 2) hi hn (by decide)) ?_
  refine ev_S107 A hs hok ?_
  intro m1 r1 q1
  refine ⟨fun _ => ?_, fun h => absurd rfl h⟩
  have M1 := ab_RM_up q1 hM
  refine And.intro (ev_bnd (k := 1) hi hn (by decide)) ?_
  refine And.intro (ev_bnd (k := 2) hi hn (by decide)) ?_
  refine ev_S198 A M1 hok ?_
  intro m2 v r2 q2 t2 a2
  refine And.intro (fun _ => ?_) (fun h => absurd (congrArg Int32.toInt (a2 rfl).symm) h)
  exact fin _ m2 f ths _ _ (hok) (ab_RC_lo (hok) q2 r1) r2 (Nat.le_succ _) (by omega)
set_option maxRecDepth 20000 in
/-- concord -/
theorem ev_C19 {i : Nat} {o5 o6 : Option Value} {f : Nat → Int64} {ths : ev_H} (A : ev_all w) (N : ∀ x ∈ ev_nots, x.before w.2.2.1 w.2.1 = true) (hs : ab_RepC m z) (hM : ab_RepM m z) (hok : ab_ok z) (hrm : ev_rm w (ev_lc f :: ths)) (hi : i + 5 ≤ ev_n w) (hn : ev_n w ≤ 2560) (fin : ab_LF w Q i ths) : ev_J w ev_mlaw (12, 434) Q 1195 (ev_LL i o5 o6) [] m (ev_lc f :: ths) := by
  refine ev_gL A [1504] 100 ?_
  refine ev_S108 A hs hok ?_
  intro m1 r1 q1
  refine ⟨fun _ => ?_, fun h => absurd rfl h⟩
  have M1 := ab_RM_up q1 hM
  refine ev_S199 A M1 hok ?_
  intro m2 v r2 q2 t2 a2
  refine And.intro (fun _ => ?_) (fun h => absurd (congrArg Int32.toInt (a2 rfl).symm) h)
  exact fin _ m2 f ths _ _ (ab_ok_concord hok) (ab_RC_lo (ab_ok_concord hok) q2 r1) r2 (Nat.le_succ _) (by omega)
set_option maxRecDepth 20000 in
/-- apparatus -/
theorem ev_C14 {i : Nat} {o5 o6 : Option Value} {f : Nat → Int64} {ths : ev_H} (A : ev_all w) (N : ∀ x ∈ ev_nots, x.before w.2.2.1 w.2.1 = true) (hs : ab_RepC m z) (hM : ab_RepM m z) (hok : ab_ok z) (hrm : ev_rm w (ev_lc f :: ths)) (hi : i + 5 ≤ ev_n w) (hn : ev_n w ≤ 2560) (fin : ab_LF w Q i ths) : ev_J w ev_mlaw (12, 434) Q 955 (ev_LL i o5 o6) [] m (ev_lc f :: ths) := by
  have h970 : ∀ neg : Bool, ((ev_s w (Int32.ofNat i + Int32.ofInt 1)).toInt = 0 ↔ neg = false) → ev_J w ev_mlaw (12, 434) Q 970 (ev_LL i o5 o6) [.int (ab_bi neg), .ref 0] m (ev_lc f :: ths) := by
    intro neg hneg
    refine ev_gL A [1504] 100 ?_
    refine ev_S105 A hs hok ?_
    intro m1 r1 q1
    refine ⟨fun _ => ?_, fun h => absurd rfl h⟩
    have M1 := ab_RM_up q1 hM
    refine And.intro (ev_bnd (k := 1) hi hn (by decide)) ?_
    have fin2 : ∀ m2 : ev_Mem, ab_RepM m2 (ab_app z neg).2.2 → (∀ c i, c < 277 → m2 c i = m1 c i) → ev_J w ev_mlaw (12, 434) Q 1504 (ev_LL i o5 o6) [] m2 (ev_lc f :: ths) := fun m2 r2 q2 => fin _ m2 f ths _ _ (ab_ok_app hok neg) (ab_RC_lo (ab_ok_app hok neg) q2 r1) r2 (Nat.le_succ _) (Nat.le_add_right _ _)
    refine And.intro (fun (h : (ev_s w (Int32.ofNat i + Int32.ofInt 1)).toInt = 0) => ?_) (fun (h : ¬ (ev_s w (Int32.ofNat i + Int32.ofInt 1)).toInt = 0) => ?_)
    · have e := hneg.mp h
      subst e
      refine ev_S176 (neg := false) A M1 hok ?_
      intro m2 v r2 q2 t2 a2
      refine And.intro (fun _ => ?_) (fun h => absurd (congrArg Int32.toInt (a2 rfl).symm) h)
      exact fin2 m2 r2 q2
    · have e : neg = true := by
        cases neg with
        | true => rfl
        | false => exact absurd (hneg.mpr rfl) h
      subst e
      refine ev_S176 (neg := true) A M1 hok ?_
      intro m2 v r2 q2 t2 a2
      refine And.intro (fun _ => ?_) (fun h => absurd (congrArg Int32.toInt (a2 rfl).symm) h)
      exact fin2 m2 r2 q2
  refine ev_gL A [970] 20 ?_
  refine And.intro (ev_bnd (k := 1) hi hn (by decide)) ?_
  refine And.intro (fun (h : (ev_s w (Int32.ofNat i + Int32.ofInt 1)).toInt = 0) => h970 false ⟨fun _ => rfl, fun _ => h⟩) (fun (h : ¬ (ev_s w (Int32.ofNat i + Int32.ofInt 1)).toInt = 0) => h970 true ⟨fun q => absurd q h, fun q => by cases q⟩)
end EvCases
