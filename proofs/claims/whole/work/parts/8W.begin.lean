/-! the law's beginning: the two objects are made, and its long[1] -/
section EvBegin
variable {w : ev_W} {M : ev_M} {d : Nat × Nat} {h0 : ev_H} {pc : Nat} {L : List (Option Value)} {st : List Value} {h : ev_H}
theorem ev_G_mono {Q Q' : ev_R → ev_H → Prop} (hq : ∀ r h', Q r h' → Q' r h') (k : ev_G w M d h0 Q pc L st h) : ev_G w M d h0 Q' pc L st h := by
  intro p e R s m args below meth c H locs ls C T hT X
  obtain ⟨t, a1, o, b1, b2, r, h', q1, q2⟩ := k p e R s m args below meth c H locs ls C T hT X
  exact ⟨t, a1, o, b1, b2, r, h', hq r h' q1, q2⟩
theorem ev_run1_of : ∃ h, ev_call (601024, 7293034) 5000 6 103 [.ref 0] [.inr (9, ev_dft ev_q9)] = some (.inl none, h) ∧ ev_sameh (ev_st1 ev_M0) h = true := by
  have h := ev_run1_ok
  unfold ev_run1 at h
  split at h
  · rename_i h' e
    exact ⟨h', e, h⟩
  · cases h
theorem ev_run2_of : ∃ h, ev_call (601024, 7293034) 5000 6 135 [.ref 277] (ev_st1 ev_M0 ++ [.inr (10, ev_dft ev_q10)]) = some (.inl none, h) ∧ ev_sameh (ev_st ev_M0) h = true := by
  have h := ev_run2_ok
  unfold ev_run2 at h
  split at h
  · rename_i h' e
    exact ⟨h', e, h⟩
  · cases h
/-- a constructor's call in the law -/
theorem ev_ctor {Q : ev_R → ev_H → Prop} (A : ev_all w) (c : ev_cpw w = (601024, 7293034)) {k x idx : Nat} {st : List Value} {h h2 : ev_H} {M' : ev_M} (hp : ev_prog[k]? = some M') (hk : k < 900) (hi : ev_ins ev_mlaw pc = some (.invokespecial idx, k, 0)) (e : ev_call (601024, 7293034) 5000 6 k [.ref x] h = some (.inl none, h2)) (hr1 : (ev_nd k).1 + 1 ≤ 12) (hr2 : ev_csum st + (M'.2.2.1 + 11) + (ev_nd k).2 ≤ 434)
    (kk : ev_G w ev_mlaw (12, 434) h0 Q (pc + 3) L st h2) : ev_G w ev_mlaw (12, 434) h0 Q pc L (.ref x :: st) h := by
  rw [← c] at e
  obtain ⟨M2, p1, p2, p3⟩ := ev_call_ok A.1 A.2 ev_prog_ok 6 k [.ref x] h (.inl none) h2 e
  cases hp.symm.trans p1
  refine ev_inv_ok A.1 ev_klawd ev_klawl hi (vs := [.ref x]) (rest := st) ?_ hp p2 hr1 hr2 p3 (fun v h' hq => ?_) (fun k' ce h' hq _ => ?_)
  · simp [ev_inv, hk, ev_cats]
  · obtain ⟨e1, rfl⟩ := hq
    cases e1
    exact kk
  · cases hq.1
theorem ev_st1_len : (ev_st1 ev_M0).length = 277 := by decide +kernel
theorem ev_cost1 : ev_cost (ev_st1 ev_M0) + 47 ≤ 1000000 := by decide +kernel
theorem ev_lawn1 : (ev_has (.classLink "WitnessBenchLaw" 8 "WitnessBench") && ev_has (.instantiable "WitnessBench" 12) && ev_has (.initialized "WitnessBench") && ev_has (.classLink "WitnessBenchLaw" 90 "WitnessBenchModel") && ev_has (.instantiable "WitnessBenchModel" 47) && ev_has (.initialized "WitnessBenchModel") && ev_has (.arrayClass .long)) = true := by decide +kernel
theorem ev_law_body (A : ev_all w) (N : ∀ x ∈ ev_nots, x.before w.2.2.1 w.2.1 = true) (c1 : w.2.2.2.2.2.2.1 = 601024) (c2 : w.2.2.2.2.2.2.2.1 = 7293034) (hn : ev_n w ≤ 2560) : ev_G w ev_mlaw (12, 434) [] ev_one 0 (ev_L0 7 [.retAddr 0]) [] [] := by
  have hl := ev_lawn1
  simp only [Bool.and_eq_true] at hl
  obtain ⟨⟨⟨⟨⟨⟨l1, l2⟩, l3⟩, l4⟩, l5⟩, l6⟩, l7⟩ := hl
  have hcp : ev_cpw w = (601024, 7293034) := by unfold ev_cpw; rw [c1, c2]
  obtain ⟨g1, e1, s1⟩ := ev_run1_of
  obtain ⟨g2, e2, s2⟩ := ev_run2_of
  have f1 := ev_cost1
  have f2 := ev_cost0
  refine ev_new (idx := 8) (ci := 9) (b := 0) (q := ev_q9) A.1 ev_klawd rfl rfl rfl l1 l2 l3 (by rw [c1]; decide) (by rw [c2]; decide) ?_
  refine ev_dup (a := 0) (b := 0) ev_klawd rfl rfl ?_
  refine ev_ctor A hcp (k := 103) (idx := 89) (M' := ev_m103) rfl (by decide) rfl e1 (by decide +kernel) (by decide +kernel) ?_
  refine ev_G_like s1 ?_
  refine ev_astore_n (i := 1) (x := 0) (a := 0) (b := 0) ev_klawd rfl (by decide) ?_
  refine ev_new (idx := 90) (ci := 10) (b := 0) (q := ev_q10) A.1 ev_klawd rfl rfl rfl l4 l5 l6 (by rw [c1, ev_st1_len]; decide) ?_ ?_
  · have g : ev_q10.2.2 = 47 := rfl
    rw [c2, g]
    generalize ev_cost (ev_st1 ev_M0) = y at f1 ⊢
    omega
  rw [ev_st1_len]
  refine ev_dup (a := 0) (b := 0) ev_klawd rfl rfl ?_
  refine ev_ctor A hcp (k := 135) (idx := 92) (M' := ev_m135) rfl (by decide) rfl e2 (by decide +kernel) (by decide +kernel) ?_
  refine ev_G_like s2 ?_
  refine ev_astore_n (i := 2) (x := 277) (a := 0) (b := 0) ev_klawd rfl (by decide) ?_
  refine ev_iconst (n := 1) (a := 0) (b := 0) ev_klawd rfl ?_
  refine ev_newL (a := 0) (b := 0) A.1 ev_klawd rfl l7 (by decide) (by decide) (by rw [c1, ev_st_len]; decide) ?_ ?_
  · have g : (Int32.ofInt 1).toNatClampNeg = 1 := by decide
    rw [c2, g]
    generalize ev_cost (ev_st ev_M0) = y at f2 ⊢
    omega
  rw [ev_st_len]
  refine ev_astore_n (i := 3) (x := 307) (a := 0) (b := 0) ev_klawd rfl (by decide) ?_
  refine ev_iconst (n := 0) (a := 0) (b := 0) ev_klawd rfl ?_
  refine ev_istore (i := 4) (a := 0) (b := 0) ev_klawd rfl (by decide) ?_
  refine ev_G_mono (Q := ev_lift ev_QL) (fun r h' hq => ?_) ?_
  · obtain ⟨m', t', -, hq⟩ := hq
    exact hq
  · exact ev_law_loop A N c1 c2 hn (ev_n w) 0 0 ab_z0 ev_M0 (fun _ => 0) [] none none (by omega) (by omega) (by omega) ab_ok_z0 ab_RepC_z0 ab_RepM_z0 (by decide) (by decide) []
end EvBegin
