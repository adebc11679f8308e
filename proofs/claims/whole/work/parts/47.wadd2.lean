/-! the class's words: adding one; the class's rules: adding one -/
section EvWadd2
variable {w : ev_W} {Q : ev_QT} {m : ev_Mem} {t : ev_H}
/-- only words have changed -/
def ab_frw (m m' : ev_Mem) : Prop := ∀ k j, ¬ (43 ≤ k ∧ k ≤ 203) → m' k j = m k j
theorem ab_RC_frw {m m' : ev_Mem} {rs : List (ab_Ls × ab_Ls)} (hf : ab_frw m m') (h : ab_RC m rs) : ab_RC m' rs := by
  obtain ⟨h1, h2, h3⟩ := h
  refine ⟨by rw [hf 5 2 (by omega)]; exact h1, h2, fun r hr => ?_⟩
  obtain ⟨⟨a1, a2⟩, b1, b2⟩ := h3 r hr
  refine ⟨⟨by rw [hf _ _ (by omega)]; exact a1, fun k hk => by rw [hf _ _ (by omega)]; exact a2 k hk⟩, ⟨by rw [hf _ _ (by omega)]; exact b1, fun k hk => by rw [hf _ _ (by omega)]; exact b2 k hk⟩⟩
theorem ab_fo_put_old {rs : List (ab_Ls × ab_Ls)} {ws : Nat → List ab_Ls} {v : Nat} {l : ab_Ls} {x : Nat} (h : ab_there ws x = true) : ab_fo rs (ab_put ws v l) x = ab_fo rs ws x := by
  unfold ab_fo
  rw [(ab_put_old h).2]
/-- Words.add -/
theorem ev_S27 {v : Nat} {l : ab_Ls} {rs : List (ab_Ls × ab_Ls)} {ws : Nat → List ab_Ls} {ps : List (Nat × Nat)} (A : ev_all w) (hv : v < 4) (hvl : (ws v).length < 10) (hd : ab_L m 1 l) (hl : l.length ≤ 6) (hz : ab_az l) (hR : ab_RC m rs) (hRo : ab_Rok rs) (hW : ab_WS m ws) (hWo : ab_Wok ws) (hP : ab_PC m ps) (hFO : ab_FO m (ab_fo rs ws))
    (hQ : ∀ m', ab_frw m m' → ab_WS m' (ab_put ws v l) → ab_FO m' (ab_fo rs (ab_put ws v l)) → Q (.inl none) (ab_mes ps (ab_mk0 m' (ab_fo rs (ab_put ws v l)) 40)) t) : ev_K w 27 [.ref 40, .int (Int32.ofNat v), .ref 1, .ref 5] m t Q := by
  have hp : ev_prog[27]? = some ev_m27 := rfl
  have ec : m 203 v = Int32.ofNat (ws v).length := by
    apply ev_eq_of
    rw [hW.1 v hv, ev_ofNat_i (by omega)]
  have hx40 : 10 * v + (ws v).length < 40 := by omega
  have nx : (Int32.ofNat (10 * v + (ws v).length)).toNatClampNeg = 10 * v + (ws v).length := ev_on (by omega)
  have nv : (Int32.ofNat v).toNatClampNeg = v := ev_on (by omega)
  have hnot : ab_there ws (10 * v + (ws v).length) = false := by
    unfold ab_there
    have e1 : (10 * v + (ws v).length) / 10 = v := by omega
    rw [e1]
    exact decide_eq_false (by omega)
  refine ⟨Or.inr ⟨40, _, rfl, rfl⟩, ev_m27, rfl, ev_gK A hp [10, 23, 33, 51] 10 ?_⟩
  refine And.intro (ev_oin hv (by decide)) ?_
  show ev_K w 106 [.int (Int32.ofNat v), .int (m 203 (Int32.ofNat v).toNatClampNeg)] m t _
  rw [nv, ec]
  refine ev_S106 A (by omega) (by omega) ?_
  show ev_J w ev_m27 (ev_nd 27) Q 10 [some (.ref 40), some (.int (Int32.ofNat v)), some (.ref 1), some (.ref 5), none] [.int (Int32.ofNat (10 * v + (ws v).length))] m t
  refine ev_gK A hp [23] 10 ?_
  refine And.intro (ev_oin hx40 (by decide)) ?_
  show ev_K w 13 [.ref (43 + 4 * (Int32.ofNat (10 * v + (ws v).length)).toNatClampNeg), .ref 1] m t _
  rw [nx]
  generalize hx : 10 * v + (ws v).length = x at *
  have hd1 := hd.1
  refine ev_S13 A (ev_isLs hx40) ev_isLd (by omega) (by decide) (by decide) (by omega) (by omega) (by omega) (fun k hk => by have h1 := ab_row_ch hd.2 hz (k := k) (by omega); rwa [Nat.zero_add] at h1) (fun m1 q1 q2 q3 => ?_)
  show ev_J w ev_m27 (ev_nd 27) Q 23 [some (.ref 40), some (.int (Int32.ofNat v)), some (.ref 1), some (.ref 5), some (.int (Int32.ofNat x))] [] m1 t
  refine ev_gK A hp [33] 10 ?_
  refine And.intro (ev_oin hv (by decide)) ?_
  refine And.intro (ev_oin hv (by decide)) ?_
  show ev_J w ev_m27 (ev_nd 27) Q 33 [some (.ref 40), some (.int (Int32.ofNat v)), some (.ref 1), some (.ref 5), some (.int (Int32.ofNat x))] [] (ev_up m1 203 (Int32.ofNat v).toNatClampNeg (m1 203 (Int32.ofNat v).toNatClampNeg + 1)) t
  rw [nv, q3 203 v (by omega) (by omega), ec, ev_succ (by omega)]
  generalize hm2 : ev_up m1 203 v (Int32.ofNat ((ws v).length + 1)) = m2
  have f2 : ∀ k j, k ≠ 203 → m2 k j = m1 k j := fun k j hk => by rw [← hm2]; exact ev_up_cell _ hk _ _ _
  have hLx : ab_L m2 (43 + 4 * x) l := by
    refine ⟨by rw [f2 _ _ (by omega), q1]; exact hd1, fun k hk => ?_⟩
    rw [f2 _ _ (by omega), Nat.zero_add, q2 k (by omega)]
    have h1 := hd.2 k hk
    rwa [Nat.zero_add] at h1
  have fr2 : ab_frw m m2 := fun k j hk => by rw [f2 k j (by omega)]; exact q3 k j (by omega) (by omega)
  refine ev_gK A hp [51] 12 ?_
  refine And.intro (ev_oin hx40 (by decide)) ?_
  refine And.intro (ev_oin hx40 (by decide)) ?_
  show ev_K w 15 [.ref 5, .ref (43 + 4 * (Int32.ofNat x).toNatClampNeg), .ref (45 + 4 * (Int32.ofNat x).toNatClampNeg)] m2 t _
  rw [nx]
  refine ev_S15 A (ab_RC_frw fr2 hR) hRo (ev_isLs hx40) (ev_isLf hx40) (by omega) (by omega) (by decide) (by decide) hLx hz hl (by omega) (fun m3 hF hfr => ?_)
  show ev_J w ev_m27 (ev_nd 27) Q 51 [some (.ref 40), some (.int (Int32.ofNat v)), some (.ref 1), some (.ref 5), some (.int (Int32.ofNat x))] [] m3 t
  have fr3 : ab_frw m m3 := fun k j hk => by rw [hfr k j (by omega) (by omega)]; exact fr2 k j hk
  have hW3 : ab_WS m3 (ab_put ws v l) := by
    refine ⟨fun u hu => ?_, fun y hy ht => ?_⟩
    · rw [hfr _ _ (by omega) (by omega), ← hm2]
      unfold ab_put
      by_cases huv : u = v
      · rw [if_pos huv, huv, ev_up_same, ev_ofNat_i (by omega), List.length_append, List.length_singleton]
      · rw [if_neg huv, ev_up_idx _ _ huv, q3 _ _ (by omega) (by omega)]
        exact hW.1 u hu
    · by_cases hyx : y = x
      · rw [hyx, ← hx, ab_put_new hvl, hx]
        refine ⟨by rw [hfr _ _ (by omega) (by omega)]; exact hLx.1, fun k hk => by rw [hfr _ _ (by omega) (by omega)]; exact hLx.2 k hk⟩
      · have ht0 : ab_there ws y = true := by
          rcases ab_put_inv ht with q | q
          · exact q
          · exact absurd (q.trans hx) hyx
        rw [(ab_put_old ht0).2]
        obtain ⟨a1, a2⟩ := hW.2 y hy ht0
        exact ⟨by rw [hfr _ _ (by omega) (by omega), f2 _ _ (by omega), q3 _ _ (by omega) (by omega)]; exact a1, fun k hk => by rw [hfr _ _ (by omega) (by omega), f2 _ _ (by omega), q3 _ _ (by omega) (by omega)]; exact a2 k hk⟩
  have hWo3 := ab_Wok_put (v := v) (l := l) hWo hvl hl hz
  have hFO3 : ab_FO m3 (ab_fo rs (ab_put ws v l)) := by
    intro y hy ht
    rw [ab_th_there hW3 hy] at ht
    refine ⟨?_, ab_fo_len hRo hWo3 hy ht⟩
    by_cases hyx : y = x
    · rw [hyx]
      unfold ab_fo
      rw [← hx, ab_put_new hvl, hx]
      exact hF
    · have ht0 : ab_there ws y = true := by
        rcases ab_put_inv ht with q | q
        · exact q
        · exact absurd (q.trans hx) hyx
      rw [ab_fo_put_old ht0]
      have h1 := (hFO y hy (by rw [ab_th_there hW hy]; exact ht0)).1
      exact ab_F_cong (fun j => by rw [hfr _ _ (by omega) (by omega), f2 _ _ (by omega), q3 _ _ (by omega) (by omega)]) (fun j => by rw [hfr _ _ (by omega) (by omega), f2 _ _ (by omega), q3 _ _ (by omega) (by omega)]) h1
  refine ev_gK A hp [] 10 ?_
  show ev_K w 28 [.ref 40] m3 t _
  exact ev_S28 A hFO3 (ab_PC_cong (fun k j hk => fr3 k j (by omega)) hP) (hQ m3 fr3 hW3 hFO3)
end EvWadd2
