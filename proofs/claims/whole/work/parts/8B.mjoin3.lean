/-! the model: join -/
section EvMjoin3
variable {w : ev_W} {Q : ev_QT} {m : ev_Mem} {t : ev_H} {z : ab_Z}
/-- join -/
theorem ev_S159 {x : Int32} (A : ev_all w) (hs : ab_RepM m z) (hok : ab_ok z) (hQ : ab_PM m t true (ab_join z x) Q) : ev_K w 159 [.ref 277, .int x] m t Q := by
  have hp : ev_prog[159]? = some ev_m159 := rfl
  have i24 : ((Int8.ofInt 24).toInt32).toInt = 24 := by decide
  obtain ⟨⟨k1, k2⟩, ⟨k3, k4⟩, k5, ⟨k6, k7⟩, ⟨k8, k9⟩, -⟩ := id hok
  obtain ⟨c1, c2, c3, c4, c5, c6, c7, c8, -⟩ := id hs
  have thr : ∀ k : Nat, 0 < k → k < 10 → ab_join z x = (k, 0, z) → ev_J w ev_m159 (ev_nd 159) Q 34 [ev_vr 277, ev_vi x, none, none, none, none, none, none] [.int (Int32.ofNat k), .ref 277] m t := by
    intro k hk hk2 e
    rw [e] at hQ
    have ek := ev_ofNat_i (n := k) (by omega)
    refine ev_gK A hp [46] 10 ?_
    refine And.intro (fun (h : (ev_up m 277 0 (Int32.ofNat k) 277 0).toInt ≤ 0) => by rw [ev_up_same] at h; omega) (fun _ => ?_)
    exact hQ _ 0 (ab_RM_th hs _) (fun c i hc => ab_up0 _ _ (by omega)) (ev_up_same _ _ _ _) (fun q => absurd q (by show ¬ k = 0; omega))
  refine ⟨Or.inr ⟨277, _, rfl, rfl⟩, ev_m159, rfl, ev_gK A hp [12, 34] 10 ?_⟩
  refine ev_S140 A ?_
  cases hv : ab_wi x with
  | none =>
    refine And.intro (fun h => absurd ev_eq00 h) (fun _ => ?_)
    exact thr 1 (by omega) (by omega) (by unfold ab_join; rw [hv])
  | some v =>
    obtain ⟨hv4, rfl⟩ := ab_wi_some hv
    have hw10 := (k5 v hv4).1
    have e0 : ab_join z (Int32.ofNat v) = if zj z v = true ∨ (zW z v).length = 0 then (2, 0, z) else if 24 < (zp z v).length then (3, 0, z) else (0, Int32.ofNat (ab_C (zg z v) (zT z).1 (zW z v).length), ab_setT z (ab_nt (ab_jt (zT z) v (zp z v)))) := by unfold ab_join; rw [hv]
    refine And.intro (fun _ => ?_) (fun h => absurd (h : (1 : Int32).toInt = 0) ev_ne10)
    show ev_J w ev_m159 (ev_nd 159) Q 12 [ev_vr 277, ev_vn v, none, none, none, none, none, none] [.ref 277] m t
    refine ev_gK A hp [34] 20 ?_
    refine ev_S141 A c8.2.2.2.1 k8.2.2.2.1 ?_
    refine And.intro (fun h => thr 2 (by omega) (by omega) (e0.trans (if_pos (Or.inl (ab_bi_ne h))))) (fun h => ?_)
    have hj : zj z v = false := ab_bi_nne h
    refine And.intro (ev_oin hv4 (by decide)) ?_
    have mJ0 : (m 279 (Int32.ofNat v).toNatClampNeg).toInt = ((zW z v).length : Int) := by rw [ev_on (by omega)]; exact ev_toI (c3 v hv4) (by omega)
    refine And.intro (fun (h2 : ¬ (m 279 (Int32.ofNat v).toNatClampNeg).toInt = 0) => ?_) (fun (h2 : (m 279 (Int32.ofNat v).toNatClampNeg).toInt = 0) => thr 2 (by omega) (by omega) (e0.trans (if_pos (Or.inr (by omega)))))
    have hJ : 0 < (zW z v).length := by omega
    have e1 := e0.trans (if_neg (fun q => q.elim (fun q => by rw [hj] at q; cases q) (fun q => by omega)))
    obtain ⟨f1, f2, f3, f4⟩ := zp_facts hok hv4
    have hnj : ¬ v ∈ (zT z).2.2.2.1 := fun q => by rw [(zj_iff hok hv4).mpr q] at hj; cases hj
    have hj4 := ab_js4 k8.2.2.2.1 k9.2.1 (fun u hu => k8.2.2.2.2.1 u hu) hv4 hnj
    have kk1 := k8.1
    show ev_J w ev_m159 (ev_nd 159) Q 34 [ev_vr 277, ev_vn v, none, none, none, none, none, none] [.int (Int32.ofNat 0), .ref 277] m t
    refine ev_gK A hp [46] 10 ?_
    refine And.intro (fun _ => ?_) (fun (h : 0 < (ev_up m 277 0 (Int32.ofNat 0) 277 0).toInt) => by rw [ev_up_same] at h; exact absurd h (by decide))
    have hs0 := ab_RM_th hs (Int32.ofNat 0)
    have g0 : ∀ c i, ¬ (c = 277 ∧ i = 0) → ev_up m 277 0 (Int32.ofNat 0) c i = m c i := fun c i hc => ab_up0 _ _ hc
    show ev_J w ev_m159 (ev_nd 159) Q 46 [ev_vr 277, ev_vn v, none, none, none, none, none, none] [] (ev_up m 277 0 (Int32.ofNat 0)) t
    generalize ev_up m 277 0 (Int32.ofNat 0) = m0 at *
    refine ev_gK A hp [51] 10 ?_
    refine ev_S160 A hs0 hok hv4 (fun m1 fr1 hC1 => ?_)
    have hs1 := ab_RM_0 hs0 (m' := m1) (fun c i hc => fr1 c i (fun q => hc (by unfold ab_sM; omega)) (fun q => hc (by unfold ab_sM; omega)))
    have hC00 := hC1 0 0 (by omega) (by omega)
    show ev_J w ev_m159 (ev_nd 159) Q 51 [ev_vr 277, ev_vn v, none, none, none, none, none, none] [] m1 t
    refine ev_gK A hp [58] 10 ?_
    refine And.intro (ev_oin (by decide) (by decide)) ?_
    show ev_J w ev_m159 (ev_nd 159) Q 58 [ev_vr 277, ev_vn v, ev_vi (m1 296 (11 * 0 + 0)), none, none, none, none, none] [] m1 t
    rw [hC00, Nat.sub_zero, Nat.sub_zero]
    generalize hcost : ab_C (zg z v) (zT z).1 (zW z v).length = cost at *
    refine ev_gK A hp [] 6 ?_
    refine ev_S163 A hs1 hok hv4 hC1 (fun m2 fr2 => ?_)
    have hsum := ab_n2_pn (zp z v) (zp z v).length
    rw [f1] at hsum
    have m122 : m1 277 22 = Int32.ofNat (zT z).1 := hs1.2.2.2.2.2.2.2.1.1
    show ev_J w ev_m159 (ev_nd 159) Q 68 [ev_vr 277, ev_vn v, ev_vn cost, none, none, none, none, none] [.int (Int32.ofNat (ab_n2 (zp z v) (zp z v).length)), .int (m1 277 22), .ref 277] m2 t
    rw [m122]
    refine ev_gK A hp [] 1 ?_
    show ev_J w ev_m159 (ev_nd 159) Q 69 [ev_vr 277, ev_vn v, ev_vn cost, none, none, none, none, none] [.int (Int32.ofNat (zT z).1 + Int32.ofNat (ab_n2 (zp z v) (zp z v).length)), .ref 277] m2 t
    rw [ev_addN (by omega), (by omega : (zT z).1 + ab_n2 (zp z v) (zp z v).length = (zp z v).length)]
    have el := ev_ofNat_i (n := (zp z v).length) (by omega)
    have fr02 : ∀ c i, ¬ (c = 277 ∧ i = 0) → c ≠ 296 → c ≠ 297 → m2 c i = m c i := fun c i z1 z2 z3 => by rw [fr2 c i z3, fr1 c i z2 z3]; exact g0 c i z1
    have hs2 := ab_RM_0 hs1 (m' := m2) (fun c i hc => fr2 c i (fun q => hc (by unfold ab_sM; omega)))
    refine ev_gK A hp [79] 10 ?_
    refine And.intro (fun (h3 : (Int32.ofNat (zp z v).length).toInt ≤ ((Int8.ofInt 24).toInt32).toInt) => ?_) (fun (h3 : ((Int8.ofInt 24).toInt32).toInt < (Int32.ofNat (zp z v).length).toInt) => ?_)
    · have e2 := e1.trans (if_neg (by omega))
      rw [e2] at hQ
      have hl24 : (zp z v).length ≤ 24 := by omega
      show ev_J w ev_m159 (ev_nd 159) Q 79 [ev_vr 277, ev_vn v, ev_vn cost, none, none, none, none, none] [.int (Int32.ofNat 0), .ref 277] m2 t
      refine ev_gK A hp [91] 10 ?_
      refine And.intro (fun _ => ?_) (fun (h : 0 < (ev_up m2 277 0 (Int32.ofNat 0) 277 0).toInt) => by rw [ev_up_same] at h; exact absurd h (by decide))
      have hs3 := ab_RM_th hs2 (Int32.ofNat 0)
      have g3 : ∀ c i, ¬ (c = 277 ∧ i = 0) → ev_up m2 277 0 (Int32.ofNat 0) c i = m2 c i := fun c i hc => ab_up0 _ _ hc
      have g30 : ev_up m2 277 0 (Int32.ofNat 0) 277 0 = Int32.ofNat 0 := ev_up_same _ _ _ _
      have hC3 : ab_CO (ev_up m2 277 0 (Int32.ofNat 0)) z v := fun p j h1 h2 => by rw [g3 _ _ (by omega), fr2 _ _ (by decide)]; exact hC1 p j h1 h2
      show ev_J w ev_m159 (ev_nd 159) Q 91 [ev_vr 277, ev_vn v, ev_vn cost, none, none, none, none, none] [] (ev_up m2 277 0 (Int32.ofNat 0)) t
      generalize ev_up m2 277 0 (Int32.ofNat 0) = m3 at *
      obtain ⟨-, -, d3, d4, d5, d6, -, d8, -⟩ := id hs3
      have fr3 : ∀ c i, ¬ (c = 277 ∧ i = 0) → c ≠ 296 → c ≠ 297 → m3 c i = m c i := fun c i z1 z2 z3 => by rw [g3 c i z1]; exact fr02 c i z1 z2 z3
      have mid0 : ab_mid m3 (zT z) v (zp z v) 0 := by
        refine ⟨?_, fun q hq => by omega, fun q z1 z2 => ?_⟩
        · rw [d8.1]
          show _ = Int32.ofNat (0 + ((zT z).1 - 0))
          congr 1
          omega
        · have e0 : ab_pn (zp z v) 0 = 0 := rfl
          rw [e0, Nat.sub_zero, Nat.zero_add]
          exact ⟨fun u hu => d8.2.1 q z2 u hu, d8.2.2.1 q z2⟩
      have loop : ∀ (n k : Nat) (pp jj ss : Int32) (mk : ev_Mem) (o7 : Option Value), (zp z v).length - k = n → k ≤ (zp z v).length → pp = Int32.ofNat (ab_pn (zp z v) k) → jj = Int32.ofNat (ab_jn (zp z v) k) → ss = Int32.ofNat (k - ab_pn (zp z v) k) → (∀ c i, c ≠ 293 → c ≠ 294 → c ≠ 297 → ¬ (c = 277 ∧ i = 22) → mk c i = m3 c i) → ab_mid mk (zT z) v (zp z v) k → ev_J w ev_m159 (ev_nd 159) Q 105 [ev_vr 277, ev_vn v, ev_vn cost, ev_vn (zT z).1, ev_vi pp, ev_vi jj, ev_vi ss, o7] [] mk t := by
        intro n
        induction n with
        | zero =>
          intro k pp jj ss mk o7 hn hkl epp ejj ess fk hmid
          have hk : k = (zp z v).length := by omega
          subst hk
          rw [f1] at epp
          rw [f2] at ejj
          subst epp ejj
          have eN := ev_ofNat_i (n := (zT z).1) (by omega)
          have eJ := ev_ofNat_i (n := (zW z v).length) (by omega)
          have mJ : (mk 279 (Int32.ofNat v).toNatClampNeg).toInt = ((zW z v).length : Int) := by rw [ev_on (by omega), fk _ _ (by decide) (by decide) (by decide) (by omega)]; exact ev_toI (d3 v hv4) (by omega)
          refine ev_gK A hp [122, 215] 20 ?_
          refine And.intro (fun (h : (Int32.ofNat (zT z).1).toInt < (Int32.ofNat (zT z).1).toInt) => by omega) (fun _ => ?_)
          refine And.intro (ev_oin hv4 (by decide)) ?_
          refine And.intro (fun _ => ?_) (fun (h : (Int32.ofNat (zW z v).length).toInt < (mk 279 (Int32.ofNat v).toNatClampNeg).toInt) => by omega)
          -- the end
          obtain ⟨y1, y2, y3⟩ := hmid
          rw [f1, Nat.sub_self, Nat.add_zero] at y1
          have mj19 : mk 277 19 = Int32.ofNat (zT z).2.2.2.1.length := by rw [fk _ _ (by decide) (by decide) (by decide) (by omega)]; exact d8.2.2.2.1.1
          have e19 := ev_toI mj19 (by omega)
          have h231 : ∀ b : Option Nat, b = (if (zT z).2.2.2.1 = [] then some v else (zT z).2.2.2.2) → ev_J w ev_m159 (ev_nd 159) Q 231 [ev_vr 277, ev_vn v, ev_vn cost, ev_vn (zT z).1, ev_vn (zT z).1, ev_vn (zW z v).length, ev_vi ss, o7] [.int (ab_oi b), .ref 277] mk t := by
            intro b hb
            have m19' : ev_up mk 277 21 (ab_oi b) 277 19 = Int32.ofNat (zT z).2.2.2.1.length := by rw [ev_up_idx _ _ (by decide)]; exact mj19
            refine ev_gK A hp [244] 20 ?_
            refine And.intro (ev_iin m19' hj4 (by decide)) ?_
            show ev_J w ev_m159 (ev_nd 159) Q 244 [ev_vr 277, ev_vn v, ev_vn cost, ev_vn (zT z).1, ev_vn (zT z).1, ev_vn (zW z v).length, ev_vi ss, o7] [] (ev_up (ev_up mk 277 21 (ab_oi b)) 292 (ev_up mk 277 21 (ab_oi b) 277 19).toNatClampNeg (Int32.ofNat v)) t
            rw [ev_at m19' (by omega)]
            refine ev_gK A hp [] 20 ?_
            show Q (.inl (some (.int (Int32.ofNat cost)))) (ev_up (ev_up (ev_up mk 277 21 (ab_oi b)) 292 (zT z).2.2.2.1.length (Int32.ofNat v)) 277 19 (ev_up (ev_up mk 277 21 (ab_oi b)) 292 (zT z).2.2.2.1.length (Int32.ofNat v) 277 19 + 1)) t
            rw [show ev_up (ev_up mk 277 21 (ab_oi b)) 292 (zT z).2.2.2.1.length (Int32.ofNat v) 277 19 + 1 = Int32.ofNat ((zT z).2.2.2.1.length + 1) from by rw [ev_up_cell _ (by decide), m19']; exact ev_succ (by omega)]
            generalize hM : ev_up (ev_up (ev_up mk 277 21 (ab_oi b)) 292 (zT z).2.2.2.1.length (Int32.ofNat v)) 277 19 (Int32.ofNat ((zT z).2.2.2.1.length + 1)) = mf
            have q1 : ∀ c i, ¬ (c = 277 ∧ (i = 19 ∨ i = 21)) → ¬ (c = 292 ∧ i = (zT z).2.2.2.1.length) → mf c i = mk c i := fun c i z1 z2 => by
              rw [← hM]
              unfold ev_up
              rw [if_neg (by omega), if_neg z2, if_neg (by omega)]
            have T1 : ab_MT mf (ab_nt (ab_jt (zT z) v (zp z v))) := by
              refine ⟨?_, fun p hp u hu => ?_, fun p hp => ?_, ⟨?_, fun k hk => ?_⟩, ?_⟩
              · rw [q1 _ _ (by omega) (by omega)]; exact y1
              · have hp2 : p < (zp z v).length := hp
                rw [q1 _ _ (by omega) (by omega), (y2 p hp2).1 u hu]
                show _ = ab_oi (ab_num u (if p < (zp z v).length ∧ u < 4 then ab_jc (zT z) v (zp z v) p u else none))
                rw [if_pos ⟨hp2, hu⟩]
              · have hp2 : p < (zp z v).length := hp
                rw [q1 _ _ (by omega) (by omega), (y2 p hp2).2]
                show _ = ab_oi (if p < (zp z v).length then ab_jch (zT z) (zp z v) p else none)
                rw [if_pos hp2]
              · rw [← hM, ev_up_same]
                show _ = Int32.ofNat ((zT z).2.2.2.1 ++ [v]).length
                rw [List.length_append, List.length_singleton]
              · have hk2 : k < ((zT z).2.2.2.1 ++ [v]).length := hk
                rw [List.length_append, List.length_singleton] at hk2
                show _ = Int32.ofNat (((zT z).2.2.2.1 ++ [v]).getD k 0)
                rw [List.getD_eq_getElem?_getD]
                by_cases hkj : k = (zT z).2.2.2.1.length
                · rw [hkj, ← hM, ev_up_cell _ (by decide), ev_up_same, List.getElem?_append_right (Nat.le_refl _), Nat.sub_self]; rfl
                · rw [q1 _ _ (by omega) (by omega), fk _ _ (by decide) (by decide) (by decide) (by omega), List.getElem?_append_left (by omega), ← List.getD_eq_getElem?_getD]
                  exact d8.2.2.2.1.2 k (by omega)
              · rw [← hM, ev_up_idx _ _ (by decide), ev_up_cell _ (by decide), ev_up_same, hb]; rfl
            refine hQ mf _ (ab_RM_T hs3 (fun c i z1 z2 => ?_) T1) (fun c i hc => ?_) ?_ (fun _ => rfl)
            · rw [q1 c i (fun q => z2 (by unfold ab_gT; omega)) (fun q => z2 (by unfold ab_gT; omega))]
              exact fk c i (fun q => z2 (by unfold ab_gT; omega)) (fun q => z2 (by unfold ab_gT; omega)) (fun q => z1 (by unfold ab_sM; omega)) (fun q => z2 (by unfold ab_gT; omega))
            · rw [q1 c i (by omega) (by omega), fk c i (by omega) (by omega) (by omega) (by omega)]
              exact fr3 c i (by omega) (by omega) (by omega)
            · rw [q1 _ _ (by omega) (by omega), fk _ _ (by decide) (by decide) (by decide) (by omega)]
              exact g30
          show ev_J w ev_m159 (ev_nd 159) Q 215 [ev_vr 277, ev_vn v, ev_vn cost, ev_vn (zT z).1, ev_vn (zT z).1, ev_vn (zW z v).length, ev_vi ss, o7] [] mk t
          refine ev_gK A hp [231] 20 ?_
          refine And.intro (fun (h : ¬ (mk 277 19).toInt = 0) => ?_) (fun (h : (mk 277 19).toInt = 0) => ?_)
          · have hne : ¬ (zT z).2.2.2.1 = [] := fun q => by rw [q] at e19; exact h e19
            show ev_J w ev_m159 (ev_nd 159) Q 231 [ev_vr 277, ev_vn v, ev_vn cost, ev_vn (zT z).1, ev_vn (zT z).1, ev_vn (zW z v).length, ev_vi ss, o7] [.int (mk 277 21), .ref 277] mk t
            rw [fk 277 21 (by decide) (by decide) (by decide) (by omega), d8.2.2.2.2]
            exact h231 _ (by rw [if_neg hne])
          · have hne : (zT z).2.2.2.1 = [] := List.eq_nil_of_length_eq_zero (by omega)
            exact h231 (some v) (by rw [if_pos hne])
        | succ n ih =>
          intro k pp jj ss mk o7 hn hkl epp ejj ess fk hmid
          subst epp ejj ess
          obtain ⟨y1, y2, y3⟩ := id hmid
          have hkl2 : k < (zp z v).length := by omega
          have hpk : ab_pn (zp z v) k ≤ k := ab_cn_le _ _
          have hpm := ab_pn_mono (zp z v) ((zp z v).length - k) k
          have hjm := ab_jn_mono (zp z v) ((zp z v).length - k) k
          have hpr := ab_pn_rest (zp z v) ((zp z v).length - k) k
          have hpr2 := ab_pn_rest (zp z v) ((zp z v).length - (k + 1)) (k + 1)
          have hpm2 := ab_pn_mono (zp z v) ((zp z v).length - (k + 1)) (k + 1)
          have hjm2 := ab_jn_mono (zp z v) ((zp z v).length - (k + 1)) (k + 1)
          rw [(by omega : k + ((zp z v).length - k) = (zp z v).length), f1] at hpm hpr
          rw [(by omega : k + ((zp z v).length - k) = (zp z v).length), f2] at hjm
          rw [(by omega : k + 1 + ((zp z v).length - (k + 1)) = (zp z v).length), f1] at hpr2 hpm2
          rw [(by omega : k + 1 + ((zp z v).length - (k + 1)) = (zp z v).length), f2] at hjm2
          have hdr := zp_drop hok hv4 k hkl
          have hz : ¬ ((zT z).1 - ab_pn (zp z v) k = 0 ∧ (zW z v).length - ab_jn (zp z v) k = 0) := by
            rintro ⟨q1, q2⟩
            rw [q1, q2, ab_path_nil] at hdr
            have := List.drop_eq_nil_iff.mp hdr
            omega
          rw [ab_path_step (zg z v) hz] at hdr
          obtain ⟨s1, -, -⟩ := ab_drop_cons (d := 0) hdr
          have hpns := ab_pns (zp z v) k
          have hjns := ab_jns (zp z v) k
          have eN := ev_ofNat_i (n := (zT z).1) (by omega)
          have ep := ev_ofNat_i (n := ab_pn (zp z v) k) (by omega)
          have ej := ev_ofNat_i (n := ab_jn (zp z v) k) (by omega)
          have mJ : (mk 279 (Int32.ofNat v).toNatClampNeg).toInt = ((zW z v).length : Int) := by rw [ev_on (by omega), fk _ _ (by decide) (by decide) (by decide) (by omega)]; exact ev_toI (d3 v hv4) (by omega)
          have ekp : Int32.ofNat (ab_pn (zp z v) k) + Int32.ofNat (k - ab_pn (zp z v) k) = Int32.ofNat k := by rw [ev_addN (by omega)]; congr 1; omega
          have exw : (Int8.ofInt 10).toInt32 * Int32.ofNat v + Int32.ofNat (ab_jn (zp z v) k) = Int32.ofNat (10 * v + ab_jn (zp z v) k) := ev_lin (c := 10) (by omega) (by omega) (by omega)
          have body : ev_J w ev_m159 (ev_nd 159) Q 122 [ev_vr 277, ev_vn v, ev_vn cost, ev_vn (zT z).1, ev_vn (ab_pn (zp z v) k), ev_vn (ab_jn (zp z v) k), ev_vn (k - ab_pn (zp z v) k), o7] [] mk t := by
            have frW : ∀ c i, ab_gW c i → mk c i = m3 c i := fun c i hc => fk c i (fun q => by unfold ab_gW at hc; omega) (fun q => by unfold ab_gW at hc; omega) (fun q => by unfold ab_gW at hc; omega) (fun q => by unfold ab_gW at hc; omega)
            have w3 : ab_MS mk (zW z) := fun u hu => by rw [frW _ _ (by unfold ab_gW; omega)]; exact d3 u hu
            have w4 : ab_ML mk (zW z) := fun x hx ht => ⟨by rw [frW _ _ (by unfold ab_gW; omega)]; exact (d4 x hx ht).1, fun k hk => by rw [frW _ _ (by unfold ab_gW; omega)]; exact (d4 x hx ht).2 k hk⟩
            have w5 : ab_MF mk (zt z) (zf z) 40 := fun x hx ht => ⟨⟨by rw [frW _ _ (by unfold ab_gW; omega)]; exact (d5 x hx ht).1.1, (d5 x hx ht).1.2⟩, fun k hk => by rw [frW _ _ (by unfold ab_gW; omega)]; exact (d5 x hx ht).2 k hk⟩
            have w6 : ab_MQ mk z := by
              obtain ⟨g, g1, g2, g3⟩ := d6
              exact ⟨g, fun x hx ht => by rw [frW _ _ (by unfold ab_gW; omega)]; exact g1 x hx ht, g2, g3⟩
            have wC : ab_CO mk z v := fun p j h1 h2 => by rw [fk _ _ (by decide) (by decide) (by decide) (by omega)]; exact hC3 p j h1 h2
            refine ev_gK A hp [134] 10 ?_
            refine ev_S165 A hok w3 w4 w5 w6 hv4 wC (by omega) (by omega) hpk (by omega) hz y1 (fun hlt u hu => ?_) (fun m4 fr4 => ?_)
            · have h5 := (y3 (ab_pn (zp z v) k) (Nat.le_refl _) hlt).1 u hu
              rw [Nat.sub_self, Nat.add_zero] at h5
              exact h5
            have fk4 : ∀ c i, c ≠ 293 → c ≠ 294 → c ≠ 297 → ¬ (c = 277 ∧ i = 22) → m4 c i = m3 c i := fun c i z1 z2 z3 z4 => (fr4 c i z3).trans (fk c i z1 z2 z3 z4)
            show ev_J w ev_m159 (ev_nd 159) Q 134 [ev_vr 277, ev_vn v, ev_vn cost, ev_vn (zT z).1, ev_vn (ab_pn (zp z v) k), ev_vn (ab_jn (zp z v) k), ev_vn (k - ab_pn (zp z v) k), ev_vn (ab_S (zg z v) ((zT z).1 - ab_pn (zp z v) k) ((zW z v).length - ab_jn (zp z v) k))] [] m4 t
            rw [← s1]
            by_cases hs2 : (zp z v).getD k 0 = 2
            · -- put in
              rw [if_pos hs2] at hpns
              rw [hs2, if_neg (by decide)] at hjns
              rw [hs2]
              refine ev_gK A hp [140] 10 ?_
              refine And.intro (fun (h : ¬ (Int32.ofNat 2).toInt = (Int32.ofInt 2).toInt) => absurd rfl h) (fun _ => ?_)
              refine ev_gK A hp [] 9 ?_
              show ev_J w ev_m159 (ev_nd 159) Q 153 [ev_vr 277, ev_vn v, ev_vn cost, ev_vn (zT z).1, ev_vn (ab_pn (zp z v) k), ev_vn (ab_jn (zp z v) k), ev_vn (k - ab_pn (zp z v) k), ev_vn 2] [.int ((Int8.ofInt 10).toInt32 * Int32.ofNat v + Int32.ofNat (ab_jn (zp z v) k)), .int (Int32.ofNat (ab_pn (zp z v) k) + Int32.ofNat (k - ab_pn (zp z v) k)), .ref 277] m4 t
              rw [ekp, exw]
              refine ev_gK A hp [195] 10 ?_
              refine ev_S166 (M := k + ((zT z).1 - ab_pn (zp z v) k)) A (by rw [fr4 _ _ (by decide)]; exact y1) (by omega) (by omega) (by omega) (fun m5 fr5 z22 zlow zhigh znew zch => ?_)
              show ev_J w ev_m159 (ev_nd 159) Q 195 [ev_vr 277, ev_vn v, ev_vn cost, ev_vn (zT z).1, ev_vn (ab_pn (zp z v) k), ev_vn (ab_jn (zp z v) k), ev_vi (Int32.ofNat (k - ab_pn (zp z v) k) + 1), ev_vn 2] [] m5 t
              rw [ev_succ (by omega)]
              refine ev_gK A hp [105] 20 ?_
              refine And.intro (fun _ => ?_) (fun (h : (Int32.ofNat 2).toInt = (Int32.ofInt 1).toInt) => absurd h (by decide))
              refine ih (k + 1) _ _ _ m5 _ (by omega) (by omega) (by rw [hpns]) (by rw [hjns]; exact ev_succ (by omega)) (by rw [hpns]; congr 1; omega) (fun c i z1 z2 z3 z4 => by rw [fr5 c i z1 z2 z4]; exact fk4 c i z1 z2 z3 z4) ⟨?_, fun q hq => ?_, fun q z1 z2 => ?_⟩
              · rw [z22, hpns]; congr 1; omega
              · by_cases hqk : q = k
                · subst hqk
                  refine ⟨fun u hu => ?_, ?_⟩
                  · rw [znew u hu, (by omega : (10 * v + ab_jn (zp z v) q) / 10 = v)]
                    unfold ab_jc
                    by_cases huv : u = v
                    · rw [if_pos huv, if_pos ⟨by rw [hs2]; decide, huv⟩, huv]; rfl
                    · rw [if_neg huv, if_neg (fun q => huv q.2), if_pos hs2]; rfl
                  · rw [zch]
                    unfold ab_jch
                    rw [if_pos hs2]; rfl
                · have hq2 : q < k := by omega
                  refine ⟨fun u hu => ?_, ?_⟩
                  · rw [(zlow q hq2).1 u hu, fr4 _ _ (by decide)]; exact (y2 q hq2).1 u hu
                  · rw [(zlow q hq2).2, fr4 _ _ (by decide)]; exact (y2 q hq2).2
              · rw [hpns] at z1 ⊢
                have h6 := zhigh (k + (q - ab_pn (zp z v) k)) (by omega) (by omega)
                rw [(by omega : k + 1 + (q - ab_pn (zp z v) k) = k + (q - ab_pn (zp z v) k) + 1)]
                refine ⟨fun u hu => ?_, ?_⟩
                · rw [h6.1 u hu, fr4 _ _ (by decide)]; exact (y3 q z1 z2).1 u hu
                · rw [h6.2, fr4 _ _ (by decide)]; exact (y3 q z1 z2).2
            · -- an old place
              rw [if_neg hs2] at hpns
              have hpN : ab_pn (zp z v) k < (zT z).1 := by omega
              have ei : Int32.ofInt 4 * (Int32.ofNat (ab_pn (zp z v) k) + Int32.ofNat (k - ab_pn (zp z v) k)) + Int32.ofNat v = Int32.ofNat (4 * k + v) := by rw [ekp]; exact ev_lin (c := 4) (by omega) (by omega) (by omega)
              have es := ev_ofNat_i (n := (zp z v).getD k 0) (by have := f4 k; omega)
              have i2 : (Int32.ofInt 2).toInt = 2 := by decide
              have i1 : (Int32.ofInt 1).toInt = 1 := by decide
              have hcell0 : (zT z).2.1 (ab_pn (zp z v) k) v = none := k9.2.2.1 _ v hv4 hnj
              have h191 : ∀ o : Option Nat, o = (if (zp z v).getD k 0 = 0 then some (10 * v + ab_jn (zp z v) k) else none) → ev_J w ev_m159 (ev_nd 159) Q 191 [ev_vr 277, ev_vn v, ev_vn cost, ev_vn (zT z).1, ev_vn (ab_pn (zp z v) k), ev_vn (ab_jn (zp z v) k), ev_vn (k - ab_pn (zp z v) k), ev_vn ((zp z v).getD k 0)] [.int (ab_oi o), .int (Int32.ofInt 4 * (Int32.ofNat (ab_pn (zp z v) k) + Int32.ofNat (k - ab_pn (zp z v) k)) + Int32.ofNat v), .ref 293] m4 t := by
                intro o ho
                refine ev_gK A hp [195] 10 ?_
                refine And.intro (ev_iin ei (by omega) (by decide)) ?_
                show ev_J w ev_m159 (ev_nd 159) Q 195 [ev_vr 277, ev_vn v, ev_vn cost, ev_vn (zT z).1, ev_vi (Int32.ofNat (ab_pn (zp z v) k) + 1), ev_vn (ab_jn (zp z v) k), ev_vn (k - ab_pn (zp z v) k), ev_vn ((zp z v).getD k 0)] [] (ev_up m4 293 (Int32.ofInt 4 * (Int32.ofNat (ab_pn (zp z v) k) + Int32.ofNat (k - ab_pn (zp z v) k)) + Int32.ofNat v).toNatClampNeg (ab_oi o)) t
                rw [ev_at ei (by omega), ev_succ (by omega)]
                have fin : ∀ jj : Int32, jj = Int32.ofNat (ab_jn (zp z v) (k + 1)) → ev_J w ev_m159 (ev_nd 159) Q 105 [ev_vr 277, ev_vn v, ev_vn cost, ev_vn (zT z).1, ev_vn (ab_pn (zp z v) k + 1), ev_vi jj, ev_vn (k - ab_pn (zp z v) k), ev_vn ((zp z v).getD k 0)] [] (ev_up m4 293 (4 * k + v) (ab_oi o)) t := by
                  intro jj ejj
                  refine ih (k + 1) _ _ _ _ _ (by omega) (by omega) (by rw [hpns]) ejj (by rw [hpns]; congr 1; omega) (fun c i z1 z2 z3 z4 => by rw [ev_up_cell _ z1]; exact fk4 c i z1 z2 z3 z4) ⟨?_, fun q hq => ?_, fun q z1 z2 => ?_⟩
                  · rw [ev_up_cell _ (by decide), fr4 _ _ (by decide), y1, hpns]; congr 1; omega
                  · by_cases hqk : q = k
                    · subst hqk
                      have h7 := y3 (ab_pn (zp z v) q) (Nat.le_refl _) hpN
                      rw [Nat.sub_self, Nat.add_zero] at h7
                      refine ⟨fun u hu => ?_, ?_⟩
                      · unfold ab_jc
                        by_cases huv : u = v
                        · rw [huv, ev_up_same, ho]
                          by_cases hs0 : (zp z v).getD q 0 = 0
                          · rw [if_pos hs0, if_pos ⟨by omega, rfl⟩]; rfl
                          · have hs1 : (zp z v).getD q 0 = 1 := by have := f4 q; omega
                            rw [if_neg hs0, if_neg (fun y => y.1 hs1), if_neg hs2, hcell0]; rfl
                        · rw [ev_up_idx _ _ (by omega), fr4 _ _ (by decide), h7.1 u hu, if_neg (fun y => huv y.2), if_neg hs2]; rfl
                      · rw [ev_up_cell _ (by decide), fr4 _ _ (by decide), h7.2]
                        unfold ab_jch
                        rw [if_neg hs2]
                    · have hq2 : q < k := by omega
                      refine ⟨fun u hu => ?_, ?_⟩
                      · rw [ev_up_idx _ _ (by omega), fr4 _ _ (by decide)]; exact (y2 q hq2).1 u hu
                      · rw [ev_up_cell _ (by decide), fr4 _ _ (by decide)]; exact (y2 q hq2).2
                  · rw [hpns] at z1 ⊢
                    have h8 := y3 q (by omega) z2
                    rw [(by omega : k + 1 + (q - (ab_pn (zp z v) k + 1)) = k + (q - ab_pn (zp z v) k))]
                    refine ⟨fun u hu => ?_, ?_⟩
                    · rw [ev_up_idx _ _ (by omega), fr4 _ _ (by decide)]; exact h8.1 u hu
                    · rw [ev_up_cell _ (by decide), fr4 _ _ (by decide)]; exact h8.2
                refine ev_gK A hp [105] 20 ?_
                refine And.intro (fun (h : ¬ (Int32.ofNat ((zp z v).getD k 0)).toInt = (Int32.ofInt 1).toInt) => ?_) (fun (h : (Int32.ofNat ((zp z v).getD k 0)).toInt = (Int32.ofInt 1).toInt) => ?_)
                · rw [if_neg (by omega)] at hjns
                  exact fin _ (by rw [hjns]; exact ev_succ (by omega))
                · rw [if_pos (by omega)] at hjns
                  exact fin _ (by rw [hjns])
              refine ev_gK A hp [162] 10 ?_
              refine And.intro (fun _ => ?_) (fun (h : (Int32.ofNat ((zp z v).getD k 0)).toInt = (Int32.ofInt 2).toInt) => by omega)
              refine ev_gK A hp [191] 30 ?_
              refine And.intro (fun (h : ¬ (Int32.ofNat ((zp z v).getD k 0)).toInt = 0) => ?_) (fun (h : (Int32.ofNat ((zp z v).getD k 0)).toInt = 0) => ?_)
              · exact h191 none (by rw [if_neg (by omega)])
              · show ev_J w ev_m159 (ev_nd 159) Q 191 [ev_vr 277, ev_vn v, ev_vn cost, ev_vn (zT z).1, ev_vn (ab_pn (zp z v) k), ev_vn (ab_jn (zp z v) k), ev_vn (k - ab_pn (zp z v) k), ev_vn ((zp z v).getD k 0)] [.int ((Int8.ofInt 10).toInt32 * Int32.ofNat v + Int32.ofNat (ab_jn (zp z v) k)), .int (Int32.ofInt 4 * (Int32.ofNat (ab_pn (zp z v) k) + Int32.ofNat (k - ab_pn (zp z v) k)) + Int32.ofNat v), .ref 293] m4 t
                rw [exw]
                exact h191 (some (10 * v + ab_jn (zp z v) k)) (by rw [if_pos (by omega)])
          refine ev_gK A hp [122] 20 ?_
          refine And.intro (fun (h : (Int32.ofNat (ab_pn (zp z v) k)).toInt < (Int32.ofNat (zT z).1).toInt) => body) (fun (h : (Int32.ofNat (zT z).1).toInt ≤ (Int32.ofNat (ab_pn (zp z v) k)).toInt) => ?_)
          refine And.intro (ev_oin hv4 (by decide)) ?_
          exact And.intro (fun (h2 : (mk 279 (Int32.ofNat v).toNatClampNeg).toInt ≤ (Int32.ofNat (ab_jn (zp z v) k)).toInt) => absurd ⟨by omega, by omega⟩ hz) (fun _ => body)
      refine ev_gK A hp [105] 20 ?_
      show ev_J w ev_m159 (ev_nd 159) Q 105 [ev_vr 277, ev_vn v, ev_vn cost, ev_vi (m3 277 22), ev_vn 0, ev_vn 0, ev_vn 0, none] [] m3 t
      rw [d8.1]
      exact loop _ 0 _ _ _ m3 _ rfl (by omega) rfl rfl rfl (fun _ _ _ _ _ _ => rfl) mid0
    · have e2 := e1.trans (if_pos (by omega))
      rw [e2] at hQ
      show ev_J w ev_m159 (ev_nd 159) Q 79 [ev_vr 277, ev_vn v, ev_vn cost, none, none, none, none, none] [.int (Int32.ofNat 3), .ref 277] m2 t
      refine ev_gK A hp [91] 10 ?_
      refine And.intro (fun (h : (ev_up m2 277 0 (Int32.ofNat 3) 277 0).toInt ≤ 0) => by rw [ev_up_same] at h; exact absurd h (by decide)) (fun _ => ?_)
      exact hQ _ 0 (ab_RM_th hs2 _) (fun c i hc => by rw [ab_up0 _ _ (by omega)]; exact fr02 c i (by omega) (by omega) (by omega)) (ev_up_same _ _ _ _) (fun q => absurd q (Nat.succ_ne_zero _))
end EvMjoin3
