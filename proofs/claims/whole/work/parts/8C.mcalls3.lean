/-! the model's calls: places, the text -/
section EvMcalls3
variable {w : ev_W} {Q : ev_QT} {m : ev_Mem} {t : ev_H} {z : ab_Z}
theorem ab_nat_lt (hok : ab_ok z) {p v x : Nat} (hv : v < 4) (h : ab_nat (zT z) p v = some x) : x < 40 ∧ zt z x = true ∧ x / 10 = v ∧ (zT z).2.1 p v = some (x % 10) := by
  unfold ab_nat ab_num at h
  cases hc : (zT z).2.1 p v with
  | none => rw [hc] at h; cases h
  | some i =>
    rw [hc] at h
    have hx : 10 * v + i = x := by injection h
    have hi := hok.2.2.2.2.1.2.1 p v i hc
    obtain ⟨h1, h2⟩ := ab_zthw hok hv hi
    have h10 := (hok.2.2.1 v hv).1
    rw [← hx]
    refine ⟨h1, h2, by omega, ?_⟩
    rw [(by omega : (10 * v + i) % 10 = i)]
theorem ab_oi_neg {o : Option Nat} (h : ∀ x, o = some x → x < 100000) : (ab_oi o).toInt < 0 ↔ o = none := by
  cases o with
  | none => exact ⟨fun _ => rfl, fun _ => by decide⟩
  | some x =>
    have e := ev_ofNat_i (n := x) (by have := h x rfl; omega)
    have e2 : (ab_oi (some x)).toInt = (x : Int) := e
    exact ⟨fun q => by omega, fun q => by cases q⟩
/-- retract -/
theorem ev_S168 (A : ev_all w) (hs : ab_RepM m z) (hok : ab_ok z) (hQ : ab_PM m t true (ab_retract z) Q) : ev_K w 168 [.ref 277] m t Q := by
  have hp : ev_prog[168]? = some ev_m168 := rfl
  have em1 := ev_im1
  obtain ⟨-, -, k5, -, ⟨k8, k9⟩, -⟩ := id hok
  obtain ⟨t1, t2, t3, ⟨t4, t5⟩, t6⟩ := id hs.2.2.2.2.2.2.2.1
  have kk1 := k8.1
  have kk4 := k8.2.2.2.1
  have e19 := ev_toI t4 (by omega)
  refine ⟨Or.inr ⟨277, _, rfl, rfl⟩, ev_m168, rfl, ev_gK A hp [13] 10 ?_⟩
  cases hl : (zT z).2.2.2.1.getLast? with
  | none =>
    have e : ab_retract z = (1, 0, z) := by unfold ab_retract; rw [hl]
    rw [e] at hQ
    have hnil : (zT z).2.2.2.1 = [] := List.getLast?_eq_none_iff.mp hl
    rw [hnil] at e19
    refine And.intro (fun (h : ¬ (m 277 19).toInt = 0) => absurd e19 h) (fun _ => ?_)
    show ev_J w ev_m168 (ev_nd 168) Q 13 [ev_vr 277, none, none, none, none] [.int (Int32.ofNat 1), .ref 277] m t
    refine ev_gK A hp [25] 10 ?_
    refine And.intro (fun (h : (ev_up m 277 0 (Int32.ofNat 1) 277 0).toInt ≤ 0) => by rw [ev_up_same] at h; exact absurd h (by decide)) (fun _ => ?_)
    exact hQ _ 0 (ab_RM_th hs _) (fun c i hc => ab_up0 _ _ (by omega)) (ev_up_same _ _ _ _) (fun q => absurd q (Nat.succ_ne_zero _))
  | some v =>
    have e : ab_retract z = (0, Int32.ofNat v, ab_setT z (ab_nt (ab_rt (zT z) v))) := by unfold ab_retract; rw [hl]
    rw [e] at hQ
    have hvm := List.mem_of_getLast? hl
    have hv4 := k8.2.2.2.2.1 v hvm
    have evi := ev_ofNat_i (n := v) (by omega)
    have hpos : 0 < (zT z).2.2.2.1.length := List.length_pos_of_mem hvm
    have hlast : (zT z).2.2.2.1.getD ((zT z).2.2.2.1.length - 1) 0 = v := by
      rw [List.getLast?_eq_getElem?] at hl
      rw [List.getD_eq_getElem?_getD, hl]; rfl
    refine And.intro (fun _ => ?_) (fun (h : (m 277 19).toInt = 0) => by omega)
    show ev_J w ev_m168 (ev_nd 168) Q 13 [ev_vr 277, none, none, none, none] [.int (Int32.ofNat 0), .ref 277] m t
    refine ev_gK A hp [25] 10 ?_
    refine And.intro (fun _ => ?_) (fun (h : 0 < (ev_up m 277 0 (Int32.ofNat 0) 277 0).toInt) => by rw [ev_up_same] at h; exact absurd h (by decide))
    have g0 : ∀ c i, ¬ (c = 277 ∧ i = 0) → ev_up m 277 0 (Int32.ofNat 0) c i = m c i := fun c i hc => ab_up0 _ _ hc
    have g00 : ev_up m 277 0 (Int32.ofNat 0) 277 0 = Int32.ofNat 0 := ev_up_same _ _ _ _
    show ev_J w ev_m168 (ev_nd 168) Q 25 [ev_vr 277, none, none, none, none] [] (ev_up m 277 0 (Int32.ofNat 0)) t
    generalize ev_up m 277 0 (Int32.ofNat 0) = m0 at *
    have m19 : m0 277 19 = Int32.ofNat (zT z).2.2.2.1.length := by rw [g0 _ _ (by omega)]; exact t4
    refine ev_gK A hp [] 6 ?_
    show ev_J w ev_m168 (ev_nd 168) Q 35 [ev_vr 277, none, none, none, none] [] (ev_up m0 277 19 (m0 277 19 - 1)) t
    rw [m19, ev_pred (by omega) (by omega)]
    have x19 : ev_up m0 277 19 (Int32.ofNat ((zT z).2.2.2.1.length - 1)) 277 19 = Int32.ofNat ((zT z).2.2.2.1.length - 1) := ev_up_same _ _ _ _
    refine ev_gK A hp [45] 10 ?_
    refine And.intro (ev_iin x19 (by omega) (by decide)) ?_
    show ev_J w ev_m168 (ev_nd 168) Q 45 [ev_vr 277, ev_vi (ev_up m0 277 19 (Int32.ofNat ((zT z).2.2.2.1.length - 1)) 292 (ev_up m0 277 19 (Int32.ofNat ((zT z).2.2.2.1.length - 1)) 277 19).toNatClampNeg), none, none, none] [] (ev_up m0 277 19 (Int32.ofNat ((zT z).2.2.2.1.length - 1))) t
    rw [ev_at x19 (by omega), ev_up_cell _ (by decide), g0 _ _ (by omega), t5 _ (by omega), hlast]
    have x21 : ev_up m0 277 19 (Int32.ofNat ((zT z).2.2.2.1.length - 1)) 277 21 = ab_oi (zT z).2.2.2.2 := by rw [ev_up_idx _ _ (by decide), g0 _ _ (by omega)]; exact t6
    have h62 : ∀ b : Option Nat, b = (if (zT z).2.2.2.2 = some v then none else (zT z).2.2.2.2) → ev_J w ev_m168 (ev_nd 168) Q 62 [ev_vr 277, ev_vn v, none, none, none] [.int (ab_oi b), .ref 277] (ev_up m0 277 19 (Int32.ofNat ((zT z).2.2.2.1.length - 1))) t := by
      intro b hb
      refine ev_gK A hp [69] 10 ?_
      show ev_J w ev_m168 (ev_nd 168) Q 69 [ev_vr 277, ev_vn v, ev_vn 0, ev_vn 0, none] [] (ev_up (ev_up m0 277 19 (Int32.ofNat ((zT z).2.2.2.1.length - 1))) 277 21 (ab_oi b)) t
      have q1 : ∀ c i, ¬ (c = 277 ∧ (i = 19 ∨ i = 21)) → ev_up (ev_up m0 277 19 (Int32.ofNat ((zT z).2.2.2.1.length - 1))) 277 21 (ab_oi b) c i = m0 c i := fun c i hc => by
        unfold ev_up
        rw [if_neg (by omega), if_neg (by omega)]
      have q19 : ev_up (ev_up m0 277 19 (Int32.ofNat ((zT z).2.2.2.1.length - 1))) 277 21 (ab_oi b) 277 19 = Int32.ofNat ((zT z).2.2.2.1.length - 1) := by rw [ev_up_idx _ _ (by decide), ev_up_same]
      have q21 : ev_up (ev_up m0 277 19 (Int32.ofNat ((zT z).2.2.2.1.length - 1))) 277 21 (ab_oi b) 277 21 = ab_oi b := ev_up_same _ _ _ _
      generalize ev_up (ev_up m0 277 19 (Int32.ofNat ((zT z).2.2.2.1.length - 1))) 277 21 (ab_oi b) = m1 at *
      have loop := ev_lup (P := fun k => ∀ (kk ss : Int32) (mk : ev_Mem) (o4 : Option Value), kk = Int32.ofNat k → ss = Int32.ofNat (ab_sel (zT z) v k).length → (∀ c i, c ≠ 293 → c ≠ 294 → mk c i = m1 c i) → (∀ q, q < (ab_sel (zT z) v k).length → (∀ u, u < 4 → mk 293 (4 * q + u) = ab_oi (ab_num u (ab_cfx (zT z) v ((ab_sel (zT z) v k).getD q 0) u))) ∧ mk 294 q = ab_oi (ab_chx (zT z) v ((ab_sel (zT z) v k).getD q 0))) → (∀ p, k ≤ p → p < (zT z).1 → (∀ u, u < 4 → mk 293 (4 * p + u) = ab_oi (ab_nat (zT z) p u)) ∧ mk 294 p = ab_oi ((zT z).2.2.1 p)) → ev_J w ev_m168 (ev_nd 168) Q 69 [ev_vr 277, ev_vn v, ev_vi ss, ev_vi kk, o4] [] mk t) (zT z).1 (by
        intro k hk ih kk ss mk o4 ekk ess fk hlow hhigh
        subst ekk ess
        have ek := ev_ofNat_i (n := k) (by omega)
        have m22 : (mk 277 22).toInt = ((zT z).1 : Int) := by rw [fk _ _ (by decide) (by decide), q1 _ _ (by omega), g0 _ _ (by omega)]; exact ev_toI t1 (by omega)
        have hsl := ab_sel_len (zT z) v k
        refine ev_gK A hp [77, 187] 10 ?_
        refine And.intro (fun (h : (mk 277 22).toInt ≤ (Int32.ofNat k).toInt) => ?_) (fun (h : (Int32.ofNat k).toInt < (mk 277 22).toInt) => ?_)
        · have hk' : k = (zT z).1 := by omega
          subst hk'
          refine ev_gK A hp [] 10 ?_
          show Q (.inl (some (.int (Int32.ofNat v)))) (ev_up mk 277 22 (Int32.ofNat (ab_sel (zT z) v (zT z).1).length)) t
          have T1 : ab_MT (ev_up mk 277 22 (Int32.ofNat (ab_sel (zT z) v (zT z).1).length)) (ab_nt (ab_rt (zT z) v)) := by
            refine ⟨ev_up_same _ _ _ _, fun p hp u hu => ?_, fun p hp => ?_, ⟨?_, fun j hj => ?_⟩, ?_⟩
            · have hp2 : p < (ab_sel (zT z) v (zT z).1).length := hp
              rw [ev_up_cell _ (by decide), (hlow p hp2).1 u hu]
              show _ = ab_oi (ab_num u (if p < (ab_sel (zT z) v (zT z).1).length ∧ u < 4 then ab_cfx (zT z) v ((ab_sel (zT z) v (zT z).1).getD p 0) u else none))
              rw [if_pos ⟨hp2, hu⟩]
            · have hp2 : p < (ab_sel (zT z) v (zT z).1).length := hp
              rw [ev_up_cell _ (by decide), (hlow p hp2).2]
              show _ = ab_oi (if p < (ab_sel (zT z) v (zT z).1).length then ab_chx (zT z) v ((ab_sel (zT z) v (zT z).1).getD p 0) else none)
              rw [if_pos hp2]
            · rw [ev_up_idx _ _ (by decide), fk _ _ (by decide) (by decide), q19]
              show _ = Int32.ofNat (zT z).2.2.2.1.dropLast.length
              rw [List.length_dropLast]
            · have hj2 : j < (zT z).2.2.2.1.dropLast.length := hj
              rw [List.length_dropLast] at hj2
              rw [ev_up_cell _ (by decide), fk _ _ (by decide) (by decide), q1 _ _ (by omega), g0 _ _ (by omega), t5 j (by omega)]
              show _ = Int32.ofNat ((zT z).2.2.2.1.dropLast.getD j 0)
              rw [List.dropLast_eq_take, List.getD_eq_getElem?_getD, List.getD_eq_getElem?_getD, List.getElem?_take, if_pos (by omega)]
            · rw [ev_up_idx _ _ (by decide), fk _ _ (by decide) (by decide), q21, hb]; rfl
          refine hQ _ _ (ab_RM_T hs (fun c i z1 z2 => ?_) T1) (fun c i hc => ?_) ?_ (fun _ => rfl)
          · rw [show ev_up mk 277 22 (Int32.ofNat (ab_sel (zT z) v (zT z).1).length) c i = mk c i from if_neg (fun q => z2 (by unfold ab_gT; omega)), fk c i (fun q => z2 (by unfold ab_gT; omega)) (fun q => z2 (by unfold ab_gT; omega)), q1 c i (fun q => z2 (by unfold ab_gT; omega))]
            exact g0 c i (fun q => z1 (by unfold ab_sM; omega))
          · rw [ev_up_cell _ (by omega), fk c i (by omega) (by omega), q1 c i (by omega)]
            exact g0 c i (by omega)
          · rw [ev_up_idx _ _ (by decide), fk _ _ (by decide) (by decide), q1 _ _ (by omega)]
            exact g00
        · have hk' : k < (zT z).1 := by omega
          obtain ⟨hc, hch⟩ := hhigh k (Nat.le_refl _) hk'
          have ei : Int32.ofInt 4 * Int32.ofNat k + Int32.ofNat v = Int32.ofNat (4 * k + v) := ev_lin (c := 4) (by omega) (by omega) (by omega)
          refine ev_gK A hp [88] 20 ?_
          refine And.intro (ev_iin ei (by omega) (by decide)) ?_
          show ev_J w ev_m168 (ev_nd 168) Q 88 [ev_vr 277, ev_vn v, ev_vn (ab_sel (zT z) v k).length, ev_vn k, o4] [] (ev_up mk 293 (Int32.ofInt 4 * Int32.ofNat k + Int32.ofNat v).toNatClampNeg (Int32.ofInt (-1))) t
          rw [ev_at ei (by omega)]
          generalize hm2 : ev_up mk 293 (4 * k + v) (Int32.ofInt (-1)) = m2
          have r1 : ∀ c i, ¬ (c = 293 ∧ i = 4 * k + v) → m2 c i = mk c i := fun c i hc => by rw [← hm2]; exact if_neg hc
          have r2 : ∀ u, u < 4 → m2 293 (4 * k + u) = ab_oi (ab_num u (ab_cfx (zT z) v k u)) := by
            intro u hu
            unfold ab_cfx
            by_cases huv : u = v
            · rw [if_pos huv, huv, ← hm2, ev_up_same]; rfl
            · rw [if_neg huv, r1 _ _ (by omega)]; exact hc u hu
          have h113 : ∀ c : Option Nat, c = ab_chx (zT z) v k → ev_J w ev_m168 (ev_nd 168) Q 113 [ev_vr 277, ev_vn v, ev_vn (ab_sel (zT z) v k).length, ev_vn k, o4] [.int (ab_oi c), .int (Int32.ofNat k), .ref 294] m2 t := by
            intro c hcc
            refine ev_gK A hp [114] 10 ?_
            refine And.intro (ev_oin (by omega) (by decide)) ?_
            show ev_J w ev_m168 (ev_nd 168) Q 114 [ev_vr 277, ev_vn v, ev_vn (ab_sel (zT z) v k).length, ev_vn k, o4] [] (ev_up m2 294 (Int32.ofNat k).toNatClampNeg (ab_oi c)) t
            rw [ev_on (by omega)]
            generalize hm3 : ev_up m2 294 k (ab_oi c) = m3
            have s1 : ∀ c i, ¬ (c = 293 ∧ i = 4 * k + v) → ¬ (c = 294 ∧ i = k) → m3 c i = mk c i := fun c i z1 z2 => by rw [← hm3, show ev_up m2 294 k (ab_oi _) c i = m2 c i from if_neg z2]; exact r1 c i z1
            have s2 : ∀ u, u < 4 → m3 293 (4 * k + u) = ab_oi (ab_num u (ab_cfx (zT z) v k u)) := fun u hu => by rw [← hm3, ev_up_cell _ (by decide)]; exact r2 u hu
            have s3 : m3 294 k = ab_oi (ab_chx (zT z) v k) := by rw [← hm3, ev_up_same, hcc]
            have bnd : ∀ u, u < 4 → -1 ≤ (m3 293 (4 * k + u)).toInt ∧ (m3 293 (4 * k + u)).toInt < 40 ∧ ((m3 293 (4 * k + u)).toInt = -1 ↔ ¬ (u ≠ v ∧ ((zT z).2.1 k u).isSome = true)) := by
              intro u hu
              rw [s2 u hu]
              unfold ab_cfx
              by_cases huv : u = v
              · rw [if_pos huv]
                have : (ab_oi (ab_num u none)).toInt = -1 := by show (-1 : Int32).toInt = -1; decide
                rw [this]
                exact ⟨by omega, by omega, fun _ q => q.1 huv, fun _ => rfl⟩
              · rw [if_neg huv]
                cases hcu : (zT z).2.1 k u with
                | none =>
                  have : (ab_oi (ab_num u none)).toInt = -1 := by show (-1 : Int32).toInt = -1; decide
                  rw [this]
                  exact ⟨by omega, by omega, fun _ q => by simp at q, fun _ => rfl⟩
                | some i =>
                  have hi := k9.1 k u i hcu
                  have h10 := (k5 u hu).1
                  have : (ab_oi (ab_num u (some i))).toInt = ((10 * u + i : Nat) : Int) := ev_ofNat_i (n := 10 * u + i) (by omega)
                  rw [this]
                  exact ⟨by omega, by omega, fun q => by omega, fun q => absurd ⟨huv, rfl⟩ q⟩
            have hkeep : ab_keep (zT z) v k = false ↔ ∀ u, u < 4 → (m3 293 (4 * k + u)).toInt = -1 := by
              unfold ab_keep
              constructor
              · intro hf u hu
                rw [(bnd u hu).2.2]
                rintro ⟨q1, q2⟩
                rw [List.any_eq_false] at hf
                have h7 := hf u (by match u, hu with | 0, _ => simp | 1, _ => simp | 2, _ => simp | 3, _ => simp)
                rw [decide_eq_true q1, q2] at h7
                exact h7 rfl
              · intro hall
                rw [List.any_eq_false]
                intro u hu
                have hu4 : u < 4 := by simp at hu; omega
                have h7 := (bnd u hu4).2.2.mp (hall u hu4)
                intro q
                rw [Bool.and_eq_true, decide_eq_true_eq] at q
                exact h7 q
            have i0 : Int32.ofInt 4 * Int32.ofNat k = Int32.ofNat (4 * k) := ev_mulN (c := 4) (by omega) (by omega)
            have ic : ∀ c : Nat, c < 4 → Int32.ofInt 4 * Int32.ofNat k + Int32.ofNat c = Int32.ofNat (4 * k + c) := fun c hc => ev_lin (c := 4) (by omega) (by omega) (by omega)
            have b0 := bnd 0 (by omega)
            have b1 := bnd 1 (by omega)
            have b2 := bnd 2 (by omega)
            have b3 := bnd 3 (by omega)
            rw [Nat.add_zero] at b0
            have hnext : ∀ (m4 : ev_Mem) (em : Int32) (s' : Nat), s' = (ab_sel (zT z) v (k + 1)).length → (∀ c i, c ≠ 293 → c ≠ 294 → m4 c i = m1 c i) → (∀ q, q < (ab_sel (zT z) v (k + 1)).length → (∀ u, u < 4 → m4 293 (4 * q + u) = ab_oi (ab_num u (ab_cfx (zT z) v ((ab_sel (zT z) v (k + 1)).getD q 0) u))) ∧ m4 294 q = ab_oi (ab_chx (zT z) v ((ab_sel (zT z) v (k + 1)).getD q 0))) → (∀ p, k + 1 ≤ p → p < (zT z).1 → (∀ u, u < 4 → m4 293 (4 * p + u) = ab_oi (ab_nat (zT z) p u)) ∧ m4 294 p = ab_oi ((zT z).2.2.1 p)) → ev_J w ev_m168 (ev_nd 168) Q 181 [ev_vr 277, ev_vn v, ev_vn s', ev_vn k, ev_vi em] [] m4 t := by
              intro m4 em s' hs' f4 l4 h4
              refine ev_gK A hp [69] 10 ?_
              exact ih hk' _ _ m4 _ (ev_succ (by omega)) (by rw [hs']) f4 l4 h4
            have hselc := ab_sel_succ (zT z) v k
            have hst : ∀ p, k + 1 ≤ p → p < (zT z).1 → (∀ u, u < 4 → m3 293 (4 * p + u) = ab_oi (ab_nat (zT z) p u)) ∧ m3 294 p = ab_oi ((zT z).2.2.1 p) := fun p z1 z2 => ⟨fun u hu => by rw [s1 _ _ (by omega) (by omega)]; exact (hhigh p (by omega) z2).1 u hu, by rw [s1 _ _ (by omega) (by omega)]; exact (hhigh p (by omega) z2).2⟩
            have h165 : ∀ e : Bool, e = !(ab_keep (zT z) v k) → ev_J w ev_m168 (ev_nd 168) Q 165 [ev_vr 277, ev_vn v, ev_vn (ab_sel (zT z) v k).length, ev_vn k, o4] [.int (ab_bi e)] m3 t := by
              intro e he
              refine ev_gK A hp [172, 181] 10 ?_
              refine And.intro (fun h2 => ?_) (fun h2 => ?_)
              · have h3 := ab_bi_ne h2
                rw [h3] at he
                have hkf : ab_keep (zT z) v k = false := by cases hq : ab_keep (zT z) v k with | false => rfl | true => rw [hq] at he; cases he
                rw [hkf, if_neg Bool.false_ne_true, List.append_nil] at hselc
                refine hnext m3 _ _ (by rw [hselc]) (fun c i z1 z2 => by rw [s1 c i (by omega) (by omega)]; exact fk c i z1 z2) (fun q hq => ?_) hst
                rw [hselc] at hq ⊢
                exact ⟨fun u hu => by rw [s1 _ _ (by omega) (by omega)]; exact (hlow q hq).1 u hu, by rw [s1 _ _ (by omega) (by omega)]; exact (hlow q hq).2⟩
              · have h3 := ab_bi_nne h2
                rw [h3] at he
                have hkt : ab_keep (zT z) v k = true := by cases hq : ab_keep (zT z) v k with | true => rfl | false => rw [hq] at he; cases he
                rw [hkt, if_pos rfl] at hselc
                refine ev_gK A hp [181] 10 ?_
                refine ev_S167 A (by omega) (by omega) (fun m4 f4 h4 h5 => ?_)
                show ev_J w ev_m168 (ev_nd 168) Q 181 [ev_vr 277, ev_vn v, ev_vi (Int32.ofNat (ab_sel (zT z) v k).length + 1), ev_vn k, ev_vi (ab_bi e)] [] m4 t
                rw [ev_succ (by omega)]
                refine hnext m4 _ _ (by rw [hselc, List.length_append, List.length_singleton]) (fun c i z1 z2 => by rw [f4 c i (by omega) (by omega), s1 c i (by omega) (by omega)]; exact fk c i z1 z2) (fun q hq => ?_) (fun p z1 z2 => ⟨fun u hu => by rw [f4 _ _ (by omega) (by omega)]; exact (hst p z1 z2).1 u hu, by rw [f4 _ _ (by omega) (by omega)]; exact (hst p z1 z2).2⟩)
                rw [hselc, List.length_append, List.length_singleton] at hq
                rw [hselc, List.getD_eq_getElem?_getD]
                by_cases hql : q = (ab_sel (zT z) v k).length
                · rw [hql, List.getElem?_append_right (Nat.le_refl _), Nat.sub_self]
                  exact ⟨fun u hu => by rw [h4 u hu]; exact s2 u hu, by rw [h5]; exact s3⟩
                · rw [List.getElem?_append_left (by omega), ← List.getD_eq_getElem?_getD]
                  refine ⟨fun u hu => ?_, ?_⟩
                  · rw [f4 _ _ (by omega) (by omega), s1 _ _ (by omega) (by omega)]; exact (hlow q (by omega)).1 u hu
                  · rw [f4 _ _ (by omega) (by omega), s1 _ _ (by omega) (by omega)]; exact (hlow q (by omega)).2
            have a1 : (m3 293 (4 * k) + m3 293 (4 * k + 1)).toInt = (m3 293 (4 * k)).toInt + (m3 293 (4 * k + 1)).toInt := ev_add_i (by omega) (by omega)
            have a2 : (m3 293 (4 * k) + m3 293 (4 * k + 1) + m3 293 (4 * k + 2)).toInt = (m3 293 (4 * k)).toInt + (m3 293 (4 * k + 1)).toInt + (m3 293 (4 * k + 2)).toInt := by rw [ev_add_i (by omega) (by omega), a1]
            have a3 : (m3 293 (4 * k) + m3 293 (4 * k + 1) + m3 293 (4 * k + 2) + m3 293 (4 * k + 3)).toInt = (m3 293 (4 * k)).toInt + (m3 293 (4 * k + 1)).toInt + (m3 293 (4 * k + 2)).toInt + (m3 293 (4 * k + 3)).toInt := by rw [ev_add_i (by omega) (by omega), a2]
            have im4 : ((Int8.ofInt (-4)).toInt32).toInt = -4 := by decide
            have key : (m3 293 (4 * k)).toInt + (m3 293 (4 * k + 1)).toInt + (m3 293 (4 * k + 2)).toInt + (m3 293 (4 * k + 3)).toInt = -4 ↔ ab_keep (zT z) v k = false := by
              rw [hkeep]
              constructor
              · intro hsum u hu
                match u, hu with
                | 0, _ => rw [Nat.add_zero]; omega
                | 1, _ => omega
                | 2, _ => omega
                | 3, _ => omega
              · intro hall
                have c0 := hall 0 (by omega)
                have c1 := hall 1 (by omega)
                have c2 := hall 2 (by omega)
                have c3 := hall 3 (by omega)
                rw [Nat.add_zero] at c0
                omega
            refine ev_gK A hp [] 24 ?_
            refine And.intro (ev_iin i0 (by omega) (by decide)) ?_
            refine And.intro (ev_iin (ic 1 (by omega)) (by omega) (by decide)) ?_
            refine And.intro (ev_iin (ic 2 (by omega)) (by omega) (by decide)) ?_
            show ev_J w ev_m168 (ev_nd 168) Q 144 [ev_vr 277, ev_vn v, ev_vn (ab_sel (zT z) v k).length, ev_vn k, o4] [.int (m3 293 (Int32.ofInt 4 * Int32.ofNat k).toNatClampNeg + m3 293 (Int32.ofInt 4 * Int32.ofNat k + Int32.ofNat 1).toNatClampNeg + m3 293 (Int32.ofInt 4 * Int32.ofNat k + Int32.ofNat 2).toNatClampNeg)] m3 t
            rw [ev_at i0 (by omega), ev_at (ic 1 (by omega)) (by omega), ev_at (ic 2 (by omega)) (by omega)]
            refine ev_gK A hp [165] 30 ?_
            refine And.intro (ev_iin (ic 3 (by omega)) (by omega) (by decide)) ?_
            refine And.intro (fun (h2 : ¬ (m3 293 (4 * k) + m3 293 (4 * k + 1) + m3 293 (4 * k + 2) + m3 293 (Int32.ofInt 4 * Int32.ofNat k + Int32.ofNat 3).toNatClampNeg).toInt = ((Int8.ofInt (-4)).toInt32).toInt) => ?_) (fun (h2 : (m3 293 (4 * k) + m3 293 (4 * k + 1) + m3 293 (4 * k + 2) + m3 293 (Int32.ofInt 4 * Int32.ofNat k + Int32.ofNat 3).toNatClampNeg).toInt = ((Int8.ofInt (-4)).toInt32).toInt) => ?_)
            · rw [ev_at (ic 3 (by omega)) (by omega), a3, im4] at h2
              exact h165 false (by cases hq : ab_keep (zT z) v k with | true => rfl | false => exact absurd (key.mpr hq) h2)
            · rw [ev_at (ic 3 (by omega)) (by omega), a3, im4] at h2
              exact h165 true (by rw [key.mp h2]; rfl)
          have hch2 : m2 294 (Int32.ofNat k).toNatClampNeg = ab_oi ((zT z).2.2.1 k) := by rw [ev_on (by omega), r1 _ _ (by omega)]; exact hch
          have hchb : ∀ x, (zT z).2.2.1 k = some x → x < 100000 := fun x hx => by have := k8.2.2.1 k x hx; omega
          refine ev_gK A hp [113] 20 ?_
          refine And.intro (ev_oin (by omega) (by decide)) ?_
          refine And.intro (fun (h2 : ¬ (m2 294 (Int32.ofNat k).toNatClampNeg).toInt = (Int32.ofNat v).toInt) => ?_) (fun (h2 : (m2 294 (Int32.ofNat k).toNatClampNeg).toInt = (Int32.ofNat v).toInt) => ?_)
          · rw [hch2] at h2
            refine And.intro (ev_oin (by omega) (by decide)) ?_
            show ev_J w ev_m168 (ev_nd 168) Q 113 [ev_vr 277, ev_vn v, ev_vn (ab_sel (zT z) v k).length, ev_vn k, o4] [.int (m2 294 (Int32.ofNat k).toNatClampNeg), .int (Int32.ofNat k), .ref 294] m2 t
            rw [hch2]
            exact h113 _ (by unfold ab_chx; rw [if_neg (fun q => h2 (by rw [q]; rfl))])
          · rw [hch2] at h2
            exact h113 none (by unfold ab_chx; rw [if_pos (ab_oi_inj hchb (fun x hx => by cases hx; omega) (h2.trans rfl))]))
      exact loop 0 (by omega) _ _ m1 _ rfl rfl (fun _ _ _ _ => rfl) (fun q hq => by have := ab_sel_len (zT z) v 0; omega) (fun p z1 z2 => ⟨fun u hu => by rw [q1 _ _ (by omega), g0 _ _ (by omega)]; exact t2 p z2 u hu, by rw [q1 _ _ (by omega), g0 _ _ (by omega)]; exact t3 p z2⟩)
    have hbb : ∀ x, (zT z).2.2.2.2 = some x → x < 100000 := fun x hx => by have := k8.2.2.2.2.2 x hx; omega
    refine ev_gK A hp [62] 20 ?_
    refine And.intro (fun (h2 : ¬ (ev_up m0 277 19 (Int32.ofNat ((zT z).2.2.2.1.length - 1)) 277 21).toInt = (Int32.ofNat v).toInt) => ?_) (fun (h2 : (ev_up m0 277 19 (Int32.ofNat ((zT z).2.2.2.1.length - 1)) 277 21).toInt = (Int32.ofNat v).toInt) => ?_)
    · rw [x21] at h2
      show ev_J w ev_m168 (ev_nd 168) Q 62 [ev_vr 277, ev_vn v, none, none, none] [.int (ev_up m0 277 19 (Int32.ofNat ((zT z).2.2.2.1.length - 1)) 277 21), .ref 277] (ev_up m0 277 19 (Int32.ofNat ((zT z).2.2.2.1.length - 1))) t
      rw [x21]
      exact h62 _ (by rw [if_neg (fun q => h2 (by rw [q]; rfl))])
    · rw [x21] at h2
      exact h62 none (by rw [if_pos (ab_oi_inj hbb (fun x hx => by cases hx; omega) (h2.trans rfl))])
end EvMcalls3
