/-! the class's table: the last joined taken out -/
section EvTakeOut
variable {w : ev_W} {Q : ev_QT} {m : ev_Mem} {t : ev_H}
def ab_keep (T : ab_T) (v p : Nat) : Bool := [0, 1, 2, 3].any (fun u => decide (u ≠ v) && (T.2.1 p u).isSome)
def ab_sel (T : ab_T) (v n : Nat) : List Nat := (List.range n).filter (ab_keep T v)
def ab_chx (T : ab_T) (v p : Nat) : Option Nat := if T.2.2.1 p = some v then none else T.2.2.1 p
def ab_cfx (T : ab_T) (v p u : Nat) : Option Nat := if u = v then none else T.2.1 p u
theorem ab_sel_succ (T : ab_T) (v k : Nat) : ab_sel T v (k + 1) = ab_sel T v k ++ (if ab_keep T v k = true then [k] else []) := by
  unfold ab_sel
  rw [List.range_succ, List.filter_append]
  refine congrArg (fun z => (List.range k).filter (ab_keep T v) ++ z) ?_
  cases h : ab_keep T v k
  · rw [List.filter_cons_of_neg (by rw [h]; decide)]; rfl
  · rw [List.filter_cons_of_pos h]; rfl
theorem ab_sel_len (T : ab_T) (v k : Nat) : (ab_sel T v k).length ≤ k := by
  have h := List.length_filter_le (ab_keep T v) (List.range k)
  rw [List.length_range] at h
  exact h
theorem ab_oi_sm {o : Option Nat} (h : ∀ i, o = some i → i < 10) : ¬ (ab_oi o).toInt = -1 ↔ o.isSome = true := by
  rw [ab_oi_m1 (fun x hx => by have := h x hx; omega)]
  cases o with
  | none => exact ⟨fun q => absurd rfl q, fun q => by cases q⟩
  | some i => exact ⟨fun _ => rfl, fun _ q => by cases q⟩
/-- Table.takeOut -/
theorem ev_S46 {v : Nat} {T : ab_T} (A : ev_all w) (hT : ab_TC m T) (hok : ab_Tok T) (hv : v < 4) (hj : 0 < T.2.2.2.1.length)
    (hQ : ∀ m', (∀ k j, ¬ (k = 209 ∨ k = 210 ∨ k = 211) → m' k j = m k j) → (m' 209 2 = Int32.ofNat (ab_sel T v T.1).length) → (m' 209 4 = Int32.ofNat (T.2.2.2.1.length - 1)) → (m' 209 5 = ab_oi (if T.2.2.2.2 = some v then none else T.2.2.2.2)) →
      (∀ q, q < (ab_sel T v T.1).length → (∀ u, u < 4 → m' 210 (4 * q + u) = ab_oi (ab_cfx T v ((ab_sel T v T.1).getD q 0) u)) ∧ m' 211 q = ab_oi (ab_chx T v ((ab_sel T v T.1).getD q 0))) → Q (.inl none) m' t) :
    ev_K w 46 [.ref 209, .int (Int32.ofNat v)] m t Q := by
  have hp : ev_prog[46]? = some ev_m46 := rfl
  obtain ⟨t1, t2, t3, t4, t5, t6⟩ := hT
  obtain ⟨k1, k2, k3, k4, k5, k6⟩ := hok
  have ev := ev_ofNat_i (n := v) (by omega)
  have e4 : m 209 4 = Int32.ofNat T.2.2.2.1.length := by
    apply ev_eq_of
    rw [t4, ev_ofNat_i (by omega)]
  have loop : ∀ (n k : Nat) (mk : ev_Mem), k + n = T.1 → (∀ k j, ¬ (k = 209 ∨ k = 210 ∨ k = 211) → mk k j = m k j) → (mk 209 2 = m 209 2) → (mk 209 4 = Int32.ofNat (T.2.2.2.1.length - 1)) → (mk 209 5 = ab_oi (if T.2.2.2.2 = some v then none else T.2.2.2.2)) →
      (∀ q, q < (ab_sel T v k).length → (∀ u, u < 4 → mk 210 (4 * q + u) = ab_oi (ab_cfx T v ((ab_sel T v k).getD q 0) u)) ∧ mk 211 q = ab_oi (ab_chx T v ((ab_sel T v k).getD q 0))) →
      (∀ p, k ≤ p → p < T.1 → (∀ u, u < 4 → mk 210 (4 * p + u) = ab_oi (T.2.1 p u)) ∧ mk 211 p = ab_oi (T.2.2.1 p)) →
      ev_J w ev_m46 (ev_nd 46) Q 27 [some (.ref 209), some (.int (Int32.ofNat v)), some (.int (Int32.ofNat (ab_sel T v k).length)), some (.int (Int32.ofNat k))] [] mk t := by
    intro n
    induction n with
    | zero =>
      intro k mk hk f1 f2 f4 f5 hlow hhigh
      have ek := ev_ofNat_i (n := k) (by omega)
      have hkT : k = T.1 := by omega
      refine ev_gK A hp [] 10 ?_
      refine And.intro (fun h => ?_) (fun h => ?_)
      · show Q (.inl none) (ev_up mk 209 2 (Int32.ofNat (ab_sel T v k).length)) t
        rw [hkT] at hlow ⊢
        refine hQ _ (fun k j hk => by rw [ev_up_cell _ (by omega)]; exact f1 k j hk) (ev_up_same _ _ _ _) (by rw [ev_up_idx _ _ (by decide)]; exact f4) (by rw [ev_up_idx _ _ (by decide)]; exact f5) (fun q hq => ?_)
        obtain ⟨a, b⟩ := hlow q hq
        exact ⟨fun u hu => by rw [ev_up_cell _ (by decide)]; exact a u hu, by rw [ev_up_cell _ (by decide)]; exact b⟩
      · have h2 : (Int32.ofNat k).toInt < (mk 209 2).toInt := h
        rw [f2] at h2
        omega
    | succ n ih =>
      intro k mk hk f1 f2 f4 f5 hlow hhigh
      have ek := ev_ofNat_i (n := k) (by omega)
      have hk' : k < T.1 := by omega
      have nk : (Int32.ofNat k).toNatClampNeg = k := ev_on (by omega)
      have hsl := ab_sel_len T v k
      obtain ⟨hc, hch⟩ := hhigh k (Nat.le_refl _) hk'
      refine ev_gK A hp [42] 10 ?_
      refine And.intro (fun h => ?_) (fun h => ?_)
      · have h2 : (mk 209 2).toInt ≤ (Int32.ofNat k).toInt := h
        rw [f2] at h2
        omega
      show ev_K w 42 [.ref 209, .int (Int32.ofNat k), .int (Int32.ofNat v), .int (-1)] mk t _
      refine ev_S42 A (by omega) hv ?_
      show ev_J w ev_m46 (ev_nd 46) Q 42 [some (.ref 209), some (.int (Int32.ofNat v)), some (.int (Int32.ofNat (ab_sel T v k).length)), some (.int (Int32.ofNat k))] [] (ev_up mk 210 (4 * k + v) (-1)) t
      generalize hm1 : ev_up mk 210 (4 * k + v) (-1) = m1
      have g1 : ∀ c j, ¬ (c = 210 ∧ j = 4 * k + v) → m1 c j = mk c j := fun c j h => by rw [← hm1]; exact if_neg h
      have g2 : ∀ u, u < 4 → m1 210 (4 * k + u) = ab_oi (ab_cfx T v k u) := by
        intro u hu
        unfold ab_cfx
        by_cases huv : u = v
        · rw [if_pos huv, huv, ← hm1, ev_up_same]; rfl
        · rw [if_neg huv, g1 _ _ (by omega)]; exact hc u hu
      have h59 : ∀ m2 : ev_Mem, (∀ c j, ¬ (c = 211 ∧ j = k) → m2 c j = m1 c j) → m2 211 k = ab_oi (ab_chx T v k) → ev_J w ev_m46 (ev_nd 46) Q 59 [some (.ref 209), some (.int (Int32.ofNat v)), some (.int (Int32.ofNat (ab_sel T v k).length)), some (.int (Int32.ofNat k))] [] m2 t := by
        intro m2 r1 r2
        have r3 : ∀ u, u < 4 → m2 210 (4 * k + u) = ab_oi (ab_cfx T v k u) := fun u hu => by rw [r1 _ _ (by omega)]; exact g2 u hu
        have hall : ∀ c j, ¬ (c = 210 ∧ j = 4 * k + v) → ¬ (c = 211 ∧ j = k) → m2 c j = mk c j := fun c j z1 z2 => by rw [r1 c j z2]; exact g1 c j z1
        have kp : ∀ u, u < 4 → (¬ (m2 210 (4 * k + u)).toInt = -1 ↔ (u ≠ v ∧ (T.2.1 k u).isSome = true)) := by
          intro u hu
          rw [r3 u hu, ab_oi_sm (fun i hi => by unfold ab_cfx at hi; split at hi; cases hi; exact k2 k u i hi)]
          unfold ab_cfx
          by_cases huv : u = v
          · rw [if_pos huv]; exact ⟨fun q => (by cases q), fun q => absurd huv q.1⟩
          · rw [if_neg huv]; exact ⟨fun q => ⟨huv, q⟩, fun q => q.2⟩
        refine ev_gK A hp [27] 20 ?_
        show ev_K w 47 [.ref 209, .int (Int32.ofNat k)] m2 t _
        refine ev_S47 A (by omega) (fun ⟨u, hu, hu2⟩ => ?_) (fun hno => ?_)
        · have hkeep : ab_keep T v k = true := by
            obtain ⟨z1, z2⟩ := (kp u hu).mp hu2
            unfold ab_keep
            refine List.any_eq_true.mpr ⟨u, ?_, by rw [decide_eq_true z1, z2]; rfl⟩
            match u, hu with
            | 0, _ => simp
            | 1, _ => simp
            | 2, _ => simp
            | 3, _ => simp
          refine And.intro (fun h => (ev_ne10 h).elim) (fun h => ?_)
          show ev_K w 43 [.ref 209, .int (Int32.ofNat k), .int (Int32.ofNat (ab_sel T v k).length)] m2 t _
          refine ev_S43 A (by omega) (by omega) ?_
          show ev_J w ev_m46 (ev_nd 46) Q 27 [some (.ref 209), some (.int (Int32.ofNat v)), some (.int (Int32.ofNat (ab_sel T v k).length + 1)), some (.int (Int32.ofNat k + 1))] [] (ab_setp m2 (ab_sel T v k).length (fun u => m2 210 (4 * k + u)) (m2 211 k)) t
          have es : ab_sel T v (k + 1) = ab_sel T v k ++ [k] := by rw [ab_sel_succ, if_pos hkeep]
          have el : (ab_sel T v (k + 1)).length = (ab_sel T v k).length + 1 := by rw [es, List.length_append, List.length_singleton]
          rw [ev_succ (by omega), ev_succ (by omega), ← el]
          have sp1 : ∀ c j, ¬ (c = 210 ∧ 4 * (ab_sel T v k).length ≤ j ∧ j < 4 * (ab_sel T v k).length + 4) → ¬ (c = 211 ∧ j = (ab_sel T v k).length) → ab_setp m2 (ab_sel T v k).length (fun u => m2 210 (4 * k + u)) (m2 211 k) c j = m2 c j := by
            intro c j z1 z2
            unfold ab_setp ev_up
            rw [if_neg z2]
            unfold ab_setn
            rw [if_neg z1]
          refine ih (k + 1) _ (by omega) (fun c j z => ?_) ?_ ?_ ?_ (fun q hq => ?_) (fun p z1 z2 => ?_)
          · rw [sp1 c j (by omega) (by omega), hall c j (by omega) (by omega)]; exact f1 c j z
          · rw [sp1 _ _ (by omega) (by omega), hall _ _ (by omega) (by omega)]; exact f2
          · rw [sp1 _ _ (by omega) (by omega), hall _ _ (by omega) (by omega)]; exact f4
          · rw [sp1 _ _ (by omega) (by omega), hall _ _ (by omega) (by omega)]; exact f5
          · rw [el] at hq
            by_cases hql : q = (ab_sel T v k).length
            · have eg : (ab_sel T v (k + 1)).getD q 0 = k := by
                rw [es, hql, List.getD_eq_getElem?_getD, List.getElem?_append_right (Nat.le_refl _), Nat.sub_self]; rfl
              rw [eg]
              refine ⟨fun u hu => ?_, ?_⟩
              · have e1 : ab_setp m2 (ab_sel T v k).length (fun u => m2 210 (4 * k + u)) (m2 211 k) 210 (4 * q + u) = m2 210 (4 * k + u) := by
                  unfold ab_setp
                  rw [ev_up_cell _ (by decide)]
                  unfold ab_setn
                  rw [if_pos ⟨rfl, by omega, by omega⟩]
                  have e2 : 4 * q + u - 4 * (ab_sel T v k).length = u := by omega
                  rw [e2]
                rw [e1]; exact r3 u hu
              · rw [hql]
                unfold ab_setp
                rw [ev_up_same]; exact r2
            · have eg : (ab_sel T v (k + 1)).getD q 0 = (ab_sel T v k).getD q 0 := by
                rw [es, List.getD_eq_getElem?_getD, List.getD_eq_getElem?_getD, List.getElem?_append_left (by omega)]
              rw [eg]
              obtain ⟨a, b⟩ := hlow q (by omega)
              refine ⟨fun u hu => ?_, ?_⟩
              · rw [sp1 _ _ (by omega) (by omega), hall _ _ (by omega) (by omega)]; exact a u hu
              · rw [sp1 _ _ (by omega) (by omega), hall _ _ (by omega) (by omega)]; exact b
          · obtain ⟨a, b⟩ := hhigh p (by omega) z2
            refine ⟨fun u hu => ?_, ?_⟩
            · rw [sp1 _ _ (by omega) (by omega), hall _ _ (by omega) (by omega)]; exact a u hu
            · rw [sp1 _ _ (by omega) (by omega), hall _ _ (by omega) (by omega)]; exact b
        · have hkeep : ¬ ab_keep T v k = true := by
            intro hk2
            unfold ab_keep at hk2
            obtain ⟨u, hu, hu2⟩ := List.any_eq_true.mp hk2
            have hu4 : u < 4 := by
              simp only [List.mem_cons, List.not_mem_nil, or_false] at hu
              omega
            simp only [Bool.and_eq_true, decide_eq_true_eq] at hu2
            exact (kp u hu4).mpr hu2 (hno u hu4)
          refine And.intro (fun h => ?_) (fun h => absurd ev_eq00 h)
          show ev_J w ev_m46 (ev_nd 46) Q 27 [some (.ref 209), some (.int (Int32.ofNat v)), some (.int (Int32.ofNat (ab_sel T v k).length)), some (.int (Int32.ofNat k + 1))] [] m2 t
          have es : ab_sel T v (k + 1) = ab_sel T v k := by rw [ab_sel_succ, if_neg hkeep, List.append_nil]
          rw [ev_succ (by omega), ← es]
          refine ih (k + 1) m2 (by omega) (fun c j z => ?_) ?_ ?_ ?_ (fun q hq => ?_) (fun p z1 z2 => ?_)
          · rw [hall c j (by omega) (by omega)]; exact f1 c j z
          · rw [hall _ _ (by omega) (by omega)]; exact f2
          · rw [hall _ _ (by omega) (by omega)]; exact f4
          · rw [hall _ _ (by omega) (by omega)]; exact f5
          · rw [es] at hq ⊢
            obtain ⟨a, b⟩ := hlow q hq
            refine ⟨fun u hu => ?_, ?_⟩
            · rw [hall _ _ (by omega) (by omega)]; exact a u hu
            · rw [hall _ _ (by omega) (by omega)]; exact b
          · obtain ⟨a, b⟩ := hhigh p (by omega) z2
            refine ⟨fun u hu => ?_, ?_⟩
            · rw [hall _ _ (by omega) (by omega)]; exact a u hu
            · rw [hall _ _ (by omega) (by omega)]; exact b
      have hch1 : m1 211 k = ab_oi (T.2.2.1 k) := by rw [g1 _ _ (by omega)]; exact hch
      refine ev_gK A hp [52, 59] 10 ?_
      refine And.intro (ev_oin (by omega) (by decide)) ?_
      refine And.intro (fun h => ?_) (fun h => ?_)
      · have h2 : ¬ (m1 211 (Int32.ofNat k).toNatClampNeg).toInt = (ab_oi (some v)).toInt := h
        rw [nk, hch1] at h2
        refine h59 m1 (fun _ _ _ => rfl) ?_
        unfold ab_chx
        rw [if_neg (fun q => h2 (by rw [q]))]
        exact hch1
      · have h2 : (m1 211 (Int32.ofNat k).toNatClampNeg).toInt = (ab_oi (some v)).toInt := h
        rw [nk, hch1] at h2
        have h3 : T.2.2.1 k = some v := ab_oi_inj (fun x hx => by have := k3 k x hx; omega) (fun x hx => by cases hx; omega) h2
        show ev_J w ev_m46 (ev_nd 46) Q 52 [some (.ref 209), some (.int (Int32.ofNat v)), some (.int (Int32.ofNat (ab_sel T v k).length)), some (.int (Int32.ofNat k))] [] m1 t
        refine ev_gK A hp [59] 10 ?_
        refine And.intro (ev_oin (by omega) (by decide)) ?_
        show ev_J w ev_m46 (ev_nd 46) Q 59 [some (.ref 209), some (.int (Int32.ofNat v)), some (.int (Int32.ofNat (ab_sel T v k).length)), some (.int (Int32.ofNat k))] [] (ev_up m1 211 (Int32.ofNat k).toNatClampNeg (-1)) t
        rw [nk]
        refine h59 _ (fun c j z => if_neg z) ?_
        unfold ab_chx
        rw [if_pos h3, ev_up_same]
        rfl
  have h23 : ∀ m0 : ev_Mem, (∀ c j, ¬ (c = 209 ∧ (j = 4 ∨ j = 5)) → m0 c j = m c j) → m0 209 4 = Int32.ofNat (T.2.2.2.1.length - 1) → m0 209 5 = ab_oi (if T.2.2.2.2 = some v then none else T.2.2.2.2) → ev_J w ev_m46 (ev_nd 46) Q 23 [some (.ref 209), some (.int (Int32.ofNat v)), none, none] [] m0 t := by
    intro m0 f1 f4 f5
    refine ev_gK A hp [27] 10 ?_
    show ev_J w ev_m46 (ev_nd 46) Q 27 [some (.ref 209), some (.int (Int32.ofNat v)), some (.int (Int32.ofNat (ab_sel T v 0).length)), some (.int (Int32.ofNat 0))] [] m0 t
    refine loop T.1 0 m0 (by omega) (fun c j z => f1 c j (by omega)) (f1 _ _ (by omega)) f4 f5 (fun q hq => absurd hq (Nat.not_lt_zero _)) (fun p _ z2 => ⟨fun u hu => ?_, ?_⟩)
    · rw [f1 _ _ (by omega)]; exact t2 p z2 u hu
    · rw [f1 _ _ (by omega)]; exact t3 p z2
  refine ⟨Or.inr ⟨209, _, rfl, rfl⟩, ev_m46, rfl, ev_gK A hp [10] 10 ?_⟩
  show ev_J w ev_m46 (ev_nd 46) Q 10 [some (.ref 209), some (.int (Int32.ofNat v)), none, none] [] (ev_up m 209 4 (m 209 4 - 1)) t
  rw [e4, ev_pred (by omega) (by omega)]
  have hb5 : ev_up m 209 4 (Int32.ofNat (T.2.2.2.1.length - 1)) 209 5 = ab_oi T.2.2.2.2 := by rw [ev_up_idx _ _ (by decide)]; exact t6
  refine ev_gK A hp [18, 23] 10 ?_
  refine And.intro (fun h => ?_) (fun h => ?_)
  · have h2 : ¬ (ev_up m 209 4 (Int32.ofNat (T.2.2.2.1.length - 1)) 209 5).toInt = (ab_oi (some v)).toInt := h
    rw [hb5] at h2
    refine h23 _ (fun c j z => if_neg (fun q => z ⟨q.1, Or.inl q.2⟩)) (ev_up_same _ _ _ _) ?_
    rw [hb5, if_neg (fun q => h2 (by rw [q]))]
  · have h2 : (ev_up m 209 4 (Int32.ofNat (T.2.2.2.1.length - 1)) 209 5).toInt = (ab_oi (some v)).toInt := h
    rw [hb5] at h2
    have h3 : T.2.2.2.2 = some v := ab_oi_inj (fun x hx => by have := k6 x hx; omega) (fun x hx => by cases hx; omega) h2
    show ev_J w ev_m46 (ev_nd 46) Q 18 [some (.ref 209), some (.int (Int32.ofNat v)), none, none] [] (ev_up m 209 4 (Int32.ofNat (T.2.2.2.1.length - 1))) t
    refine ev_gK A hp [23] 10 ?_
    show ev_J w ev_m46 (ev_nd 46) Q 23 [some (.ref 209), some (.int (Int32.ofNat v)), none, none] [] (ev_up (ev_up m 209 4 (Int32.ofNat (T.2.2.2.1.length - 1))) 209 5 (-1)) t
    refine h23 _ (fun c j z => ?_) ?_ ?_
    · unfold ev_up
      rw [if_neg (fun q => z ⟨q.1, Or.inr q.2⟩), if_neg (fun q => z ⟨q.1, Or.inl q.2⟩)]
    · rw [ev_up_idx _ _ (by decide), ev_up_same]
    · rw [ev_up_same, if_pos h3]; rfl
end EvTakeOut
