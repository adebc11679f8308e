/-! the model's calls: small ones -/
section EvMcalls4
variable {w : ev_W} {Q : ev_QT} {m : ev_Mem} {t : ev_H} {z : ab_Z}
/-- places -/
theorem ev_S169 (A : ev_all w) (hs : ab_RepM m z) (hQ : ab_PM m t true (ab_places z) Q) : ev_K w 169 [.ref 277] m t Q := by
  have hp : ev_prog[169]? = some ev_m169 := rfl
  refine ⟨Or.inr ⟨277, _, rfl, rfl⟩, ev_m169, rfl, ev_gK A hp [] 10 ?_⟩
  show Q (.inl (some (.int (ev_up m 277 0 (Int32.ofNat 0) 277 22)))) (ev_up m 277 0 (Int32.ofNat 0)) t
  rw [ab_up0 _ _ (by omega), hs.2.2.2.2.2.2.2.1.1]
  exact hQ _ _ (ab_RM_th hs _) (fun c i hc => ab_up0 _ _ (by omega)) (ev_up_same _ _ _ _) (fun _ => rfl)
/-- at -/
theorem ev_S170 {p x : Int32} (A : ev_all w) (hs : ab_RepM m z) (hok : ab_ok z) (hQ : ab_PM m t true (ab_at z p x) Q) : ev_K w 170 [.ref 277, .int p, .int x] m t Q := by
  have hp : ev_prog[170]? = some ev_m170 := rfl
  have c8 := hs.2.2.2.2.2.2.2.1
  have kk1 := hok.2.2.2.2.1.1.1
  have thr : ab_at z p x = (1, 0, z) → ev_J w ev_m170 (ev_nd 170) Q 21 [ev_vr 277, ev_vi p, ev_vi x, none] [.int (Int32.ofNat 1), .ref 277] m t := by
    intro e
    rw [e] at hQ
    refine ev_gK A hp [33] 10 ?_
    refine And.intro (fun (h : (ev_up m 277 0 (Int32.ofNat 1) 277 0).toInt ≤ 0) => by rw [ev_up_same] at h; exact absurd h (by decide)) (fun _ => ?_)
    exact hQ _ 0 (ab_RM_th hs _) (fun c i hc => ab_up0 _ _ (by omega)) (ev_up_same _ _ _ _) (fun q => absurd q (Nat.succ_ne_zero _))
  refine ⟨Or.inr ⟨277, _, rfl, rfl⟩, ev_m170, rfl, ev_gK A hp [21] 20 ?_⟩
  refine ev_S171 (z := z) A c8 hok.2.2.2.2.1.1 ?_
  cases hpi : ab_pi z p with
  | none =>
    refine And.intro (fun _ => thr (by unfold ab_at; rw [hpi])) (fun h => absurd ev_eq00 h)
  | some q =>
    refine And.intro (fun h => absurd (h : (1 : Int32).toInt = 0) ev_ne10) (fun _ => ?_)
    refine ev_S140 A ?_
    cases hv : ab_wi x with
    | none =>
      refine And.intro (fun _ => thr (by unfold ab_at; rw [hv]; split <;> first | rfl | (rename_i h1 h2; cases h2))) (fun h => absurd ev_eq00 h)
    | some v =>
      obtain ⟨hv4, rfl⟩ := ab_wi_some hv
      obtain ⟨rfl, hq⟩ := ab_pi_some hpi
      have e : ab_at z (Int32.ofNat q) (Int32.ofNat v) = (0, ab_oi ((zT z).2.1 q v), z) := by unfold ab_at; rw [hpi, hv]
      rw [e] at hQ
      refine And.intro (fun h => absurd (h : (1 : Int32).toInt = 0) ev_ne10) (fun _ => ?_)
      show ev_J w ev_m170 (ev_nd 170) Q 21 [ev_vr 277, ev_vn q, ev_vn v, none] [.int (Int32.ofNat 0), .ref 277] m t
      refine ev_gK A hp [33] 10 ?_
      refine And.intro (fun _ => ?_) (fun (h : 0 < (ev_up m 277 0 (Int32.ofNat 0) 277 0).toInt) => by rw [ev_up_same] at h; exact absurd h (by decide))
      have ei : Int32.ofInt 4 * Int32.ofNat q + Int32.ofNat v = Int32.ofNat (4 * q + v) := ev_lin (c := 4) (by omega) (by omega) (by omega)
      have n10 : ¬ (10 : Int32) = 0 := by decide
      have mw : ev_up m 277 0 (Int32.ofNat 0) 293 (Int32.ofInt 4 * Int32.ofNat q + Int32.ofNat v).toNatClampNeg = ab_oi (ab_nat (zT z) q v) := by rw [ev_at ei (by omega), ab_up0 _ _ (by omega)]; exact c8.2.1 q hq v hv4
      refine ev_gK A hp [44] 20 ?_
      refine And.intro (ev_iin ei (by omega) (by decide)) ?_
      show ev_J w ev_m170 (ev_nd 170) Q 44 [ev_vr 277, ev_vn q, ev_vn v, ev_vi (ev_up m 277 0 (Int32.ofNat 0) 293 (Int32.ofInt 4 * Int32.ofNat q + Int32.ofNat v).toNatClampNeg)] [] (ev_up m 277 0 (Int32.ofNat 0)) t
      rw [mw]
      have fin : ∀ x : Int32, x = ab_oi ((zT z).2.1 q v) → Q (.inl (some (.int x))) (ev_up m 277 0 (Int32.ofNat 0)) t := fun x hx => hQ _ _ (ab_RM_th hs _) (fun c i hc => ab_up0 _ _ (by omega)) (ev_up_same _ _ _ _) (fun _ => hx)
      cases hc : (zT z).2.1 q v with
      | none =>
        have hn : ab_nat (zT z) q v = none := by unfold ab_nat; rw [hc]; rfl
        rw [hn]
        refine ev_gK A hp [] 10 ?_
        refine And.intro (fun (h4 : 0 ≤ (-1 : Int32).toInt) => absurd h4 (by decide)) (fun _ => ?_)
        exact fin _ (by rw [hc]; rfl)
      | some i =>
        have hn : ab_nat (zT z) q v = some (10 * v + i) := by unfold ab_nat; rw [hc]; rfl
        have hi := hok.2.2.2.2.1.1.2.1 q v i hc
        rw [hn]
        have en := ev_ofNat_i (n := 10 * v + i) (by omega)
        refine ev_gK A hp [] 10 ?_
        refine And.intro (fun _ => ?_) (fun (h4 : (Int32.ofNat (10 * v + i)).toInt < 0) => by omega)
        refine And.intro n10 ?_
        refine fin _ ?_
        rw [hc]
        show Int32.ofNat (10 * v + i) - Int32.ofNat (10 * v + i) / 10 * 10 = Int32.ofNat i
        rw [ev_r10 (by omega)]
        congr 1
        omega
/-- placeOf -/
def ab_plo (T : ab_T) (x : Nat) : Option Nat := (List.range T.1).find? (fun p => decide (T.2.1 p (x / 10) = some (x % 10)))
theorem ev_S173 {x : Nat} (A : ev_all w) (hT : ab_MT m (zT z)) (hok : ab_ok z) (hx : x < 40) (hQ : Q (.inl (some (.int (ab_oi (ab_plo (zT z) x))))) m t) : ev_K w 173 [.ref 277, .int (Int32.ofNat x)] m t Q := by
  have hp : ev_prog[173]? = some ev_m173 := rfl
  have kk1 := hok.2.2.2.2.1.1.1
  have n10 : ¬ (10 : Int32) = 0 := by decide
  have e22 := ev_toI hT.1 (by omega)
  have loop := ev_lup (P := fun k => ∀ kk : Int32, kk = Int32.ofNat k → ab_plo (zT z) x = ((List.range (zT z).1).drop k).find? (fun p => decide ((zT z).2.1 p (x / 10) = some (x % 10))) → ev_J w ev_m173 (ev_nd 173) Q 2 [ev_vr 277, ev_vn x, ev_vi kk] [] m t) (zT z).1 (by
    intro k hk ih kk ekk hf
    subst ekk
    have ek := ev_ofNat_i (n := k) (by omega)
    refine ev_gK A hp [10] 10 ?_
    refine And.intro (fun (h : (m 277 22).toInt ≤ (Int32.ofNat k).toInt) => ?_) (fun (h : (Int32.ofNat k).toInt < (m 277 22).toInt) => ?_)
    · rw [List.drop_of_length_le (by rw [List.length_range]; omega)] at hf
      rw [hf] at hQ
      exact hQ
    · have hkT : k < (zT z).1 := by omega
      have hd : (List.range (zT z).1).drop k = k :: (List.range (zT z).1).drop (k + 1) := by
        rw [List.drop_eq_getElem_cons (by rw [List.length_range]; exact hkT), List.getElem_range]
      rw [hd, List.find?_cons] at hf
      have ei : Int32.ofInt 4 * Int32.ofNat k + Int32.ofNat (x / 10) = Int32.ofNat (4 * k + x / 10) := ev_lin (c := 4) (by omega) (by omega) (by omega)
      refine ev_gK A hp [] 8 ?_
      refine And.intro n10 ?_
      show ev_J w ev_m173 (ev_nd 173) Q 21 [ev_vr 277, ev_vn x, ev_vn k] [.int (Int32.ofNat x / 10), .int (Int32.ofInt 4 * Int32.ofNat k), .ref 293] m t
      rw [ev_d10 (by omega)]
      have mw : m 293 (Int32.ofInt 4 * Int32.ofNat k + Int32.ofNat (x / 10)).toNatClampNeg = ab_oi (ab_nat (zT z) k (x / 10)) := by rw [ev_at ei (by omega)]; exact hT.2.1 k hkT (x / 10) (by omega)
      have hb : ∀ y, ab_nat (zT z) k (x / 10) = some y → y < 100000 := fun y hy => by have := (ab_nat_lt hok (by omega) hy).1; omega
      refine ev_gK A hp [2] 10 ?_
      refine And.intro (ev_iin ei (by omega) (by decide)) ?_
      refine And.intro (fun (h2 : ¬ (m 293 (Int32.ofInt 4 * Int32.ofNat k + Int32.ofNat (x / 10)).toNatClampNeg).toInt = (Int32.ofNat x).toInt) => ?_) (fun (h2 : (m 293 (Int32.ofInt 4 * Int32.ofNat k + Int32.ofNat (x / 10)).toNatClampNeg).toInt = (Int32.ofNat x).toInt) => ?_)
      · rw [mw] at h2
        have hne : ¬ (zT z).2.1 k (x / 10) = some (x % 10) := by
          intro q
          apply h2
          have : ab_nat (zT z) k (x / 10) = some x := by unfold ab_nat; rw [q]; show some (10 * (x / 10) + x % 10) = some x; congr 1; omega
          rw [this]; rfl
        rw [decide_eq_false hne] at hf
        exact ih hkT _ (ev_succ (by omega)) hf
      · rw [mw] at h2
        have h3 : ab_nat (zT z) k (x / 10) = some x := ab_oi_inj hb (fun y hy => by cases hy; omega) (h2.trans rfl)
        have h4 := (ab_nat_lt hok (by omega) h3).2.2.2
        rw [decide_eq_true h4] at hf
        rw [hf] at hQ
        exact hQ)
  refine ⟨Or.inr ⟨277, _, rfl, rfl⟩, ev_m173, rfl, ev_gK A hp [2] 10 ?_⟩
  exact loop 0 (by omega) _ rfl rfl
/-- beside -/
theorem ev_S172 {x i y : Int32} (A : ev_all w) (hs : ab_RepM m z) (hok : ab_ok z) (hQ : ab_PM m t true (ab_beside z x i y) Q) : ev_K w 172 [.ref 277, .int x, .int i, .int y] m t Q := by
  have hp : ev_prog[172]? = some ev_m172 := rfl
  have c8 := hs.2.2.2.2.2.2.2.1
  have kk1 := hok.2.2.2.2.1.1.1
  have thr : ab_beside z x i y = (1, 0, z) → ev_J w ev_m172 (ev_nd 172) Q 22 [ev_vr 277, ev_vi x, ev_vi i, ev_vi y, none] [.int (Int32.ofNat 1), .ref 277] m t := by
    intro e
    rw [e] at hQ
    refine ev_gK A hp [34] 10 ?_
    refine And.intro (fun (h : (ev_up m 277 0 (Int32.ofNat 1) 277 0).toInt ≤ 0) => by rw [ev_up_same] at h; exact absurd h (by decide)) (fun _ => ?_)
    exact hQ _ 0 (ab_RM_th hs _) (fun c i hc => ab_up0 _ _ (by omega)) (ev_up_same _ _ _ _) (fun q => absurd q (Nat.succ_ne_zero _))
  refine ⟨Or.inr ⟨277, _, rfl, rfl⟩, ev_m172, rfl, ev_gK A hp [22] 20 ?_⟩
  refine ev_S153 (z := z) A hs.2.2.1 hok.2.2.1 ?_
  cases hwd : ab_wd z x i with
  | none =>
    refine And.intro (fun _ => thr (by unfold ab_beside; rw [hwd])) (fun h => absurd ev_eq00 h)
  | some a =>
    refine And.intro (fun h => absurd (h : (1 : Int32).toInt = 0) ev_ne10) (fun _ => ?_)
    refine ev_S140 A ?_
    cases hv : ab_wi y with
    | none =>
      refine And.intro (fun _ => thr (by unfold ab_beside; rw [hv]; split <;> first | rfl | (rename_i h1 h2; cases h2))) (fun h => absurd ev_eq00 h)
    | some v =>
      obtain ⟨hv4, rfl⟩ := ab_wi_some hv
      obtain ⟨u, k, rfl, rfl, hu4, hk, ha⟩ := ab_wd_some hwd
      obtain ⟨a40, at'⟩ := ab_zthw hok hu4 hk
      rw [← ha] at a40 at'
      have hk10 := (hok.2.2.1 u hu4).1
      have xa : (Int8.ofInt 10).toInt32 * Int32.ofNat u + Int32.ofNat k = Int32.ofNat a := by rw [ha]; exact ev_lin (c := 10) (by omega) (by omega) (by omega)
      have e : ab_beside z (Int32.ofNat u) (Int32.ofNat k) (Int32.ofNat v) = (0, ab_oi (ab_nb (zT z) (a / 10) (a % 10) v), z) := by unfold ab_beside; rw [hwd, hv]
      rw [e] at hQ
      have hnb : ab_nb (zT z) (a / 10) (a % 10) v = match ab_plo (zT z) a with | some p => (zT z).2.1 p v | none => none := rfl
      rw [hnb] at hQ
      refine And.intro (fun h => absurd (h : (1 : Int32).toInt = 0) ev_ne10) (fun _ => ?_)
      show ev_J w ev_m172 (ev_nd 172) Q 22 [ev_vr 277, ev_vn u, ev_vn k, ev_vn v, none] [.int (Int32.ofNat 0), .ref 277] m t
      refine ev_gK A hp [34] 10 ?_
      refine And.intro (fun _ => ?_) (fun (h : 0 < (ev_up m 277 0 (Int32.ofNat 0) 277 0).toInt) => by rw [ev_up_same] at h; exact absurd h (by decide))
      have hs0 := ab_RM_th hs (Int32.ofNat 0)
      have g0 : ∀ c i, ¬ (c = 277 ∧ i = 0) → ev_up m 277 0 (Int32.ofNat 0) c i = m c i := fun c i hc => ab_up0 _ _ hc
      have g00 : ev_up m 277 0 (Int32.ofNat 0) 277 0 = Int32.ofNat 0 := ev_up_same _ _ _ _
      show ev_J w ev_m172 (ev_nd 172) Q 34 [ev_vr 277, ev_vn u, ev_vn k, ev_vn v, none] [] (ev_up m 277 0 (Int32.ofNat 0)) t
      generalize ev_up m 277 0 (Int32.ofNat 0) = m0 at *
      have d8 := hs0.2.2.2.2.2.2.2.1
      have n10 : ¬ (10 : Int32) = 0 := by decide
      refine ev_gK A hp [] 6 ?_
      show ev_J w ev_m172 (ev_nd 172) Q 41 [ev_vr 277, ev_vn u, ev_vn k, ev_vn v, none] [.int ((Int8.ofInt 10).toInt32 * Int32.ofNat u + Int32.ofNat k), .ref 277] m0 t
      rw [xa]
      refine ev_gK A hp [46] 10 ?_
      refine ev_S173 A d8 hok a40 ?_
      show ev_J w ev_m172 (ev_nd 172) Q 46 [ev_vr 277, ev_vn u, ev_vn k, ev_vn v, ev_vi (ab_oi (ab_plo (zT z) a))] [] m0 t
      cases hpl : ab_plo (zT z) a with
      | none =>
        rw [hpl] at hQ
        refine ev_gK A hp [] 20 ?_
        refine And.intro (fun _ => ?_) (fun (h4 : 0 ≤ (-1 : Int32).toInt) => absurd h4 (by decide))
        exact hQ m0 _ hs0 (fun c i hc => g0 c i (by omega)) g00 (fun _ => rfl)
      | some p =>
        rw [hpl] at hQ
        have hpT : p < (zT z).1 := List.mem_range.mp (List.mem_of_find?_eq_some hpl)
        have ep := ev_ofNat_i (n := p) (by omega)
        have ei : Int32.ofInt 4 * Int32.ofNat p + Int32.ofNat v = Int32.ofNat (4 * p + v) := ev_lin (c := 4) (by omega) (by omega) (by omega)
        have mw : m0 293 (Int32.ofInt 4 * Int32.ofNat p + Int32.ofNat v).toNatClampNeg = ab_oi (ab_nat (zT z) p v) := by rw [ev_at ei (by omega)]; exact d8.2.1 p hpT v hv4
        refine ev_gK A hp [65, 69] 20 ?_
        refine And.intro (fun (h4 : (Int32.ofNat p).toInt < 0) => by omega) (fun _ => ?_)
        refine And.intro (ev_iin ei (by omega) (by decide)) ?_
        rw [show m0 293 (Int32.ofInt 4 * ab_oi (some p) + Int32.ofNat v).toNatClampNeg = ab_oi (ab_nat (zT z) p v) from mw]
        cases hc : (zT z).2.1 p v with
        | none =>
          have hn : ab_nat (zT z) p v = none := by unfold ab_nat; rw [hc]; rfl
          rw [hn]
          refine And.intro (fun (h4 : 0 ≤ (-1 : Int32).toInt) => absurd h4 (by decide)) (fun _ => ?_)
          refine ev_gK A hp [] 10 ?_
          exact hQ m0 _ hs0 (fun c i hc => g0 c i (by omega)) g00 (fun _ => by show _ = ab_oi ((zT z).2.1 p v); rw [hc]; rfl)
        | some j =>
          have hn : ab_nat (zT z) p v = some (10 * v + j) := by unfold ab_nat; rw [hc]; rfl
          have hj := hok.2.2.2.2.1.1.2.1 p v j hc
          rw [hn]
          have en := ev_ofNat_i (n := 10 * v + j) (by omega)
          refine And.intro (fun _ => ?_) (fun (h4 : (Int32.ofNat (10 * v + j)).toInt < 0) => by omega)
          show ev_J w ev_m172 (ev_nd 172) Q 69 [ev_vr 277, ev_vn u, ev_vn k, ev_vn v, ev_vn p] [] m0 t
          refine ev_gK A hp [] 20 ?_
          refine And.intro (ev_iin ei (by omega) (by decide)) ?_
          refine And.intro n10 ?_
          refine hQ m0 _ hs0 (fun c i hc => g0 c i (by omega)) g00 (fun _ => ?_)
          show m0 293 (Int32.ofInt 4 * Int32.ofNat p + Int32.ofNat v).toNatClampNeg - m0 293 (Int32.ofInt 4 * Int32.ofNat p + Int32.ofNat v).toNatClampNeg / 10 * 10 = ab_oi ((zT z).2.1 p v)
          rw [mw, hn, hc]
          show Int32.ofNat (10 * v + j) - Int32.ofNat (10 * v + j) / 10 * 10 = Int32.ofNat j
          rw [ev_r10 (by omega)]
          congr 1
          omega
/-- base -/
theorem ev_S174 {x : Int32} (A : ev_all w) (hs : ab_RepM m z) (hok : ab_ok z) (hQ : ab_PM m t false (ab_base z x) Q) : ev_K w 174 [.ref 277, .int x] m t Q := by
  have hp : ev_prog[174]? = some ev_m174 := rfl
  have em1 := ev_im1
  obtain ⟨t1, t2, t3, ⟨t4, t5⟩, t6⟩ := id hs.2.2.2.2.2.2.2.1
  have kk1 := hok.2.2.2.2.1.1.1
  have thr : ∀ k : Nat, 0 < k → k < 10 → ab_base z x = (k, 0, z) → ev_J w ev_m174 (ev_nd 174) Q 35 [ev_vr 277, ev_vi x, none] [.int (Int32.ofNat k), .ref 277] m t := by
    intro k hk hk2 e
    rw [e] at hQ
    have ek := ev_ofNat_i (n := k) (by omega)
    refine ev_gK A hp [46] 10 ?_
    refine And.intro (fun (h : (ev_up m 277 0 (Int32.ofNat k) 277 0).toInt ≤ 0) => by rw [ev_up_same] at h; omega) (fun _ => ?_)
    exact hQ _ 0 (ab_RM_th hs _) (fun c i hc => ab_up0 _ _ (by omega)) (ev_up_same _ _ _ _) (fun q => absurd q (by show ¬ k = 0; omega))
  have good : ∀ b : Option Nat, x = ab_oi b → ab_base z x = (0, 0, ab_setT z (ab_reb (zT z) b)) → ev_J w ev_m174 (ev_nd 174) Q 35 [ev_vr 277, ev_vi x, none] [.int (Int32.ofNat 0), .ref 277] m t := by
    intro b hx e
    rw [e] at hQ
    refine ev_gK A hp [46] 10 ?_
    refine And.intro (fun _ => ?_) (fun (h : 0 < (ev_up m 277 0 (Int32.ofNat 0) 277 0).toInt) => by rw [ev_up_same] at h; exact absurd h (by decide))
    refine ev_gK A hp [53] 10 ?_
    show ev_J w ev_m174 (ev_nd 174) Q 53 [ev_vr 277, ev_vi x, ev_vn 0] [] (ev_up (ev_up m 277 0 (Int32.ofNat 0)) 277 21 x) t
    have q1 : ∀ c i, ¬ (c = 277 ∧ (i = 0 ∨ i = 21)) → ev_up (ev_up m 277 0 (Int32.ofNat 0)) 277 21 x c i = m c i := fun c i hc => by
      unfold ev_up
      rw [if_neg (by omega), if_neg (by omega)]
    have q0 : ev_up (ev_up m 277 0 (Int32.ofNat 0)) 277 21 x 277 0 = Int32.ofNat 0 := by rw [ev_up_idx _ _ (by decide), ev_up_same]
    have q21 : ev_up (ev_up m 277 0 (Int32.ofNat 0)) 277 21 x 277 21 = x := ev_up_same _ _ _ _
    generalize ev_up (ev_up m 277 0 (Int32.ofNat 0)) 277 21 x = m1 at *
    have loop := ev_lup (P := fun k => ∀ (kk : Int32) (mk : ev_Mem), kk = Int32.ofNat k → (∀ c i, c ≠ 294 → mk c i = m1 c i) → (∀ p, p < k → mk 294 p = -1) → ev_J w ev_m174 (ev_nd 174) Q 53 [ev_vr 277, ev_vi x, ev_vi kk] [] mk t) (zT z).1 (by
      intro k hk ih kk mk ekk fk hch
      subst ekk
      have ek := ev_ofNat_i (n := k) (by omega)
      have m22 : (mk 277 22).toInt = ((zT z).1 : Int) := by rw [fk _ _ (by decide), q1 _ _ (by omega)]; exact ev_toI t1 (by omega)
      refine ev_gK A hp [53] 20 ?_
      refine And.intro (fun (h : (mk 277 22).toInt ≤ (Int32.ofNat k).toInt) => ?_) (fun (h : (Int32.ofNat k).toInt < (mk 277 22).toInt) => ?_)
      · have hk' : k = (zT z).1 := by omega
        subst hk'
        refine hQ mk 0 (ab_RM_T hs (fun c i z1 z2 => ?_) ⟨?_, fun p hp u hu => ?_, fun p hp => ?_, ⟨?_, fun j hj => ?_⟩, ?_⟩) (fun c i hc => ?_) ?_ (fun _ => rfl)
        · rw [fk c i (fun q => z2 (by unfold ab_gT; omega)), q1 c i (fun q => by rcases q.2 with r | r; exact z1 (by unfold ab_sM; omega); exact z2 (by unfold ab_gT; omega))]
        · rw [fk _ _ (by decide), q1 _ _ (by omega)]; exact t1
        · rw [fk _ _ (by decide), q1 _ _ (by omega)]; exact t2 p hp u hu
        · exact hch p hp
        · rw [fk _ _ (by decide), q1 _ _ (by omega)]; exact t4
        · rw [fk _ _ (by decide), q1 _ _ (by omega)]; exact t5 j hj
        · rw [fk _ _ (by decide), q21]; exact hx
        · rw [fk c i (by omega), q1 c i (by omega)]
        · rw [fk _ _ (by decide)]; exact q0
      · refine And.intro (ev_oin (by omega) (by decide)) ?_
        refine ih (by omega) _ _ (ev_succ (by omega)) (fun c i z1 => by rw [ev_up_cell _ z1]; exact fk c i z1) (fun p hp => ?_)
        rw [ev_on (by omega)]
        by_cases hpk : p = k
        · rw [hpk, ev_up_same]; rfl
        · rw [ev_up_idx _ _ hpk]; exact hch p (by omega))
    exact loop 0 (by omega) _ m1 rfl (fun _ _ _ => rfl) (fun p hp => by omega)
  refine ⟨Or.inr ⟨277, _, rfl, rfl⟩, ev_m174, rfl, ev_gK A hp [17, 35] 20 ?_⟩
  refine And.intro (fun (h : x.toInt = (Int32.ofInt (-1)).toInt) => ?_) (fun (h : ¬ x.toInt = (Int32.ofInt (-1)).toInt) => ?_)
  · refine ev_gK A hp [35] 10 ?_
    refine And.intro (fun _ => good none (ev_eq_of h) (if_pos (by omega))) (fun (h2 : ¬ x.toInt = (Int32.ofInt (-1)).toInt) => absurd h h2)
  · have hne : ¬ x.toInt = -1 := by omega
    refine ev_S140 A ?_
    cases hv : ab_wi x with
    | none =>
      refine And.intro (fun h => absurd ev_eq00 h) (fun _ => ?_)
      exact thr 1 (by omega) (by omega) (by unfold ab_base; rw [if_neg hne, hv])
    | some v =>
      obtain ⟨hv4, rfl⟩ := ab_wi_some hv
      refine And.intro (fun _ => ?_) (fun h => absurd (h : (1 : Int32).toInt = 0) ev_ne10)
      show ev_J w ev_m174 (ev_nd 174) Q 17 [ev_vr 277, ev_vn v, none] [.ref 277] m t
      refine ev_gK A hp [35] 20 ?_
      refine And.intro (fun (h2 : (Int32.ofNat v).toInt = (Int32.ofInt (-1)).toInt) => absurd h2 h) (fun _ => ?_)
      refine ev_S141 A ⟨t4, t5⟩ hok.2.2.2.2.1.1.2.2.2.1 ?_
      refine And.intro (fun h3 => ?_) (fun h3 => ?_)
      · have hj : zj z v = true := ab_bi_ne h3
        exact good (some v) rfl (by unfold ab_base; rw [if_neg hne, hv]; simp only [hj, if_true])
      · have hj : zj z v = false := ab_bi_nne h3
        exact thr 2 (by omega) (by omega) (by unfold ab_base; rw [if_neg hne, hv]; simp only [hj, Bool.false_eq_true, if_false])
/-- choose -/
theorem ev_S175 {p x : Int32} (A : ev_all w) (hs : ab_RepM m z) (hok : ab_ok z) (hQ : ab_PM m t false (ab_choose z p x) Q) : ev_K w 175 [.ref 277, .int p, .int x] m t Q := by
  have hp : ev_prog[175]? = some ev_m175 := rfl
  have em1 := ev_im1
  obtain ⟨t1, t2, t3, ⟨t4, t5⟩, t6⟩ := id hs.2.2.2.2.2.2.2.1
  have kk1 := hok.2.2.2.2.1.1.1
  have thr : ∀ k : Nat, 0 < k → k < 10 → ab_choose z p x = (k, 0, z) → ev_J w ev_m175 (ev_nd 175) Q 43 [ev_vr 277, ev_vi p, ev_vi x] [.int (Int32.ofNat k), .ref 277] m t := by
    intro k hk hk2 e
    rw [e] at hQ
    have ek := ev_ofNat_i (n := k) (by omega)
    refine ev_gK A hp [] 10 ?_
    refine And.intro (fun _ => ?_) (fun (h : (ev_up m 277 0 (Int32.ofNat k) 277 0).toInt = 0) => by rw [ev_up_same] at h; omega)
    exact hQ _ 0 (ab_RM_th hs _) (fun c i hc => ab_up0 _ _ (by omega)) (ev_up_same _ _ _ _) (fun q => absurd q (by show ¬ k = 0; omega))
  refine ⟨Or.inr ⟨277, _, rfl, rfl⟩, ev_m175, rfl, ev_gK A hp [25, 43] 20 ?_⟩
  refine ev_S171 (z := z) A hs.2.2.2.2.2.2.2.1 hok.2.2.2.2.1.1 ?_
  cases hpi : ab_pi z p with
  | none =>
    refine And.intro (fun _ => thr 1 (by omega) (by omega) (by unfold ab_choose; rw [hpi])) (fun h => absurd ev_eq00 h)
  | some q =>
    obtain ⟨rfl, hq⟩ := ab_pi_some hpi
    have good : ∀ b : Option Nat, x = ab_oi b → ab_choose z (Int32.ofNat q) x = (0, 0, ab_setT z (ab_cho (zT z) q b)) → ev_J w ev_m175 (ev_nd 175) Q 43 [ev_vr 277, ev_vn q, ev_vi x] [.int (Int32.ofNat 0), .ref 277] m t := by
      intro b hx e
      rw [e] at hQ
      refine ev_gK A hp [] 20 ?_
      refine And.intro (fun (h : ¬ (ev_up m 277 0 (Int32.ofNat 0) 277 0).toInt = 0) => by rw [ev_up_same] at h; exact absurd ev_eq00 h) (fun _ => ?_)
      refine And.intro (ev_oin (by omega) (by decide)) ?_
      show Q (.inl none) (ev_up (ev_up m 277 0 (Int32.ofNat 0)) 294 (Int32.ofNat q).toNatClampNeg x) t
      rw [ev_on (by omega)]
      refine hQ _ 0 (ab_RM_T hs (fun c i z1 z2 => ?_) ⟨?_, fun p hp u hu => ?_, fun p hp => ?_, ⟨?_, fun j hj => ?_⟩, ?_⟩) (fun c i hc => ?_) ?_ (fun _ => rfl)
      · rw [ev_up_cell _ (fun q => z2 (by unfold ab_gT; omega))]
        exact ab_up0 _ _ (fun q => z1 (by unfold ab_sM; omega))
      · rw [ev_up_cell _ (by decide), ab_up0 _ _ (by omega)]; exact t1
      · rw [ev_up_cell _ (by decide), ab_up0 _ _ (by omega)]; exact t2 p hp u hu
      · show _ = ab_oi (if p = q then b else (zT z).2.2.1 p)
        by_cases hpq : p = q
        · rw [hpq, ev_up_same, if_pos rfl]; exact hx
        · rw [ev_up_idx _ _ hpq, ab_up0 _ _ (by omega), if_neg hpq]; exact t3 p hp
      · rw [ev_up_cell _ (by decide), ab_up0 _ _ (by omega)]; exact t4
      · rw [ev_up_cell _ (by decide), ab_up0 _ _ (by omega)]; exact t5 j hj
      · rw [ev_up_cell _ (by decide), ab_up0 _ _ (by omega)]; exact t6
      · rw [ev_up_cell _ (by omega)]; exact ab_up0 _ _ (by omega)
      · rw [ev_up_cell _ (by decide), ev_up_same]
    refine And.intro (fun h => absurd (h : (1 : Int32).toInt = 0) ev_ne10) (fun _ => ?_)
    refine And.intro (fun (h : x.toInt = (Int32.ofInt (-1)).toInt) => ?_) (fun (h : ¬ x.toInt = (Int32.ofInt (-1)).toInt) => ?_)
    · refine ev_gK A hp [43] 10 ?_
      refine And.intro (fun _ => good none (ev_eq_of h) (by unfold ab_choose; simp only [hpi]; rw [if_pos (by omega)])) (fun (h2 : ¬ x.toInt = (Int32.ofInt (-1)).toInt) => absurd h h2)
    · have hne : ¬ x.toInt = -1 := by omega
      refine ev_S140 A ?_
      cases hv : ab_wi x with
      | none =>
        refine And.intro (fun h => absurd ev_eq00 h) (fun _ => ?_)
        exact thr 1 (by omega) (by omega) (by unfold ab_choose; simp only [hpi]; rw [if_neg hne, hv])
      | some v =>
        obtain ⟨hv4, rfl⟩ := ab_wi_some hv
        refine And.intro (fun _ => ?_) (fun h => absurd (h : (1 : Int32).toInt = 0) ev_ne10)
        show ev_J w ev_m175 (ev_nd 175) Q 25 [ev_vr 277, ev_vn q, ev_vn v] [.ref 277] m t
        refine ev_gK A hp [43] 20 ?_
        refine And.intro (fun (h2 : (Int32.ofNat v).toInt = (Int32.ofInt (-1)).toInt) => absurd h2 h) (fun _ => ?_)
        refine ev_S141 A ⟨t4, t5⟩ hok.2.2.2.2.1.1.2.2.2.1 ?_
        refine And.intro (fun h3 => ?_) (fun h3 => ?_)
        · have hj : zj z v = true := ab_bi_ne h3
          exact good (some v) rfl (by unfold ab_choose; simp only [hpi]; rw [if_neg hne, hv]; simp only [hj, if_true])
        · have hj : zj z v = false := ab_bi_nne h3
          exact thr 2 (by omega) (by omega) (by unfold ab_choose; simp only [hpi]; rw [if_neg hne, hv]; simp only [hj, Bool.false_eq_true, if_false])
/-- out -/
theorem ev_S184 {k : Int32} (A : ev_all w) (hs : ab_RepM m z) (hok : ab_ok z) (hQ : ab_PM m t true (ab_outc z k) Q) : ev_K w 184 [.ref 277, .int k] m t Q := by
  have hp : ev_prog[184]? = some ev_m184 := rfl
  have hO := hs.2.2.2.2.2.2.2.2.1
  have ho := hok.2.2.2.2.2.1.1
  have e28 := ev_toI hO.1 (by omega)
  have no : ¬ (0 ≤ k.toInt ∧ k.toInt < ((zO z).length : Int)) → ev_J w ev_m184 (ev_nd 184) Q 18 [ev_vr 277, ev_vi k] [.int (Int32.ofNat 1), .ref 277] m t := by
    intro h
    have e : ab_outc z k = (1, 0, z) := if_neg h
    rw [e] at hQ
    refine ev_gK A hp [32] 10 ?_
    refine And.intro (fun (h : (ev_up m 277 0 (Int32.ofNat 1) 277 0).toInt ≤ 0) => by rw [ev_up_same] at h; exact absurd h (by decide)) (fun _ => ?_)
    exact hQ _ 0 (ab_RM_th hs _) (fun c i hc => ab_up0 _ _ (by omega)) (ev_up_same _ _ _ _) (fun q => absurd q (Nat.succ_ne_zero _))
  refine ⟨Or.inr ⟨277, _, rfl, rfl⟩, ev_m184, rfl, ev_gK A hp [18] 20 ?_⟩
  refine And.intro (fun (h : k.toInt < 0) => no (by omega)) (fun (h : 0 ≤ k.toInt) => ?_)
  refine And.intro (fun (h2 : k.toInt < (m 277 28).toInt) => ?_) (fun (h2 : (m 277 28).toInt ≤ k.toInt) => no (by omega))
  have e : ab_outc z k = (0, (zO z).getD k.toInt.toNat 0, z) := if_pos (by omega)
  rw [e] at hQ
  show ev_J w ev_m184 (ev_nd 184) Q 18 [ev_vr 277, ev_vi k] [.int (Int32.ofNat 0), .ref 277] m t
  refine ev_gK A hp [] 20 ?_
  refine And.intro (fun _ => ?_) (fun (h : 0 < (ev_up m 277 0 (Int32.ofNat 0) 277 0).toInt) => by rw [ev_up_same] at h; exact absurd h (by decide))
  refine And.intro ⟨h, by omega⟩ ?_
  refine hQ _ _ (ab_RM_th hs _) (fun c i hc => ab_up0 _ _ (by omega)) (ev_up_same _ _ _ _) (fun _ => ?_)
  show ev_up m 277 0 (Int32.ofNat 0) 298 k.toInt.toNat = _
  rw [ab_up0 _ _ (by omega)]
  exact hO.2 _ (by omega)
/-- amend -/
theorem ev_S185 {k c : Int32} (A : ev_all w) (hs : ab_RepM m z) (hok : ab_ok z) (hQ : ab_PM m t false (ab_amend z k c) Q) : ev_K w 185 [.ref 277, .int k, .int c] m t Q := by
  have hp : ev_prog[185]? = some ev_m185 := rfl
  have hO := hs.2.2.2.2.2.2.2.2.1
  have ho := hok.2.2.2.2.2.1.1
  have e28 := ev_toI hO.1 (by omega)
  have no : ¬ (0 ≤ k.toInt ∧ k.toInt < ((zO z).length : Int)) → ev_J w ev_m185 (ev_nd 185) Q 18 [ev_vr 277, ev_vi k, ev_vi c] [.int (Int32.ofNat 1), .ref 277] m t := by
    intro h
    have e : ab_amend z k c = (1, 0, z) := if_neg h
    rw [e] at hQ
    refine ev_gK A hp [] 10 ?_
    refine And.intro (fun _ => ?_) (fun (h : (ev_up m 277 0 (Int32.ofNat 1) 277 0).toInt = 0) => by rw [ev_up_same] at h; exact absurd h (by decide))
    exact hQ _ 0 (ab_RM_th hs _) (fun c i hc => ab_up0 _ _ (by omega)) (ev_up_same _ _ _ _) (fun q => absurd q (Nat.succ_ne_zero _))
  refine ⟨Or.inr ⟨277, _, rfl, rfl⟩, ev_m185, rfl, ev_gK A hp [18] 20 ?_⟩
  refine And.intro (fun (h : k.toInt < 0) => no (by omega)) (fun (h : 0 ≤ k.toInt) => ?_)
  refine And.intro (fun (h2 : k.toInt < (m 277 28).toInt) => ?_) (fun (h2 : (m 277 28).toInt ≤ k.toInt) => no (by omega))
  have e : ab_amend z k c = (0, 0, ab_setO z ((zO z).set k.toInt.toNat c)) := if_pos (by omega)
  rw [e] at hQ
  show ev_J w ev_m185 (ev_nd 185) Q 18 [ev_vr 277, ev_vi k, ev_vi c] [.int (Int32.ofNat 0), .ref 277] m t
  refine ev_gK A hp [] 20 ?_
  refine And.intro (fun (h : ¬ (ev_up m 277 0 (Int32.ofNat 0) 277 0).toInt = 0) => by rw [ev_up_same] at h; exact absurd ev_eq00 h) (fun _ => ?_)
  refine And.intro ⟨h, by omega⟩ ?_
  show Q (.inl none) (ev_up (ev_up m 277 0 (Int32.ofNat 0)) 298 k.toInt.toNat c) t
  refine hQ _ 0 (ab_RM_O hs (fun a i z1 z2 => ?_) ⟨?_, fun j hj => ?_⟩) (fun a i ha => ?_) ?_ (fun _ => rfl)
  · rw [ev_up_cell _ (fun q => z2 (Or.inr q))]
    exact ab_up0 _ _ (fun q => z1 (by unfold ab_sM; omega))
  · rw [ev_up_cell _ (by decide), ab_up0 _ _ (by omega), List.length_set]; exact hO.1
  · rw [List.length_set] at hj
    rw [List.getD_eq_getElem?_getD, List.getElem?_set]
    by_cases hjk : k.toInt.toNat = j
    · subst hjk
      rw [ev_up_same, if_pos rfl, if_pos hj]; rfl
    · rw [ev_up_idx _ _ (fun q => hjk q.symm), if_neg hjk, ab_up0 _ _ (by omega), ← List.getD_eq_getElem?_getD]; exact hO.2 j hj
  · rw [ev_up_cell _ (by omega)]; exact ab_up0 _ _ (by omega)
  · rw [ev_up_cell _ (by decide), ev_up_same]
/-- found -/
theorem ev_S201 {i : Int32} (A : ev_all w) (hs : ab_RepM m z) (hok : ab_ok z) (hQ : ab_PM m t true (ab_found z i) Q) : ev_K w 201 [.ref 277, .int i] m t Q := by
  have hp : ev_prog[201]? = some ev_m201 := rfl
  have hN := hs.2.2.2.2.2.2.2.2.2.2.1
  have hl := hok.2.2.2.2.2.2.2.1
  have e40 := ev_toI hN.1 (by omega)
  have no : ¬ (0 ≤ i.toInt ∧ i.toInt < ((zF z).length : Int)) → ev_J w ev_m201 (ev_nd 201) Q 18 [ev_vr 277, ev_vi i] [.int (Int32.ofNat 1), .ref 277] m t := by
    intro h
    have e : ab_found z i = (1, 0, z) := if_neg h
    rw [e] at hQ
    refine ev_gK A hp [32] 10 ?_
    refine And.intro (fun (h : (ev_up m 277 0 (Int32.ofNat 1) 277 0).toInt ≤ 0) => by rw [ev_up_same] at h; exact absurd h (by decide)) (fun _ => ?_)
    exact hQ _ 0 (ab_RM_th hs _) (fun c i hc => ab_up0 _ _ (by omega)) (ev_up_same _ _ _ _) (fun q => absurd q (Nat.succ_ne_zero _))
  refine ⟨Or.inr ⟨277, _, rfl, rfl⟩, ev_m201, rfl, ev_gK A hp [18] 20 ?_⟩
  refine And.intro (fun (h : i.toInt < 0) => no (by omega)) (fun (h : 0 ≤ i.toInt) => ?_)
  refine And.intro (fun (h2 : i.toInt < (m 277 40).toInt) => ?_) (fun (h2 : (m 277 40).toInt ≤ i.toInt) => no (by omega))
  have e : ab_found z i = (0, Int32.ofNat ((zF z).getD i.toInt.toNat 0), z) := if_pos (by omega)
  rw [e] at hQ
  show ev_J w ev_m201 (ev_nd 201) Q 18 [ev_vr 277, ev_vi i] [.int (Int32.ofNat 0), .ref 277] m t
  refine ev_gK A hp [] 20 ?_
  refine And.intro (fun _ => ?_) (fun (h : 0 < (ev_up m 277 0 (Int32.ofNat 0) 277 0).toInt) => by rw [ev_up_same] at h; exact absurd h (by decide))
  refine And.intro ⟨h, by omega⟩ ?_
  refine hQ _ _ (ab_RM_th hs _) (fun c i hc => ab_up0 _ _ (by omega)) (ev_up_same _ _ _ _) (fun _ => ?_)
  show ev_up m 277 0 (Int32.ofNat 0) 303 i.toInt.toNat = _
  rw [ab_up0 _ _ (by omega)]
  exact hN.2 _ (by omega)
/-- block -/
theorem ev_S204 {k c : Int32} (A : ev_all w) (hs : ab_RepM m z) (hok : ab_ok z) (hQ : ab_PM m t true (ab_block z k c) Q) : ev_K w 204 [.ref 277, .int k, .int c] m t Q := by
  have hp : ev_prog[204]? = some ev_m204 := rfl
  have hK := hs.2.2.2.2.2.2.2.2.2.2.2.1
  have hl := hok.2.2.2.2.2.2.2.2.1
  have e42 := ev_toI hK.1 (by omega)
  have i2 : (Int32.ofInt 2).toInt = 2 := by decide
  have no : ¬ ((0 ≤ k.toInt ∧ k.toInt < ((zK z).length : Int)) ∧ 0 ≤ c.toInt ∧ c.toInt < 3) → ev_J w ev_m204 (ev_nd 204) Q 27 [ev_vr 277, ev_vi k, ev_vi c] [.int (Int32.ofNat 1), .ref 277] m t := by
    intro h
    have e : ab_block z k c = (1, 0, z) := if_neg h
    rw [e] at hQ
    refine ev_gK A hp [41] 10 ?_
    refine And.intro (fun (h : (ev_up m 277 0 (Int32.ofNat 1) 277 0).toInt ≤ 0) => by rw [ev_up_same] at h; exact absurd h (by decide)) (fun _ => ?_)
    exact hQ _ 0 (ab_RM_th hs _) (fun c i hc => ab_up0 _ _ (by omega)) (ev_up_same _ _ _ _) (fun q => absurd q (Nat.succ_ne_zero _))
  refine ⟨Or.inr ⟨277, _, rfl, rfl⟩, ev_m204, rfl, ev_gK A hp [27] 20 ?_⟩
  refine And.intro (fun (h : k.toInt < 0) => no (by omega)) (fun (h : 0 ≤ k.toInt) => ?_)
  refine And.intro (fun (h2 : (m 277 42).toInt ≤ k.toInt) => no (by omega)) (fun (h2 : k.toInt < (m 277 42).toInt) => ?_)
  refine And.intro (fun (h3 : c.toInt < 0) => no (by omega)) (fun (h3 : 0 ≤ c.toInt) => ?_)
  refine And.intro (fun (h4 : c.toInt ≤ (Int32.ofInt 2).toInt) => ?_) (fun (h4 : (Int32.ofInt 2).toInt < c.toInt) => no (by omega))
  have e : ab_block z k c = (0, Int32.ofNat (ab_bf ((zK z).getD k.toInt.toNat (0, 0, 0)) c.toInt.toNat), z) := if_pos (by omega)
  rw [e] at hQ
  have ek : k = Int32.ofNat k.toInt.toNat := (ev_ofNat_toNat h).symm
  have ec : c = Int32.ofNat c.toInt.toNat := (ev_ofNat_toNat h3).symm
  obtain ⟨K, hKk⟩ : ∃ K, k.toInt.toNat = K := ⟨_, rfl⟩
  obtain ⟨C, hC⟩ : ∃ C, c.toInt.toNat = C := ⟨_, rfl⟩
  rw [hKk] at ek hQ
  rw [hC] at ec hQ
  have hKl : K < (zK z).length := by omega
  have hC3 : C < 3 := by omega
  subst ek ec
  show ev_J w ev_m204 (ev_nd 204) Q 27 [ev_vr 277, ev_vn K, ev_vn C] [.int (Int32.ofNat 0), .ref 277] m t
  have ei : Int32.ofInt 3 * Int32.ofNat K + Int32.ofNat C = Int32.ofNat (3 * K + C) := ev_lin (c := 3) (by omega) (by omega) (by omega)
  refine ev_gK A hp [] 20 ?_
  refine And.intro (fun _ => ?_) (fun (h : 0 < (ev_up m 277 0 (Int32.ofNat 0) 277 0).toInt) => by rw [ev_up_same] at h; exact absurd h (by decide))
  refine And.intro (ev_iin ei (by omega) (by decide)) ?_
  refine hQ _ _ (ab_RM_th hs _) (fun c i hc => ab_up0 _ _ (by omega)) (ev_up_same _ _ _ _) (fun _ => ?_)
  obtain ⟨a1, a2, a3⟩ := hK.2 K hKl
  rw [ev_at ei (by omega), ab_up0 _ _ (by omega)]
  match C, hC3 with
  | 0, _ => exact a1
  | 1, _ => exact a2
  | 2, _ => exact a3
/-- built -/
theorem ev_S198 {i k : Int32} (A : ev_all w) (hs : ab_RepM m z) (hok : ab_ok z) (hQ : ab_PM m t true (ab_built z i k) Q) : ev_K w 198 [.ref 277, .int i, .int k] m t Q := by
  have hp : ev_prog[198]? = some ev_m198 := rfl
  have hB := hs.2.2.2.2.2.2.2.2.2.1
  have hBo := hok.2.2.2.2.2.2.1
  have hl24 := hBo.1
  have e34 := ev_toI hB.1 (by omega)
  have g0 : ∀ c i, ¬ (c = 277 ∧ i = 0) → ev_up m 277 0 (Int32.ofInt 0) c i = m c i := fun c i hc => ab_up0 _ _ hc
  have fin : ∀ x : Int32, x = ab_blt (zB z) i k → Q (.inl (some (.int x))) (ev_up m 277 0 (Int32.ofInt 0)) t := fun x hx => hQ _ _ (ab_RM_th hs _) (fun c i hc => ab_up0 _ _ (by omega)) (ev_up_same _ _ _ _) (fun _ => hx)
  have no : ¬ (0 ≤ i.toInt ∧ i.toInt < ((zB z).length : Int)) → Q (.inl (some (.int (-1)))) (ev_up m 277 0 (Int32.ofInt 0)) t := fun h => fin _ (by unfold ab_blt; rw [if_neg h])
  refine ⟨Or.inr ⟨277, _, rfl, rfl⟩, ev_m198, rfl, ev_gK A hp [23] 20 ?_⟩
  refine And.intro (fun (h : i.toInt < 0) => no (by omega)) (fun (h : 0 ≤ i.toInt) => ?_)
  have e34' : (ev_up m 277 0 (Int32.ofInt 0) 277 34).toInt = ((zB z).length : Int) := by rw [g0 _ _ (by omega)]; exact e34
  refine And.intro (fun (h2 : (ev_up m 277 0 (Int32.ofInt 0) 277 34).toInt ≤ i.toInt) => no (by omega)) (fun (h2 : i.toInt < (ev_up m 277 0 (Int32.ofInt 0) 277 34).toInt) => ?_)
  have ei : i = Int32.ofNat i.toInt.toNat := (ev_ofNat_toNat h).symm
  obtain ⟨n, hn⟩ : ∃ n, i.toInt.toNat = n := ⟨_, rfl⟩
  have hnl : n < (zB z).length := by omega
  obtain ⟨b1, b2⟩ := hB.2 n hnl
  have hblt : ab_blt (zB z) i k = match (zB z).getD n none with
      | none => if k.toInt = 0 then 63 else -1
      | some l => if 0 ≤ k.toInt ∧ k.toInt < (l.length : Int) then l.getD k.toInt.toNat 0 else -1 := by unfold ab_blt; rw [if_pos (by omega), hn]; cases (zB z).getD n none <;> rfl
  rw [hn] at ei
  have hmem : (zB z).getD n none ∈ zB z := by
    rw [List.getD_eq_getElem?_getD, List.getElem?_eq_getElem hnl]
    exact List.getElem_mem hnl
  refine And.intro (fun (h3 : 0 ≤ k.toInt) => ?_) (fun (h3 : k.toInt < 0) => ?_)
  · have m99 : ev_up m 277 0 (Int32.ofInt 0) 299 i.toNatClampNeg = ab_fl ((zB z).getD n none) := by rw [ev_at ei (by omega), g0 _ _ (by omega)]; exact b1
    show ev_J w ev_m198 (ev_nd 198) Q 23 [ev_vr 277, ev_vi i, ev_vi k] [] (ev_up m 277 0 (Int32.ofInt 0)) t
    cases hb : (zB z).getD n none with
    | none =>
      rw [hb] at hblt m99
      refine ev_gK A hp [43] 20 ?_
      refine And.intro (ev_iin ei (by omega) (by decide)) ?_
      rw [m99]
      refine And.intro (fun (h4 : 0 ≤ (-1 : Int32).toInt) => absurd h4 (by decide)) (fun _ => ?_)
      refine And.intro (fun (h5 : ¬ k.toInt = 0) => ?_) (fun (h5 : k.toInt = 0) => ?_)
      · exact fin _ (by rw [hblt]; simp only [if_neg h5]; rfl)
      · exact fin _ (by rw [hblt]; simp only [if_pos h5]; rfl)
    | some l =>
      rw [hb] at hblt m99 b2 hmem
      have hl12 := (hBo.2 l hmem).1
      have el := ev_ofNat_i (n := l.length) (by omega)
      refine ev_gK A hp [43] 20 ?_
      refine And.intro (ev_iin ei (by omega) (by decide)) ?_
      rw [m99]
      refine And.intro (fun _ => ?_) (fun (h4 : (Int32.ofNat l.length).toInt < 0) => by omega)
      show ev_J w ev_m198 (ev_nd 198) Q 43 [ev_vr 277, ev_vi i, ev_vi k] [] (ev_up m 277 0 (Int32.ofInt 0)) t
      refine ev_gK A hp [] 20 ?_
      refine And.intro (ev_iin ei (by omega) (by decide)) ?_
      rw [m99]
      refine And.intro (fun (h5 : (Int32.ofNat l.length).toInt ≤ k.toInt) => ?_) (fun (h5 : k.toInt < (Int32.ofNat l.length).toInt) => ?_)
      · exact fin _ (by rw [hblt]; simp only [if_neg (show ¬ (0 ≤ k.toInt ∧ k.toInt < (l.length : Int)) by omega)]; rfl)
      · have ek : k = Int32.ofNat k.toInt.toNat := (ev_ofNat_toNat h3).symm
        have ex : (Int8.ofInt 12).toInt32 * i + k = Int32.ofNat (12 * n + k.toInt.toNat) := by
          rw [ei]
          conv => lhs; rw [ek]
          exact ev_lin (c := 12) (by omega) (by omega) (by omega)
        refine And.intro (ev_iin ex (by omega) (by decide)) ?_
        refine fin _ ?_
        rw [hblt]
        simp only [if_pos (show (0 ≤ k.toInt ∧ k.toInt < (l.length : Int)) by omega)]
        rw [ev_at ex (by omega), g0 _ _ (by omega)]
        exact b2 k.toInt.toNat (by show _ < l.length; omega)
  · refine fin _ ?_
    rw [hblt]
    cases (zB z).getD n none with
    | none => simp only [if_neg (show ¬ k.toInt = 0 by omega)]; rfl
    | some l => simp only [if_neg (show ¬ (0 ≤ k.toInt ∧ k.toInt < (l.length : Int)) by omega)]; rfl
/-- parent -/
theorem ev_S205 {x y : Int32} (A : ev_all w) (hs : ab_RepM m z) (hok : ab_ok z) (hQ : ab_PM m t false (ab_parent z x y) Q) : ev_K w 205 [.ref 277, .int x, .int y] m t Q := by
  have hp : ev_prog[205]? = some ev_m205 := rfl
  have em1 := ev_im1
  have hA := hs.2.2.2.2.2.2.2.2.2.2.2.2
  obtain ⟨hPA, hacy⟩ := hok.2.2.2.2.2.2.2.2.2
  have thr1 : ab_parent z x y = (1, 0, z) → ev_J w ev_m205 (ev_nd 205) Q 25 [ev_vr 277, ev_vi x, ev_vi y, none] [.int (Int32.ofNat 1), .ref 277] m t := by
    intro e
    rw [e] at hQ
    refine ev_gK A hp [41] 10 ?_
    refine And.intro (fun (h : (ev_up m 277 0 (Int32.ofNat 1) 277 0).toInt ≤ 0) => by rw [ev_up_same] at h; exact absurd h (by decide)) (fun _ => ?_)
    refine ev_gK A hp [76] 10 ?_
    refine And.intro (fun _ => ?_) (fun (h : 0 ≤ (-1 : Int32).toInt) => absurd h (by decide))
    refine ev_gK A hp [] 10 ?_
    refine And.intro (fun _ => ?_) (fun (h : (ev_up m 277 0 (Int32.ofNat 1) 277 0).toInt = 0) => by rw [ev_up_same] at h; exact absurd h (by decide))
    exact hQ _ 0 (ab_RM_th hs _) (fun c i hc => ab_up0 _ _ (by omega)) (ev_up_same _ _ _ _) (fun q => absurd q (Nat.succ_ne_zero _))
  refine ⟨Or.inr ⟨277, _, rfl, rfl⟩, ev_m205, rfl, ev_gK A hp [25] 20 ?_⟩
  refine ev_S140 A ?_
  cases hu : ab_wi x with
  | none =>
    refine And.intro (fun _ => thr1 (by unfold ab_parent; rw [hu])) (fun h => absurd ev_eq00 h)
  | some u =>
    obtain ⟨hu4, rfl⟩ := ab_wi_some hu
    have eu := ev_ofNat_i (n := u) (by omega)
    have good : ∀ b : Option Nat, (∀ v, b = some v → v < 4) → y = ab_oi b → ab_parent z (Int32.ofNat u) y = (match b with | none => (0, 0, ab_setA z u none) | some v => if ab_ab (zA z) 4 (some v) u = true then (2, 0, z) else (0, 0, ab_setA z u (some v))) → ev_J w ev_m205 (ev_nd 205) Q 25 [ev_vr 277, ev_vn u, ev_vi y, none] [.int (Int32.ofNat 0), .ref 277] m t := by
      intro b hb hy e
      have fin0 : (b = none ∨ ∃ v, b = some v ∧ ab_ab (zA z) 4 (some v) u = false) → ∀ x3 : Int32, ev_J w ev_m205 (ev_nd 205) Q 76 [ev_vr 277, ev_vn u, ev_vi y, ev_vi x3] [] (ev_up m 277 0 (Int32.ofNat 0)) t := by
        intro hbb x3
        have e2 : ab_parent z (Int32.ofNat u) y = (0, 0, ab_setA z u b) := by
          rw [e]
          rcases hbb with rfl | ⟨v, rfl, hv⟩
          · rfl
          · simp only [hv, Bool.false_eq_true, if_false]
        rw [e2] at hQ
        refine ev_gK A hp [] 20 ?_
        refine And.intro (fun (h : ¬ (ev_up m 277 0 (Int32.ofNat 0) 277 0).toInt = 0) => by rw [ev_up_same] at h; exact absurd ev_eq00 h) (fun _ => ?_)
        refine And.intro (ev_oin hu4 (by decide)) ?_
        show Q (.inl none) (ev_up (ev_up m 277 0 (Int32.ofNat 0)) 295 (Int32.ofNat u).toNatClampNeg y) t
        rw [ev_on (by omega)]
        refine hQ _ 0 (ab_RM_A hs (fun c i z1 z2 => ?_) (fun a ha => ?_)) (fun c i hc => ?_) ?_ (fun _ => rfl)
        · rw [ev_up_cell _ z2]; exact ab_up0 _ _ (fun q => z1 (by unfold ab_sM; omega))
        · show _ = ab_oi (if a = u then b else zA z a)
          by_cases hau : a = u
          · rw [hau, ev_up_same, if_pos rfl]; exact hy
          · rw [ev_up_idx _ _ hau, if_neg hau, ab_up0 _ _ (by omega)]; exact hA a ha
        · rw [ev_up_cell _ (by omega)]; exact ab_up0 _ _ (by omega)
        · rw [ev_up_cell _ (by decide), ev_up_same]
      have loop : ∀ (n : Nat) (o : Option Nat) (x3 : Int32) (mk : ev_Mem), (∀ v, o = some v → v < 4) → x3 = ab_oi o → ab_end (zA z) n o = true → (∃ v, b = some v ∧ ab_ab (zA z) 4 (some v) u = ab_ab (zA z) n o u) → mk = ev_up m 277 0 (Int32.ofNat 0) → ev_J w ev_m205 (ev_nd 205) Q 41 [ev_vr 277, ev_vn u, ev_vi y, ev_vi x3] [] mk t := by
        intro n
        induction n with
        | zero =>
          intro o x3 mk ho ex3 hend hab emk
          subst ex3 emk
          cases o with
          | some v => cases hend
          | none =>
            obtain ⟨v, hv, hab⟩ := hab
            refine ev_gK A hp [76] 10 ?_
            refine And.intro (fun _ => fin0 (Or.inr ⟨v, hv, hab⟩) _) (fun (h : 0 ≤ (-1 : Int32).toInt) => absurd h (by decide))
        | succ n ih =>
          intro o x3 mk ho ex3 hend hab emk
          subst ex3 emk
          obtain ⟨v, hv, hab⟩ := hab
          cases o with
          | none =>
            refine ev_gK A hp [76] 10 ?_
            refine And.intro (fun _ => fin0 (Or.inr ⟨v, hv, hab⟩) _) (fun (h : 0 ≤ (-1 : Int32).toInt) => absurd h (by decide))
          | some a =>
            have ha := ho a rfl
            have ea := ev_ofNat_i (n := a) (by omega)
            have hab2 : ab_ab (zA z) (n + 1) (some a) u = if a = u then true else ab_ab (zA z) n (zA z a) u := rfl
            rw [hab2] at hab
            have hend2 : ab_end (zA z) n (zA z a) = true := hend
            refine ev_gK A hp [52, 76] 10 ?_
            refine And.intro (fun (h : (Int32.ofNat a).toInt < 0) => by omega) (fun _ => ?_)
            refine And.intro (fun (h : ¬ (ev_up m 277 0 (Int32.ofNat 0) 277 0).toInt = 0) => by rw [ev_up_same] at h; exact absurd ev_eq00 h) (fun _ => ?_)
            show ev_J w ev_m205 (ev_nd 205) Q 52 [ev_vr 277, ev_vn u, ev_vi y, ev_vn a] [] (ev_up m 277 0 (Int32.ofNat 0)) t
            have upup : ∀ c : Int32, ev_up (ev_up m 277 0 (Int32.ofNat 0)) 277 0 c = ev_up m 277 0 c := fun c => by
              funext k j
              unfold ev_up
              by_cases hk : k = 277 ∧ j = 0
              · rw [if_pos hk, if_pos hk]
              · rw [if_neg hk, if_neg hk, if_neg hk]
            have m95 : ∀ c : Int32, ev_up (ev_up m 277 0 (Int32.ofNat 0)) 277 0 c 295 (Int32.ofNat a).toNatClampNeg = ab_oi (zA z a) := fun c => by rw [upup, ev_on (by omega), ab_up0 _ _ (by omega)]; exact hA a ha
            refine ev_gK A hp [41] 20 ?_
            refine And.intro (fun (h : ¬ (Int32.ofNat a).toInt = (Int32.ofNat u).toInt) => ?_) (fun (h : (Int32.ofNat a).toInt = (Int32.ofNat u).toInt) => ?_)
            · rw [if_neg (by omega)] at hab
              refine And.intro (ev_oin ha (by decide)) ?_
              exact ih (zA z a) _ _ (fun y hy => hPA a y ha hy) (m95 _) hend2 ⟨v, hv, hab⟩ (upup _)
            · rw [if_pos (by omega)] at hab
              have e2 : ab_parent z (Int32.ofNat u) y = (2, 0, z) := by
                rw [e, hv]
                simp only [hab, if_true]
              rw [e2] at hQ
              refine And.intro (ev_oin ha (by decide)) ?_
              have fin2 : ∀ x3 : Int32, ev_J w ev_m205 (ev_nd 205) Q 41 [ev_vr 277, ev_vn u, ev_vi y, ev_vi x3] [] (ev_up m 277 0 (Int32.ofNat 2)) t := by
                intro x3
                have h76 : ev_J w ev_m205 (ev_nd 205) Q 76 [ev_vr 277, ev_vn u, ev_vi y, ev_vi x3] [] (ev_up m 277 0 (Int32.ofNat 2)) t := by
                  refine ev_gK A hp [] 10 ?_
                  refine And.intro (fun _ => ?_) (fun (h : (ev_up m 277 0 (Int32.ofNat 2) 277 0).toInt = 0) => by rw [ev_up_same] at h; exact absurd h (by decide))
                  exact hQ _ 0 (ab_RM_th hs _) (fun c i hc => ab_up0 _ _ (by omega)) (ev_up_same _ _ _ _) (fun q => absurd q (Nat.succ_ne_zero _))
                refine ev_gK A hp [52, 76] 10 ?_
                refine And.intro (fun _ => h76) (fun _ => ?_)
                refine And.intro (fun _ => h76) (fun (h : (ev_up m 277 0 (Int32.ofNat 2) 277 0).toInt = 0) => by rw [ev_up_same] at h; exact absurd h (by decide))
              have h3 := fin2 (ab_oi (zA z a))
              show ev_J w ev_m205 (ev_nd 205) Q 41 [ev_vr 277, ev_vn u, ev_vi y, ev_vi (ev_up (ev_up m 277 0 (Int32.ofNat 0)) 277 0 (Int32.ofNat 2) 295 (Int32.ofNat a).toNatClampNeg)] [] (ev_up (ev_up m 277 0 (Int32.ofNat 0)) 277 0 (Int32.ofNat 2)) t
              rw [m95, upup]
              exact h3
      refine ev_gK A hp [41] 10 ?_
      refine And.intro (fun _ => ?_) (fun (h : 0 < (ev_up m 277 0 (Int32.ofNat 0) 277 0).toInt) => by rw [ev_up_same] at h; exact absurd h (by decide))
      show ev_J w ev_m205 (ev_nd 205) Q 41 [ev_vr 277, ev_vn u, ev_vi y, ev_vi y] [] (ev_up m 277 0 (Int32.ofNat 0)) t
      cases hb2 : b with
      | none =>
        rw [hb2] at hy
        have hyn : y.toInt < 0 := by rw [hy]; decide
        refine ev_gK A hp [76] 10 ?_
        exact And.intro (fun _ => fin0 (Or.inl hb2) _) (fun (h : 0 ≤ y.toInt) => by omega)
      | some v => exact loop 4 (some v) y _ (fun x hx => hb x (by rw [hb2]; exact hx)) (by rw [hy, hb2]) (hacy v (hb v hb2)) ⟨v, hb2, rfl⟩ rfl
    refine And.intro (fun h => absurd (h : (1 : Int32).toInt = 0) ev_ne10) (fun _ => ?_)
    refine And.intro (fun (h : y.toInt = (Int32.ofInt (-1)).toInt) => ?_) (fun (h : ¬ y.toInt = (Int32.ofInt (-1)).toInt) => ?_)
    · exact good none (fun v hv => by cases hv) (ev_eq_of h) (by unfold ab_parent; rw [hu]; exact if_pos (by omega))
    · have hne : ¬ y.toInt = -1 := by omega
      refine ev_S140 A ?_
      cases hv : ab_wi y with
      | none =>
        refine And.intro (fun h => absurd ev_eq00 h) (fun _ => ?_)
        exact thr1 (by unfold ab_parent; rw [hu]; simp only []; rw [if_neg hne, hv])
      | some v =>
        obtain ⟨hv4, rfl⟩ := ab_wi_some hv
        refine And.intro (fun _ => ?_) (fun h => absurd (h : (1 : Int32).toInt = 0) ev_ne10)
        exact good (some v) (fun x hx => by cases hx; exact hv4) rfl (by unfold ab_parent; rw [hu]; simp only []; rw [if_neg hne, hv])
end EvMcalls4
