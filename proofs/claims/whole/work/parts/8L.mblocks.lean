/-! the model: blocks that were moved -/
section EvMblocks
variable {w : ev_W} {Q : ev_QT} {m m' : ev_Mem} {t : ev_H} {z : ab_Z}
def ab_RB (m : ev_Mem) (z : ab_Z) (g : Nat → Nat) : Prop := ab_MS m (zW z) ∧ ab_ML m (zW z) ∧ ab_MG m (zt z) g ∧ ab_MT m (zT z)
theorem ab_RB_cg {g : Nat → Nat} (h : ∀ c i, ab_gT c i ∨ ab_gW c i → m' c i = m c i) (hB : ab_RB m z g) : ab_RB m' z g := by
  obtain ⟨a, b, c, d⟩ := hB
  exact ⟨fun v hv => by rw [h _ _ (Or.inr (by unfold ab_gW; omega))]; exact a v hv, fun x hx ht => ⟨by rw [h _ _ (Or.inr (by unfold ab_gW; omega))]; exact (b x hx ht).1, fun k hk => by rw [h _ _ (Or.inr (by unfold ab_gW; omega))]; exact (b x hx ht).2 k hk⟩, fun x hx ht => by rw [h _ _ (Or.inr (by unfold ab_gW; omega))]; exact c x hx ht, ab_MT_cg (fun k i hc => h k i (Or.inl hc)) d⟩
theorem ab_isJ_mem {js : List Nat} {u : Nat} (hu : u < 4) (hjs : ∀ v ∈ js, v < 4) : ab_isJ js (Int32.ofNat u) = true ↔ u ∈ js := by
  unfold ab_isJ
  rw [List.any_eq_true]
  constructor
  · rintro ⟨v, hv, h⟩
    have h1 := congrArg Int32.toInt (of_decide_eq_true h)
    have hv4 := hjs v hv
    rw [ev_ofNat_i (by omega), ev_ofNat_i (by omega)] at h1
    have : v = u := by omega
    rw [← this]; exact hv
  · intro h
    exact ⟨u, h, decide_eq_true rfl⟩
theorem ab_plo_some (hok : ab_ok z) {u k : Nat} (hu : u < 4) (hj : zj z u = true) (hk : k < (zW z u).length) : ∃ p, ab_plo (zT z) (10 * u + k) = some p ∧ p < (zT z).1 ∧ (zT z).2.1 p u = some k := by
  have hk10 := (hok.2.2.1 u hu).1
  have e1 : (10 * u + k) / 10 = u := by omega
  have e2 : (10 * u + k) % 10 = k := by omega
  have hm : u ∈ (zT z).2.2.2.1 := (ab_isJ_mem hu hok.2.2.2.2.1.1.2.2.2.2.1).mp hj
  obtain ⟨p, hp, hpk⟩ := hok.2.2.2.2.1.2.2.2.2.1 u hm k hk
  unfold ab_plo
  rw [e1, e2]
  cases hf : (List.range (zT z).1).find? (fun p => decide ((zT z).2.1 p u = some k)) with
  | none =>
    have := List.find?_eq_none.mp hf p (List.mem_range.mpr hp)
    exact absurd (decide_eq_true hpk) this
  | some q => exact ⟨q, rfl, List.mem_range.mp (List.mem_of_find?_eq_some hf), of_decide_eq_true (List.find?_some (p := fun p => decide ((zT z).2.1 p u = some k)) hf)⟩
theorem ab_plo_nb (hok : ab_ok z) {u k v l : Nat} (hu : u < 4) (hv : v < 4) (hj : zj z u = true) (hj2 : zj z v = true) (hk : k < (zW z u).length) (hl : l < (zW z v).length) : (ab_oi (ab_plo (zT z) (10 * u + k))).toInt = (ab_oi (ab_plo (zT z) (10 * v + l))).toInt ↔ ab_nb (zT z) u k v = some l := by
  have kT := hok.2.2.2.2.1.1.1
  have hk10 := (hok.2.2.1 u hu).1
  obtain ⟨p, p1, p2, p3⟩ := ab_plo_some hok hu hj hk
  obtain ⟨q, q1, q2, q3⟩ := ab_plo_some hok hv hj2 hl
  have hnb : ab_nb (zT z) u k v = (zT z).2.1 p v := by
    have p1' := p1
    unfold ab_plo at p1'
    rw [(by omega : (10 * u + k) / 10 = u), (by omega : (10 * u + k) % 10 = k)] at p1'
    unfold ab_nb
    rw [p1']
  rw [p1, q1, hnb]
  have ep : (ab_oi (some p)).toInt = (p : Int) := ev_ofNat_i (by omega)
  have eq : (ab_oi (some q)).toInt = (q : Int) := ev_ofNat_i (by omega)
  constructor
  · intro h
    have : p = q := by omega
    rw [this]; exact q3
  · intro h
    have := hok.2.2.2.2.1.2.2.2.2.2.1 p q v l p2 q2 h q3
    rw [this]
theorem ab_wd_u {u a : Nat} {i : Int32} (hu : u < 4) (h : ab_wd z (Int32.ofNat u) i = some a) : ∃ k, i = Int32.ofNat k ∧ k < (zW z u).length ∧ a = 10 * u + k := by
  obtain ⟨v, k, h1, h2, h3, h4, h5⟩ := ab_wd_some h
  have e : v = u := by
    have := congrArg Int32.toInt h1
    rw [ev_ofNat_i (by omega), ev_ofNat_i (by omega)] at this
    omega
  subst e
  exact ⟨k, h2, h4, h5⟩
def ab_mw (z : ab_Z) (u : Nat) (i : Int32) (v : Nat) (j : Int32) : Bool := match ab_wd z (Int32.ofNat u) i, ab_wd z (Int32.ofNat v) j with
  | some a, some b => ab_mv (zT z) (zt z) (zf z) (zq z) a b
  | _, _ => false
/-- isMoved -/
theorem ev_S203 {u v : Nat} {i j : Int32} {g : Nat → Nat} (A : ev_all w) (hB : ab_RB m z g) (hg : ∀ x, x < 40 → zt z x = true → g x < 40) (hgq : ∀ x y, x < 40 → y < 40 → zt z x = true → zt z y = true → (g x = g y ↔ zq z x y = true)) (hok : ab_ok z) (hu : u < 4) (hv : v < 4) (hj : zj z u = true) (hj2 : zj z v = true) (hQ : Q (.inl (some (.int (ab_bi (ab_mw z u i v j))))) m t) : ev_K w 203 [.ref 277, .int (Int32.ofNat u), .int i, .int (Int32.ofNat v), .int j] m t Q := by
  have hp : ev_prog[203]? = some ev_m203 := rfl
  have k5 := hok.2.2.1
  unfold ab_mw at hQ
  refine ⟨Or.inr ⟨277, _, rfl, rfl⟩, ev_m203, rfl, ev_gK A hp [21] 20 ?_⟩
  refine ev_S153 A hB.1 k5 ?_
  cases hwa : ab_wd z (Int32.ofNat u) i with
  | none =>
    rw [hwa] at hQ
    exact And.intro (fun _ => ⟨rfl, hQ⟩) (fun h => absurd ev_eq00 h)
  | some a =>
    refine And.intro (fun h => absurd (h : (1 : Int32).toInt = 0) ev_ne10) (fun _ => ?_)
    refine ev_S153 A hB.1 k5 ?_
    cases hwb : ab_wd z (Int32.ofNat v) j with
    | none =>
      rw [hwa, hwb] at hQ
      exact And.intro (fun h => absurd (h : ¬ (0 : Int32).toInt = 0) (fun q => q rfl)) (fun _ => ⟨rfl, hQ⟩)
    | some b =>
      rw [hwa, hwb] at hQ
      dsimp only at hQ
      refine And.intro (fun _ => ?_) (fun h => absurd (h : (1 : Int32).toInt = 0) ev_ne10)
      obtain ⟨k, rfl, hk, rfl⟩ := ab_wd_u hu hwa
      obtain ⟨l, rfl, hl, rfl⟩ := ab_wd_u hv hwb
      have hk10 := (hok.2.2.1 u hu).1
      have hl10 := (hok.2.2.1 v hv).1
      obtain ⟨a40, at'⟩ := ab_zthw hok hu hk
      obtain ⟨b40, bt'⟩ := ab_zthw hok hv hl
      refine ev_gK A hp [38] 20 ?_
      show ev_J w ev_m203 (ev_nd 203) Q 38 [ev_vr 277, ev_vn u, ev_vn k, ev_vn v, ev_vn l, ev_vi (Int32.ofNat 10 * Int32.ofNat u + Int32.ofNat k), ev_vi (Int32.ofNat 10 * Int32.ofNat v + Int32.ofNat l)] [] m t
      rw [ev_lin (by omega) (by omega) (by omega), ev_lin (by omega) (by omega) (by omega)]
      have hnb := ab_plo_nb hok hu hv hj hj2 hk hl
      have hmv : ab_mv (zT z) (zt z) (zf z) (zq z) (10 * u + k) (10 * v + l) = ((zf z (10 * u + k)).isSome && zq z (10 * u + k) (10 * v + l) && decide (¬ ab_nb (zT z) u k v = some l)) := by
        unfold ab_mv
        rw [at', bt', (by omega : (10 * u + k) / 10 = u), (by omega : (10 * u + k) % 10 = k), (by omega : (10 * v + l) / 10 = v), (by omega : (10 * v + l) % 10 = l)]
        rfl
      rw [hmv] at hQ
      have hga : m 284 (Int32.ofNat (10 * u + k)).toNatClampNeg = Int32.ofNat (g (10 * u + k)) := by rw [ev_on (by omega)]; exact hB.2.2.1 _ a40 at'
      have hgb : m 284 (Int32.ofNat (10 * v + l)).toNatClampNeg = Int32.ofNat (g (10 * v + l)) := by rw [ev_on (by omega)]; exact hB.2.2.1 _ b40 bt'
      have ia := ev_toI hga (by have := hg _ a40 at'; omega)
      have ib := ev_toI hgb (by have := hg _ b40 bt'; omega)
      have hq := hgq _ _ a40 b40 at' bt'
      refine ev_gK A hp [] 40 ?_
      refine ev_S149 (R := zR z) A hB.2.1 k5 a40 at' ?_
      refine And.intro (fun h => ?_) (fun h => ?_)
      · have h1 : zf z (10 * u + k) = none := of_decide_eq_true (ab_bi_ne h)
        rw [h1] at hQ
        exact ⟨rfl, hQ⟩
      have h1 : ¬ zf z (10 * u + k) = none := of_decide_eq_false (ab_bi_nne h)
      have h1s : (zf z (10 * u + k)).isSome = true := by
        cases hh : zf z (10 * u + k) with
        | none => exact absurd hh h1
        | some f => rfl
      rw [h1s, Bool.true_and] at hQ
      refine And.intro (ev_oin a40 (by decide)) ?_
      refine And.intro (ev_oin b40 (by decide)) ?_
      refine And.intro (fun (h2 : ¬ (m 284 (Int32.ofNat (10 * u + k)).toNatClampNeg).toInt = (m 284 (Int32.ofNat (10 * v + l)).toNatClampNeg).toInt) => ?_) (fun (h2 : (m 284 (Int32.ofNat (10 * u + k)).toNatClampNeg).toInt = (m 284 (Int32.ofNat (10 * v + l)).toNatClampNeg).toInt) => ?_)
      · have h3 : zq z (10 * u + k) (10 * v + l) = false := Bool.eq_false_iff.mpr (fun q => by have := hq.mpr q; rw [this] at ia; omega)
        rw [h3] at hQ
        exact ⟨rfl, hQ⟩
      have h3 : zq z (10 * u + k) (10 * v + l) = true := hq.mp (by omega)
      rw [h3, Bool.true_and] at hQ
      refine ev_S173 A hB.2.2.2 hok a40 ?_
      refine ev_S173 A hB.2.2.2 hok b40 ?_
      refine And.intro (fun (h4 : (ab_oi (ab_plo (zT z) (10 * u + k))).toInt = (ab_oi (ab_plo (zT z) (10 * v + l))).toInt) => ?_) (fun (h4 : ¬ (ab_oi (ab_plo (zT z) (10 * u + k))).toInt = (ab_oi (ab_plo (zT z) (10 * v + l))).toInt) => ?_)
      · rw [decide_eq_false (fun q => q (hnb.mp h4))] at hQ
        exact ⟨rfl, hQ⟩
      · have h5 : ¬ ab_nb (zT z) u k v = some l := fun q => h4 (hnb.mpr q)
        rw [decide_eq_true h5] at hQ
        exact ⟨rfl, hQ⟩
theorem ab_wd_n (hok : ab_ok z) {u a : Nat} (hu : u < 4) (ha : a < 1000) : ab_wd z (Int32.ofNat u) (Int32.ofNat a) = if a < (zW z u).length then some (10 * u + a) else none := by
  have ea := ev_ofNat_i (n := a) (by omega)
  unfold ab_wd
  rw [ab_wi_of hu]
  dsimp only
  by_cases h : a < (zW z u).length
  · rw [if_pos (by omega), if_pos h, ea]; rfl
  · rw [if_neg (by omega), if_neg h]
theorem ab_mw_f (hok : ab_ok z) {u v a b : Nat} (hu : u < 4) (hv : v < 4) (ha : a < 10) (hb : b < 10) : ab_mw z u (Int32.ofNat a) v (Int32.ofNat b) = ab_mv (zT z) (zt z) (zf z) (zq z) (10 * u + a) (10 * v + b) := by
  have t1 : zt z (10 * u + a) = decide (a < (zW z u).length) := by
    unfold zt ab_there
    rw [(by omega : (10 * u + a) % 10 = a), (by omega : (10 * u + a) / 10 = u)]
  have t2 : zt z (10 * v + b) = decide (b < (zW z v).length) := by
    unfold zt ab_there
    rw [(by omega : (10 * v + b) % 10 = b), (by omega : (10 * v + b) / 10 = v)]
  unfold ab_mw
  rw [ab_wd_n hok hu (by omega), ab_wd_n hok hv (by omega)]
  by_cases h1 : a < (zW z u).length
  · by_cases h2 : b < (zW z v).length
    · rw [if_pos h1, if_pos h2]
    · rw [if_neg h2, if_pos h1]
      unfold ab_mv
      rw [t2, decide_eq_false h2]
      simp
  · rw [if_neg h1]
    unfold ab_mv
    rw [t1, decide_eq_false h1]
    simp
theorem ab_mw_out (hok : ab_ok z) {u v a b : Nat} (hu : u < 4) (hv : v < 4) (ha : a < 1000) (hb : b < 1000) (h : 10 ≤ a ∨ 10 ≤ b) : ab_mw z u (Int32.ofNat a) v (Int32.ofNat b) = false := by
  have h1 := (hok.2.2.1 u hu).1
  have h2 := (hok.2.2.1 v hv).1
  unfold ab_mw
  rw [ab_wd_n hok hu (by omega), ab_wd_n hok hv (by omega)]
  rcases h with h | h
  · rw [if_neg (by omega)]
  · rw [if_neg (by omega : ¬ b < (zW z v).length)]
    split <;> first | rfl | (rename_i h4; cases h4)
theorem ab_wd_neg {u : Nat} {i : Int32} (h : i.toInt < 0) : ab_wd z (Int32.ofNat u) i = none := by
  unfold ab_wd
  split
  · rfl
  · rw [if_neg (by omega)]
theorem ab_mw_pre (hok : ab_ok z) {u v a b : Nat} (hu : u < 4) (hv : v < 4) (ha : a < 11) (hb : b < 11) : ab_mw z u (Int32.ofNat a - 1) v (Int32.ofNat b - 1) = false ↔ (a = 0 ∨ b = 0 ∨ ab_mv (zT z) (zt z) (zf z) (zq z) (10 * u + (a - 1)) (10 * v + (b - 1)) = false) := by
  by_cases h1 : a = 0
  · subst h1
    have : ab_mw z u (Int32.ofNat 0 - 1) v (Int32.ofNat b - 1) = false := by
      unfold ab_mw
      rw [ab_wd_neg (u := u) (i := Int32.ofNat 0 - 1) (by decide)]
    exact ⟨fun _ => Or.inl rfl, fun _ => this⟩
  · by_cases h2 : b = 0
    · subst h2
      have : ab_mw z u (Int32.ofNat a - 1) v (Int32.ofNat 0 - 1) = false := by
        unfold ab_mw
        rw [ab_wd_neg (u := v) (i := Int32.ofNat 0 - 1) (by decide)]
        split <;> first | rfl | (rename_i h4; cases h4)
      exact ⟨fun _ => Or.inr (Or.inl rfl), fun _ => this⟩
    · rw [ev_pred (by omega) (by omega), ev_pred (by omega) (by omega), ab_mw_f hok hu hv (by omega) (by omega)]
      exact ⟨fun h => Or.inr (Or.inr h), fun h => by rcases h with h | h | h; omega; omega; exact h⟩
theorem ab_MK_app {bs : List (Nat × Nat × Nat)} {q : Nat × Nat × Nat} (h : ab_MK m bs) (h42 : m' 277 42 = Int32.ofNat (bs.length + 1)) (h0 : m' 304 (3 * bs.length) = Int32.ofNat q.1) (h1 : m' 304 (3 * bs.length + 1) = Int32.ofNat q.2.1) (h2 : m' 304 (3 * bs.length + 2) = Int32.ofNat q.2.2) (hf : ∀ j, j < 3 * bs.length → m' 304 j = m 304 j) : ab_MK m' (bs ++ [q]) := by
  refine ⟨by rw [List.length_append, List.length_singleton]; exact h42, fun k hk => ?_⟩
  rw [List.length_append, List.length_singleton] at hk
  by_cases hkb : k < bs.length
  · have e : (bs ++ [q]).getD k (0, 0, 0) = bs.getD k (0, 0, 0) := by rw [List.getD_eq_getElem?_getD, List.getElem?_append_left hkb, ← List.getD_eq_getElem?_getD]
    rw [e, hf _ (by omega), hf _ (by omega), hf _ (by omega)]
    exact h.2 k hkb
  · have ek : k = bs.length := by omega
    subst ek
    have e : (bs ++ [q]).getD bs.length (0, 0, 0) = q := by rw [List.getD_eq_getElem?_getD, List.getElem?_append_right (Nat.le_refl _), Nat.sub_self]; rfl
    rw [e]
    exact ⟨h0, h1, h2⟩
def ab_frB (m m' : ev_Mem) : Prop := ∀ c i, ¬ (c = 277 ∧ i = 42) → c ≠ 304 → m' c i = m c i
/-- blocks -/
theorem ev_S202 {x y : Int32} (A : ev_all w) (hs : ab_RepM m z) (hok : ab_ok z) (hQ : ab_PM m t true (ab_blocks z x y) Q) : ev_K w 202 [.ref 277, .int x, .int y] m t Q := by
  have hp : ev_prog[202]? = some ev_m202 := rfl
  have c8 := hs.2.2.2.2.2.2.2.1
  obtain ⟨-, -, c3, c4, -, ⟨g, g1, g2, g3⟩, -⟩ := id hs
  have js := hok.2.2.2.2.1.1.2.2.2.1
  have thr : ∀ cc : Nat, ¬ cc = 0 → cc < 10 → ab_blocks z x y = (cc, 0, z) → ev_J w ev_m202 (ev_nd 202) Q 49 [ev_vr 277, ev_vi x, ev_vi y, none, none, none] [.int (Int32.ofNat cc), .ref 277] m t := by
    intro cc hcc hc10 e
    rw [e] at hQ
    have ecc := ev_ofNat_i (n := cc) (by omega)
    refine ev_gK A hp [61] 10 ?_
    refine And.intro (fun (h : (ev_up m 277 0 (Int32.ofNat cc) 277 0).toInt ≤ 0) => by rw [ev_up_same] at h; omega) (fun _ => ?_)
    exact hQ _ 0 (ab_RM_th hs _) (fun c i hc => ab_up0 _ _ (by omega)) (ev_up_same _ _ _ _) (fun q => absurd q hcc)
  refine ⟨Or.inr ⟨277, _, rfl, rfl⟩, ev_m202, rfl, ev_gK A hp [19, 49] 20 ?_⟩
  refine ev_S140 A ?_
  cases hwi : ab_wi x with
  | none => exact And.intro (fun _ => thr 1 (by decide) (by decide) (by unfold ab_blocks; rw [hwi])) (fun h => absurd ev_eq00 h)
  | some u =>
    obtain ⟨hu4, rfl⟩ := ab_wi_some hwi
    refine And.intro (fun h => absurd (h : (1 : Int32).toInt = 0) ev_ne10) (fun _ => ?_)
    refine ev_S140 A ?_
    cases hwj : ab_wi y with
    | none => exact And.intro (fun h => absurd (h : ¬ (0 : Int32).toInt = 0) (fun q => q rfl)) (fun _ => thr 1 (by decide) (by decide) (by unfold ab_blocks; rw [hwj]; split <;> first | rfl | (rename_i h4; cases h4)))
    | some v =>
      obtain ⟨hv4, rfl⟩ := ab_wi_some hwj
      have eu := ev_ofNat_i (n := u) (by omega)
      have ev := ev_ofNat_i (n := v) (by omega)
      have hbl : ab_blocks z (Int32.ofNat u) (Int32.ofNat v) = if u = v then (2, 0, z) else if zj z u = true ∧ zj z v = true then (0, Int32.ofNat (zb z u v).length, (zD z, zR z, zW z, zP z, zT z, zO z, zB z, zF z, zb z u v, zA z)) else (3, 0, z) := by unfold ab_blocks; rw [hwi, hwj]
      refine And.intro (fun _ => ?_) (fun h => absurd (h : (1 : Int32).toInt = 0) ev_ne10)
      refine ev_gK A hp [28, 49] 20 ?_
      refine And.intro (fun (h : ¬ (Int32.ofNat u).toInt = (Int32.ofNat v).toInt) => ?_) (fun (h : (Int32.ofNat u).toInt = (Int32.ofNat v).toInt) => ?_)
      case refine_2 => exact thr 2 (by decide) (by decide) (by rw [hbl, if_pos (by omega)])
      have huv : ¬ u = v := fun q => h (by rw [q])
      rw [if_neg huv] at hbl
      refine ev_gK A hp [49] 20 ?_
      refine ev_S141 A c8.2.2.2.1 js ?_
      refine And.intro (fun h2 => thr 3 (by decide) (by decide) (by rw [hbl, if_neg (fun q => by have := ab_bi_eq h2; rw [show ab_isJ (zT z).2.2.2.1 (Int32.ofNat u) = zj z u from rfl, q.1] at this; cases this)])) (fun h2 => ?_)
      have hju : zj z u = true := ab_bi_neq h2
      refine ev_S141 A c8.2.2.2.1 js ?_
      refine And.intro (fun h3 => ?_) (fun h3 => thr 3 (by decide) (by decide) (by rw [hbl, if_neg (fun q => by have := ab_bi_nne h3; rw [show ab_isJ (zT z).2.2.2.1 (Int32.ofNat v) = zj z v from rfl, q.2] at this; cases this)]))
      have hjv : zj z v = true := ab_bi_ne h3
      rw [if_pos ⟨hju, hjv⟩] at hbl
      rw [hbl] at hQ
      have hu10 := (hok.2.2.1 u hu4).1
      have hv10 := (hok.2.2.1 v hv4).1
      obtain ⟨f, hf⟩ : ∃ f : Nat → Nat → Bool, f = fun i j => ab_mv (zT z) (zt z) (zf z) (zq z) (10 * u + i) (10 * v + j) := ⟨_, rfl⟩
      have hzb : zb z u v = ab_bks f (zW z v).length (zW z u).length := by rw [hf]; rfl
      rw [hzb] at hQ
      show ev_J w ev_m202 (ev_nd 202) Q 49 [ev_vr 277, ev_vn u, ev_vn v, none, none, none] [.int (Int32.ofNat 0), .ref 277] m t
      refine ev_gK A hp [61] 10 ?_
      refine And.intro (fun _ => ?_) (fun (h : 0 < (ev_up m 277 0 (Int32.ofNat 0) 277 0).toInt) => by rw [ev_up_same] at h; exact absurd h (by decide))
      refine ev_gK A hp [68] 10 ?_
      show ev_J w ev_m202 (ev_nd 202) Q 68 [ev_vr 277, ev_vn u, ev_vn v, ev_vn 0, none, none] [] (ev_up (ev_up m 277 0 (Int32.ofNat 0)) 277 42 (Int32.ofNat 0)) t
      have q1 : ∀ c i, ¬ (c = 277 ∧ (i = 0 ∨ i = 42)) → ev_up (ev_up m 277 0 (Int32.ofNat 0)) 277 42 (Int32.ofNat 0) c i = m c i := fun c i hc => by
        unfold ev_up
        rw [if_neg (by omega), if_neg (by omega)]
      have q0 : ev_up (ev_up m 277 0 (Int32.ofNat 0)) 277 42 (Int32.ofNat 0) 277 0 = Int32.ofNat 0 := by rw [ev_up_idx _ _ (by decide), ev_up_same]
      have q42 : ev_up (ev_up m 277 0 (Int32.ofNat 0)) 277 42 (Int32.ofNat 0) 277 42 = Int32.ofNat 0 := ev_up_same _ _ _ _
      generalize ev_up (ev_up m 277 0 (Int32.ofNat 0)) 277 42 (Int32.ofNat 0) = m1 at *
      have B1 : ab_RB m1 z g := ab_RB_cg (fun c i hc => q1 c i (by unfold ab_gT ab_gW at hc; omega)) ⟨c3, c4, g1, c8⟩
      have env : ∀ mk, ab_frB m1 mk → ab_RB mk z g := fun mk fk => ab_RB_cg (fun c i hc => fk c i (by unfold ab_gT ab_gW at hc; omega) (by unfold ab_gT ab_gW at hc; omega)) B1
      have inner : ∀ i, i < (zW z u).length → (∀ (ii : Int32) (mk : ev_Mem) (o4 o5 : Option Value), ii = Int32.ofNat (i + 1) → ab_frB m1 mk → ab_MK mk (ab_bks f (zW z v).length (i + 1)) → ev_J w ev_m202 (ev_nd 202) Q 68 [ev_vr 277, ev_vn u, ev_vn v, ev_vi ii, o4, o5] [] mk t) →
          ∀ j, j ≤ (zW z v).length → ∀ (jj : Int32) (mk : ev_Mem) (o5 : Option Value), jj = Int32.ofNat j → ab_frB m1 mk → ab_MK mk (ab_bks f (zW z v).length i ++ ab_bj f i j) → ev_J w ev_m202 (ev_nd 202) Q 81 [ev_vr 277, ev_vn u, ev_vn v, ev_vn i, ev_vi jj, o5] [] mk t := by
        intro i hi kont
        refine ev_lup (P := fun j => ∀ (jj : Int32) (mk : ev_Mem) (o5 : Option Value), jj = Int32.ofNat j → ab_frB m1 mk → ab_MK mk (ab_bks f (zW z v).length i ++ ab_bj f i j) → ev_J w ev_m202 (ev_nd 202) Q 81 [ev_vr 277, ev_vn u, ev_vn v, ev_vn i, ev_vi jj, o5] [] mk t) (zW z v).length (fun j hj ih jj mk o5 ejj fk hK => ?_)
        subst ejj
        have ei := ev_ofNat_i (n := i) (by omega)
        have ej := ev_ofNat_i (n := j) (by omega)
        have eB := env mk fk
        have esz : mk 279 (Int32.ofNat v).toNatClampNeg = Int32.ofNat (zW z v).length := by rw [ev_on (by omega)]; exact eB.1 v hv4
        have esi := ev_toI esz (by omega)
        refine ev_gK A hp [92, 199] 10 ?_
        refine And.intro (ev_oin hv4 (by decide)) ?_
        refine And.intro (fun (h : (mk 279 (Int32.ofNat v).toNatClampNeg).toInt ≤ (Int32.ofNat j).toInt) => ?_) (fun (h : (Int32.ofNat j).toInt < (mk 279 (Int32.ofNat v).toNatClampNeg).toInt) => ?_)
        · have e : j = (zW z v).length := by omega
          subst e
          refine ev_gK A hp [68] 10 ?_
          exact kont _ mk _ _ (ev_succ (by omega)) fk (by rw [ab_bks]; exact hK)
        have hjb : j < (zW z v).length := by omega
        have next : ∀ (m2 : ev_Mem) (x5 : Int32), ab_frB m1 m2 → ab_MK m2 (ab_bks f (zW z v).length i ++ ab_bj f i j ++ ab_bc f i j) → ev_J w ev_m202 (ev_nd 202) Q 193 [ev_vr 277, ev_vn u, ev_vn v, ev_vn i, ev_vn j, ev_vi x5] [] m2 t := by
          intro m2 x5 f2 K2
          refine ev_gK A hp [81] 10 ?_
          refine ih hjb _ m2 _ (ev_succ (by omega)) f2 ?_
          rw [ab_bj, ← List.append_assoc]
          exact K2
        have hrle : ab_run2 f i j ≤ 10 := by
          have := ab_cnt_le (fun n => f (i + n) (j + n)) (10 - max i j) 0
          unfold ab_run2
          omega
        -- behind the run
        have h119 : ∀ nn : Int32, nn = Int32.ofNat (ab_run2 f i j) → ev_J w ev_m202 (ev_nd 202) Q 119 [ev_vr 277, ev_vn u, ev_vn v, ev_vn i, ev_vn j, ev_vi nn] [] mk t := by
          intro nn enn
          subst enn
          have er := ev_ofNat_i (n := ab_run2 f i j) (by omega)
          have i2 : (Int32.ofInt 2).toInt = 2 := by decide
          refine ev_gK A hp [125, 193] 10 ?_
          refine And.intro (fun (h2 : (Int32.ofNat (ab_run2 f i j)).toInt < (Int32.ofInt 2).toInt) => ?_) (fun (h2 : (Int32.ofInt 2).toInt ≤ (Int32.ofNat (ab_run2 f i j)).toInt) => ?_)
          · refine next mk _ fk ?_
            have e0 : ab_bc f i j = [] := by
              unfold ab_bc ab_st
              rw [decide_eq_false (fun q => by omega)]; rfl
            rw [e0, List.append_nil]; exact hK
          have hpre := ab_mw_pre hok hu4 hv4 (a := i) (b := j) (by omega) (by omega)
          have hff : f (i - 1) (j - 1) = ab_mv (zT z) (zt z) (zf z) (zq z) (10 * u + (i - 1)) (10 * v + (j - 1)) := by rw [hf]
          rw [← hff] at hpre
          refine ev_gK A hp [141, 193] 30 ?_
          refine ev_S203 A eB g2 g3 hok hu4 hv4 hju hjv ?_
          refine And.intro (fun h3 => ?_) (fun h3 => ?_)
          · have h4 := ab_bi_ne h3
            refine next mk _ fk ?_
            have e0 : ab_bc f i j = [] := by
              unfold ab_bc ab_st
              rw [decide_eq_false (fun q => by
                have h5 := hpre.mpr q.1
                have h6 : ab_mw z u (Int32.ofNat i - 1) v (Int32.ofNat j - 1) = true := h4
                rw [h5] at h6
                cases h6)]
              rfl
            rw [e0, List.append_nil]; exact hK
          have h4 := hpre.mp (ab_bi_nne h3)
          have e1 : ab_bc f i j = [(i, j, ab_run2 f i j)] := by
            unfold ab_bc ab_st
            rw [decide_eq_true ⟨h4, by omega⟩]; rfl
          have htot := ab_bks_50 f hv10 (n := i + 1) (by omega)
          have hmj := ab_bj_mono f i ((zW z v).length - (j + 1)) (j + 1)
          rw [(by omega : j + 1 + ((zW z v).length - (j + 1)) = (zW z v).length), ab_bj, List.length_append, e1, List.length_singleton] at hmj
          rw [ab_bks, List.length_append] at htot
          have hlt : (ab_bks f (zW z v).length i ++ ab_bj f i j).length < 50 := by rw [List.length_append]; omega
          rw [e1] at next
          generalize ab_bks f (zW z v).length i ++ ab_bj f i j = bs at *
          generalize ab_run2 f i j = r at *
          have a0 : Int32.ofInt 3 * mk 277 42 = Int32.ofNat (3 * bs.length) := by rw [hK.1]; exact ev_mulN (c := 3) (by omega) (by omega)
          refine ev_gK A hp [] 8 ?_
          refine And.intro (ev_iin a0 (by omega) (by decide)) ?_
          show ev_J w ev_m202 (ev_nd 202) Q 153 [ev_vr 277, ev_vn u, ev_vn v, ev_vn i, ev_vn j, ev_vn r] [] (ev_up mk 304 (Int32.ofInt 3 * mk 277 42).toNatClampNeg (Int32.ofNat i)) t
          rw [ev_at a0 (by omega)]
          have w1 : ∀ c k, ¬ (c = 304 ∧ k = 3 * bs.length) → ev_up mk 304 (3 * bs.length) (Int32.ofNat i) c k = mk c k := fun c k hc => if_neg hc
          have w0 : ev_up mk 304 (3 * bs.length) (Int32.ofNat i) 304 (3 * bs.length) = Int32.ofNat i := ev_up_same _ _ _ _
          generalize ev_up mk 304 (3 * bs.length) (Int32.ofNat i) = m5 at *
          have a1 : Int32.ofInt 3 * m5 277 42 + 1 = Int32.ofNat (3 * bs.length + 1) := by rw [w1 _ _ (by omega), a0]; exact ev_succ (by omega)
          refine ev_gK A hp [] 10 ?_
          refine And.intro (ev_iin a1 (by omega) (by decide)) ?_
          show ev_J w ev_m202 (ev_nd 202) Q 168 [ev_vr 277, ev_vn u, ev_vn v, ev_vn i, ev_vn j, ev_vn r] [] (ev_up m5 304 (Int32.ofInt 3 * m5 277 42 + 1).toNatClampNeg (Int32.ofNat j)) t
          rw [ev_at a1 (by omega)]
          have x1 : ∀ c k, ¬ (c = 304 ∧ k = 3 * bs.length + 1) → ev_up m5 304 (3 * bs.length + 1) (Int32.ofNat j) c k = m5 c k := fun c k hc => if_neg hc
          have x0 : ev_up m5 304 (3 * bs.length + 1) (Int32.ofNat j) 304 (3 * bs.length + 1) = Int32.ofNat j := ev_up_same _ _ _ _
          generalize ev_up m5 304 (3 * bs.length + 1) (Int32.ofNat j) = m6 at *
          have a2 : Int32.ofInt 3 * m6 277 42 + Int32.ofInt 2 = Int32.ofNat (3 * bs.length + 2) := by rw [x1 _ _ (by omega), w1 _ _ (by omega), a0]; exact ev_addN (b := 2) (by omega)
          refine ev_gK A hp [] 10 ?_
          refine And.intro (ev_iin a2 (by omega) (by decide)) ?_
          show ev_J w ev_m202 (ev_nd 202) Q 183 [ev_vr 277, ev_vn u, ev_vn v, ev_vn i, ev_vn j, ev_vn r] [] (ev_up m6 304 (Int32.ofInt 3 * m6 277 42 + Int32.ofInt 2).toNatClampNeg (Int32.ofNat r)) t
          rw [ev_at a2 (by omega)]
          have y1 : ∀ c k, ¬ (c = 304 ∧ k = 3 * bs.length + 2) → ev_up m6 304 (3 * bs.length + 2) (Int32.ofNat r) c k = m6 c k := fun c k hc => if_neg hc
          have y0 : ev_up m6 304 (3 * bs.length + 2) (Int32.ofNat r) 304 (3 * bs.length + 2) = Int32.ofNat r := ev_up_same _ _ _ _
          generalize ev_up m6 304 (3 * bs.length + 2) (Int32.ofNat r) = m7 at *
          refine ev_gK A hp [193] 20 ?_
          refine next _ _ (fun c k z1 z2 => ?_) (ab_MK_app hK ?_ ?_ ?_ ?_ (fun k hk => ?_))
          · rw [show ev_up m7 277 42 _ c k = m7 c k from if_neg z1, y1 c k (by omega), x1 c k (by omega), w1 c k (by omega)]
            exact fk c k z1 z2
          · rw [ev_up_same, y1 _ _ (by omega), x1 _ _ (by omega), w1 _ _ (by omega), hK.1]
            exact ev_succ (by omega)
          · rw [ev_up_cell _ (by decide), y1 _ _ (by omega), x1 _ _ (by omega)]; exact w0
          · rw [ev_up_cell _ (by decide), y1 _ _ (by omega)]; exact x0
          · rw [ev_up_cell _ (by decide)]; exact y0
          · rw [ev_up_cell _ (by decide), y1 _ _ (by omega), x1 _ _ (by omega), w1 _ _ (by omega)]
        -- the run
        have run := ev_lup (P := fun n => ∀ nn : Int32, nn = Int32.ofNat n → ab_run2 f i j = n + ab_cnt (fun n => f (i + n) (j + n)) (10 - max i j - n) n → ev_J w ev_m202 (ev_nd 202) Q 95 [ev_vr 277, ev_vn u, ev_vn v, ev_vn i, ev_vn j, ev_vi nn] [] mk t) (10 - max i j) (by
          intro n hn ihn nn enn hr
          subst enn
          refine ev_gK A hp [95, 119] 30 ?_
          refine ev_S203 A eB g2 g3 hok hu4 hv4 hju hjv ?_
          have e1 : Int32.ofNat i + Int32.ofNat n = Int32.ofNat (i + n) := ev_addN (by omega)
          have e2 : Int32.ofNat j + Int32.ofNat n = Int32.ofNat (j + n) := ev_addN (by omega)
          by_cases hlt : n < 10 - max i j
          · have hmf : ab_mw z u (Int32.ofNat i + Int32.ofNat n) v (Int32.ofNat j + Int32.ofNat n) = f (i + n) (j + n) := by rw [e1, e2, ab_mw_f hok hu4 hv4 (by omega) (by omega), hf]
            obtain ⟨k, hk⟩ : ∃ k, 10 - max i j - n = k + 1 := ⟨10 - max i j - n - 1, by omega⟩
            rw [hk, ab_cnt] at hr
            refine And.intro (fun h3 => h119 _ ?_) (fun h3 => ihn hlt _ (ev_succ (by omega)) ?_)
            · have h4 := ab_bi_eq h3
              have h5 : f (i + n) (j + n) = false := hmf.symm.trans h4
              rw [h5] at hr
              rw [hr]; rfl
            · have h4 := ab_bi_neq h3
              have h5 : f (i + n) (j + n) = true := hmf.symm.trans h4
              rw [if_pos h5] at hr
              rw [(by omega : 10 - max i j - (n + 1) = k), hr]
              omega
          · have hmf : ab_mw z u (Int32.ofNat i + Int32.ofNat n) v (Int32.ofNat j + Int32.ofNat n) = false := by rw [e1, e2]; exact ab_mw_out hok hu4 hv4 (by omega) (by omega) (by omega)
            rw [(by omega : 10 - max i j - n = 0), ab_cnt] at hr
            refine And.intro (fun h3 => h119 _ ?_) (fun h3 => ?_)
            · rw [hr]; rfl
            · have h4 := ab_bi_neq h3
              have h5 : ab_mw z u (Int32.ofNat i + Int32.ofNat n) v (Int32.ofNat j + Int32.ofNat n) = true := h4
              rw [hmf] at h5
              cases h5)
        refine ev_gK A hp [95] 10 ?_
        exact run 0 (by omega) _ rfl (by rw [Nat.zero_add]; rfl)
      have outer := ev_lup (P := fun i => ∀ (ii : Int32) (mk : ev_Mem) (o4 o5 : Option Value), ii = Int32.ofNat i → ab_frB m1 mk → ab_MK mk (ab_bks f (zW z v).length i) → ev_J w ev_m202 (ev_nd 202) Q 68 [ev_vr 277, ev_vn u, ev_vn v, ev_vi ii, o4, o5] [] mk t) (zW z u).length (by
        intro i hi ih ii mk o4 o5 eii fk hK
        subst eii
        have ei := ev_ofNat_i (n := i) (by omega)
        have eB := env mk fk
        have esz : mk 279 (Int32.ofNat u).toNatClampNeg = Int32.ofNat (zW z u).length := by rw [ev_on (by omega)]; exact eB.1 u hu4
        have esi := ev_toI esz (by omega)
        refine ev_gK A hp [81, 205] 20 ?_
        refine And.intro (ev_oin hu4 (by decide)) ?_
        refine And.intro (fun (h : (mk 279 (Int32.ofNat u).toNatClampNeg).toInt ≤ (Int32.ofNat i).toInt) => ?_) (fun (h : (Int32.ofNat i).toInt < (mk 279 (Int32.ofNat u).toNatClampNeg).toInt) => ?_)
        · have e : i = (zW z u).length := by omega
          subst e
          refine ev_gK A hp [] 10 ?_
          show Q (.inl (some (.int (mk 277 42)))) mk t
          rw [hK.1]
          refine hQ mk _ (ab_RM_K hs (fun c k q2 q3 => ?_) hK) (fun c k hc => ?_) ?_ (fun _ => rfl)
          · rw [fk c k (fun q => q3 (Or.inl q)) (fun q => q3 (Or.inr q))]
            exact q1 c k (fun q => by rcases q.2 with r | r; exact q2 (by unfold ab_sM; omega); exact q3 (Or.inl ⟨q.1, r⟩))
          · rw [fk c k (by omega) (by omega)]; exact q1 c k (by omega)
          · rw [fk _ _ (by omega) (by decide)]; exact q0
        · have hia : i < (zW z u).length := by omega
          exact inner i hia (ih hia) 0 (by omega) _ mk _ rfl fk (by rw [ab_bj, List.append_nil]; exact hK))
      exact outer 0 (by omega) _ m1 _ _ rfl (fun _ _ _ _ => rfl) ⟨q42, fun k hk => absurd hk (Nat.not_lt_zero _)⟩
end EvMblocks
