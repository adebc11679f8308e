/-! the model: changes along a family -/
section EvMchanges
variable {w : ev_W} {Q : ev_QT} {m : ev_Mem} {t : ev_H} {z : ab_Z}
theorem ev_dig {k v : Nat} (hk : k < 256) (hv : v < 4) : (Int32.ofNat k >>> ((Int32.ofInt 2 * Int32.ofNat v) &&& 31)) &&& 3 = Int32.ofNat (ab_dig k v) := (by decide +kernel : ∀ k, k < 256 → ∀ v, v < 4 → (Int32.ofNat k >>> ((Int32.ofInt 2 * Int32.ofNat v) &&& 31)) &&& 3 = Int32.ofNat (ab_dig k v)) k hk v hv
def ab_MR2 (m : ev_Mem) (rs : List Int32) : Prop := m 277 46 = Int32.ofNat rs.length ∧ ∀ d, d < rs.length → m 306 d = rs.getD d 0
def ab_ok2 (q : Nat → Int32) (rs : List Int32) (v d : Nat) : Bool := decide (d < rs.length ∧ (q v = -1 ∨ q v = rs.getD d 0))
theorem ab_ch1_le (x : Option Nat) (d : Nat) (f : Nat → Nat) : ab_ch1 x d f ≤ 1 := by
  unfold ab_ch1
  split
  · exact Nat.zero_le _
  · split <;> decide
theorem ab_td_le (ok : Nat → Nat → Bool) (pa : Nat → Option Nat) (k : Nat) : ∀ v, ab_td ok pa k v ≤ 1000 + v
  | 0 => Nat.zero_le _
  | v + 1 => by
    have h := ab_td_le ok pa k v
    have h2 := ab_ch1_le (pa v) (ab_dig k v) (ab_dig k)
    rw [ab_td]
    split <;> omega
/-- tried -/
theorem ev_S209 {k : Nat} {q : Nat → Int32} {rs : List Int32} {pa : Nat → Option Nat} (A : ev_all w) (hq : ∀ v, v < 4 → m 305 v = q v) (hR : ab_MR2 m rs) (hl : rs.length ≤ 4) (hP : ab_MA m pa) (hpa : ab_PAok pa) (hk : k < 256) (hQ : Q (.inl (some (.int (Int32.ofNat (ab_td (ab_ok2 q rs) pa k 4))))) m t) : ev_K w 209 [.ref 277, .int (Int32.ofNat k)] m t Q := by
  have hp : ev_prog[209]? = some ev_m209 := rfl
  have i4 := ev_i4
  have i46 := ev_toI hR.1 (by omega)
  have dl : ∀ k v, ab_dig k v < 4 := fun k v => Nat.mod_lt _ (by decide)
  have loop := ev_lup (P := fun v => ∀ (vv ss : Int32) (o4 o5 o6 : Option Value), vv = Int32.ofNat v → ss = Int32.ofNat (ab_td (ab_ok2 q rs) pa k v) → ev_J w ev_m209 (ev_nd 209) Q 4 [ev_vr 277, ev_vn k, ev_vi ss, ev_vi vv, o4, o5, o6] [] m t) 4 (by
    intro v hv ih vv ss o4 o5 o6 evv ess
    subst evv ess
    have ev := ev_ofNat_i (n := v) (by omega)
    have hle := ab_td_le (ab_ok2 q rs) pa k v
    refine ev_gK A hp [9] 10 ?_
    refine And.intro (fun (h : (Int32.ofInt 4).toInt ≤ (Int32.ofNat v).toInt) => ?_) (fun (h : (Int32.ofNat v).toInt < (Int32.ofInt 4).toInt) => ?_)
    · have e : v = 4 := by omega
      subst e
      exact hQ
    have hv4 : v < 4 := by omega
    have nv : (Int32.ofNat v).toNatClampNeg = v := ev_on (by omega)
    refine ev_gK A hp [18] 10 ?_
    show ev_J w ev_m209 (ev_nd 209) Q 18 [ev_vr 277, ev_vn k, ev_vn (ab_td (ab_ok2 q rs) pa k v), ev_vn v, ev_vi ((Int32.ofNat k >>> ((Int32.ofInt 2 * Int32.ofNat v) &&& 31)) &&& 3), o5, o6] [] m t
    rw [ev_dig hk hv4]
    have hd4 := dl k v
    have htd : ab_td (ab_ok2 q rs) pa k (v + 1) = if ab_ok2 q rs v (ab_dig k v) = true then ab_td (ab_ok2 q rs) pa k v + ab_ch1 (pa v) (ab_dig k v) (ab_dig k) else 1000 := rfl
    generalize ab_td (ab_ok2 q rs) pa k v = s at *
    generalize hdd : ab_dig k v = d at *
    have ed := ev_ofNat_i (n := d) (by omega)
    have c305 : m 305 (Int32.ofNat v).toNatClampNeg = q v := by rw [nv]; exact hq v hv4
    have c295 : m 295 (Int32.ofNat v).toNatClampNeg = ab_oi (pa v) := by rw [nv]; exact hP v hv4
    have h91 : ∀ b c : Bool, b = ab_ok2 q rs v d → ab_ch1 (pa v) d (ab_dig k) = (if c = true then 1 else 0) → ev_J w ev_m209 (ev_nd 209) Q 91 [ev_vr 277, ev_vn k, ev_vn s, ev_vn v, ev_vn d, ev_vi (ab_bi b), o6] [.int (ab_bi c)] m t := by
      intro b c hb hc
      rw [hc, ← hb] at htd
      refine ev_gK A hp [4] 30 ?_
      refine And.intro (fun h2 => ?_) (fun h2 => ?_)
      · have hb1 := ab_bi_ne h2
        rw [if_pos hb1] at htd
        refine And.intro (fun h3 => ?_) (fun h3 => ?_)
        · have hc1 := ab_bi_eq h3
          rw [hc1, if_neg Bool.false_ne_true, Nat.add_zero] at htd
          exact ih hv4 _ _ _ _ _ (ev_succ (by omega)) (by rw [htd]; rfl)
        · have hc1 := ab_bi_neq h3
          rw [if_pos hc1] at htd
          exact ih hv4 _ _ _ _ _ (ev_succ (by omega)) (by rw [htd]; exact ev_succ (by omega))
      · have hb1 := ab_bi_nne h2
        rw [if_neg (by rw [hb1]; exact Bool.false_ne_true)] at htd
        exact ih hv4 _ _ _ _ _ (ev_succ (by omega)) (by rw [htd]; rfl)
    have h58 : ∀ b : Bool, b = ab_ok2 q rs v d → ev_J w ev_m209 (ev_nd 209) Q 58 [ev_vr 277, ev_vn k, ev_vn s, ev_vn v, ev_vn d, o5, o6] [.int (ab_bi b)] m t := by
      intro b hb
      refine ev_gK A hp [69, 91] 10 ?_
      refine And.intro (ev_oin hv4 (by decide)) ?_
      refine And.intro (fun (h2 : (m 295 (Int32.ofNat v).toNatClampNeg).toInt < 0) => ?_) (fun (h2 : 0 ≤ (m 295 (Int32.ofNat v).toNatClampNeg).toInt) => ?_)
      · rw [c295] at h2
        have hn := (ab_oi_neg (o := pa v) (fun x hx => by have := hpa v x hv4 hx; omega)).mp h2
        exact h91 b false hb (by rw [hn]; rfl)
      · rw [c295] at h2
        cases hpv : pa v with
        | none => rw [hpv] at h2; exact absurd h2 (by decide)
        | some u =>
          have hu := hpa v u hv4 hpv
          have hdu := dl k u
          have edu := ev_ofNat_i (n := ab_dig k u) (by omega)
          have c295' : m 295 (Int32.ofNat v).toNatClampNeg = Int32.ofNat u := by rw [c295, hpv]; rfl
          refine ev_gK A hp [] 7 ?_
          refine And.intro (ev_oin hv4 (by decide)) ?_
          show ev_J w ev_m209 (ev_nd 209) Q 79 [ev_vr 277, ev_vn k, ev_vn s, ev_vn v, ev_vn d, ev_vi (ab_bi b), o6] [.int (m 295 (Int32.ofNat v).toNatClampNeg), .int (Int32.ofInt 2), .int (Int32.ofNat k), .int (Int32.ofNat d)] m t
          rw [c295']
          refine ev_gK A hp [] 4 ?_
          show ev_J w ev_m209 (ev_nd 209) Q 83 [ev_vr 277, ev_vn k, ev_vn s, ev_vn v, ev_vn d, ev_vi (ab_bi b), o6] [.int ((Int32.ofNat k >>> ((Int32.ofInt 2 * Int32.ofNat u) &&& 31)) &&& 3), .int (Int32.ofNat d)] m t
          rw [ev_dig hk hu]
          refine ev_gK A hp [91] 10 ?_
          refine And.intro (fun (h3 : (Int32.ofNat d).toInt = (Int32.ofNat (ab_dig k u)).toInt) => h91 b false hb ?_) (fun (h3 : ¬ (Int32.ofNat d).toInt = (Int32.ofNat (ab_dig k u)).toInt) => h91 b true hb ?_)
          · have : d = ab_dig k u := by omega
            rw [hpv]
            unfold ab_ch1
            dsimp only
            rw [← this, Nat.beq_refl]
            rfl
          · rw [hpv]
            unfold ab_ch1
            dsimp only
            rw [if_neg (fun h4 => h3 (by rw [Nat.eq_of_beq_eq_true h4])), if_pos rfl]
    refine ev_gK A hp [27, 58] 10 ?_
    refine And.intro (fun (h2 : (m 277 46).toInt ≤ (Int32.ofNat d).toInt) => h58 false ?_) (fun (h2 : (Int32.ofNat d).toInt < (m 277 46).toInt) => ?_)
    · exact (decide_eq_false (fun h3 => by omega)).symm
    have hdl : d < rs.length := by omega
    have c306 : m 306 (Int32.ofNat d).toNatClampNeg = rs.getD d 0 := by rw [ev_on (by omega)]; exact hR.2 d hdl
    refine ev_gK A hp [37, 58] 20 ?_
    refine And.intro (ev_oin hv4 (by decide)) ?_
    refine And.intro (fun (h3 : (m 305 (Int32.ofNat v).toNatClampNeg).toInt = (-1 : Int32).toInt) => h58 true ?_) (fun (h3 : ¬ (m 305 (Int32.ofNat v).toNatClampNeg).toInt = (-1 : Int32).toInt) => ?_)
    · rw [c305] at h3
      exact (decide_eq_true ⟨hdl, Or.inl (ev_eq_of h3)⟩).symm
    rw [c305] at h3
    refine ev_gK A hp [58] 20 ?_
    refine And.intro (ev_oin hv4 (by decide)) ?_
    refine And.intro (ev_oin hd4 (by decide)) ?_
    refine And.intro (fun (h4 : ¬ (m 305 (Int32.ofNat v).toNatClampNeg).toInt = (m 306 (Int32.ofNat d).toNatClampNeg).toInt) => h58 false ?_) (fun (h4 : (m 305 (Int32.ofNat v).toNatClampNeg).toInt = (m 306 (Int32.ofNat d).toNatClampNeg).toInt) => h58 true ?_)
    · rw [c305, c306] at h4
      refine (decide_eq_false (fun h5 => ?_)).symm
      rcases h5.2 with h6 | h6
      · exact h3 (by rw [h6])
      · exact h4 (by rw [h6])
    · rw [c305, c306] at h4
      exact (decide_eq_true ⟨hdl, Or.inr (ev_eq_of h4)⟩).symm)
  refine ⟨Or.inr ⟨277, _, rfl, rfl⟩, ev_m209, rfl, ev_gK A hp [4] 10 ?_⟩
  exact loop 0 (by omega) _ _ _ _ _ rfl rfl
/-- note -/
theorem ev_S208 {x : Int32} {rs : List Int32} (A : ev_all w) (hR : ab_MR2 m rs) (hl : rs.length < 4) (hQ : ∀ m', (∀ c i, ¬ (c = 277 ∧ i = 46) → c ≠ 306 → m' c i = m c i) → ab_MR2 m' (if x = -1 ∨ x ∈ rs then rs else rs ++ [x]) → Q (.inl none) m' t) : ev_K w 208 [.ref 277, .int x] m t Q := by
  have hp : ev_prog[208]? = some ev_m208 := rfl
  have i46 := ev_toI hR.1 (by omega)
  have loop := ev_lup (P := fun j => ∀ (jj : Int32) (b : Bool), jj = Int32.ofNat j → (b = true ↔ x = -1 ∨ x ∈ rs.take j) → ev_J w ev_m208 (ev_nd 208) Q 13 [ev_vr 277, ev_vi x, ev_vi (ab_bi b), ev_vi jj] [] m t) rs.length (by
    intro j hj ih jj b ejj hb
    subst ejj
    have ej := ev_ofNat_i (n := j) (by omega)
    refine ev_gK A hp [21, 47] 10 ?_
    refine And.intro (fun (h : (m 277 46).toInt ≤ (Int32.ofNat j).toInt) => ?_) (fun (h : (Int32.ofNat j).toInt < (m 277 46).toInt) => ?_)
    · rw [List.take_of_length_le (by omega)] at hb
      refine ev_gK A hp [] 20 ?_
      refine And.intro (fun h2 => ?_) (fun h2 => ?_)
      · rw [if_pos (hb.mp (ab_bi_ne h2))] at hQ
        exact hQ m (fun _ _ _ _ => rfl) hR
      · rw [if_neg (fun h3 => by have := hb.mpr h3; rw [ab_bi_nne h2] at this; cases this)] at hQ
        refine And.intro (ev_iin hR.1 (by omega) (by decide)) ?_
        refine hQ _ (fun c i z1 z2 => ?_) ⟨?_, fun d hd => ?_⟩
        · rw [show ev_up (ev_up m 306 _ _) 277 46 _ c i = ev_up m 306 _ _ c i from if_neg z1, ev_up_cell _ z2]
        · rw [ev_up_same, ev_up_cell _ (by decide), hR.1, List.length_append, List.length_singleton]
          exact ev_succ (by omega)
        · rw [List.length_append, List.length_singleton] at hd
          rw [ev_up_cell _ (by decide), ev_at hR.1 (by omega)]
          by_cases hdl : d = rs.length
          · rw [hdl, ev_up_same, List.getD_eq_getElem?_getD, List.getElem?_append_right (Nat.le_refl _), Nat.sub_self]; rfl
          · rw [ev_up_idx _ _ hdl, List.getD_eq_getElem?_getD, List.getElem?_append_left (by omega), ← List.getD_eq_getElem?_getD]
            exact hR.2 d (by omega)
    have hjl : j < rs.length := by omega
    have hts : rs.take (j + 1) = rs.take j ++ [rs.getD j 0] := ab_take_succ hjl
    have c306 : m 306 (Int32.ofNat j).toNatClampNeg = rs.getD j 0 := by rw [ev_on (by omega)]; exact hR.2 j hjl
    have h40 : ∀ b2 : Bool, (b2 = true ↔ x = -1 ∨ x ∈ rs.take (j + 1)) → ev_J w ev_m208 (ev_nd 208) Q 40 [ev_vr 277, ev_vi x, ev_vi (ab_bi b), ev_vn j] [.int (ab_bi b2)] m t := by
      intro b2 hb2
      refine ev_gK A hp [13] 10 ?_
      exact ih hjl _ b2 (ev_succ (by omega)) hb2
    refine ev_gK A hp [40] 20 ?_
    refine And.intro (fun h2 => h40 true ?_) (fun h2 => ?_)
    · refine ⟨fun _ => ?_, fun _ => rfl⟩
      rw [hts, List.mem_append]
      rcases hb.mp (ab_bi_ne h2) with h3 | h3
      · exact Or.inl h3
      · exact Or.inr (Or.inl h3)
    have hno : ¬ (x = -1 ∨ x ∈ rs.take j) := fun h3 => by have := hb.mpr h3; rw [ab_bi_nne h2] at this; cases this
    refine And.intro (ev_oin (by omega) (by decide)) ?_
    refine And.intro (fun (h3 : ¬ (m 306 (Int32.ofNat j).toNatClampNeg).toInt = x.toInt) => h40 false ?_) (fun (h3 : (m 306 (Int32.ofNat j).toNatClampNeg).toInt = x.toInt) => h40 true ?_)
    · rw [c306] at h3
      refine ⟨fun q => (by cases q), fun q => ?_⟩
      rw [hts, List.mem_append, List.mem_singleton] at q
      rcases q with q | q | q
      · exact absurd (Or.inl q) hno
      · exact absurd (Or.inr q) hno
      · exact absurd (by rw [q]) h3
    · rw [c306] at h3
      refine ⟨fun _ => ?_, fun _ => rfl⟩
      rw [hts, List.mem_append, List.mem_singleton]
      exact Or.inr (Or.inr (ev_eq_of h3).symm))
  have h10 : ∀ b : Bool, (b = true ↔ x = -1) → ev_J w ev_m208 (ev_nd 208) Q 10 [ev_vr 277, ev_vi x, none, none] [.int (ab_bi b)] m t := by
    intro b hb
    refine ev_gK A hp [13] 10 ?_
    refine loop 0 (by omega) _ b rfl ?_
    rw [List.take_zero]
    exact ⟨fun q => Or.inl (hb.mp q), fun q => by rcases q with q | q; exact hb.mpr q; cases q⟩
  refine ⟨Or.inr ⟨277, _, rfl, rfl⟩, ev_m208, rfl, ev_gK A hp [10] 10 ?_⟩
  exact And.intro (fun (h : ¬ x.toInt = (-1 : Int32).toInt) => h10 false ⟨fun q => (by cases q), fun q => absurd (by rw [q]) h⟩) (fun (h : x.toInt = (-1 : Int32).toInt) => h10 true ⟨fun _ => ev_eq_of h, fun _ => rfl⟩)
/-- how the model numbers a reading -/
def ab_qv (z : ab_Z) (g : Nat → Nat) (p v : Nat) : Int32 := if zj z v = true then (match ab_nat (zT z) p v with
  | none => -2
  | some x => if zf z x = none then -1 else Int32.ofNat (g x)) else -1
theorem ab_qv_free {g : Nat → Nat} (hok : ab_ok z) (hg : ∀ x, x < 40 → zt z x = true → g x < 40) {p v : Nat} (hv : v < 4) : ab_free (zT z) (zf z) p v = true ↔ ab_qv z g p v = -1 := by
  unfold ab_free ab_qv zj
  cases hj : ab_isJ (zT z).2.2.2.1 (Int32.ofNat v) with
  | false => exact ⟨fun _ => rfl, fun _ => rfl⟩
  | true =>
    rw [if_pos rfl]
    cases hn : ab_nat (zT z) p v with
    | none => exact ⟨fun h => (by cases h), fun h => (by
      have h' : (-2 : Int32) = -1 := h
      exact absurd h' (by decide))⟩
    | some x =>
      obtain ⟨x40, xt, -⟩ := ab_nat_lt hok hv hn
      dsimp only
      cases hf : zf z x with
      | none => exact ⟨fun _ => rfl, fun _ => rfl⟩
      | some l =>
        rw [if_neg (by intro h; cases h)]
        refine ⟨fun h => (by cases h), fun h => ?_⟩
        have h2 := congrArg Int32.toInt h
        rw [ev_ofNat_i (by have := hg x x40 xt; omega)] at h2
        have i1 : (-1 : Int32).toInt = -1 := by decide
        omega
theorem ab_qv_eq {g : Nat → Nat} (hok : ab_ok z) (hg : ∀ x, x < 40 → zt z x = true → g x < 40) (hgq : ∀ x y, x < 40 → y < 40 → zt z x = true → zt z y = true → (g x = g y ↔ zq z x y = true)) {p u v : Nat} (hu : u < 4) (hv : v < 4) (fu : ab_free (zT z) (zf z) p u = false) (fv : ab_free (zT z) (zf z) p v = false) : ab_eqo (zq z) (ab_nat (zT z) p u) (ab_nat (zT z) p v) = true ↔ ab_qv z g p u = ab_qv z g p v := by
  have i2 : (-2 : Int32).toInt = -2 := by decide
  have val : ∀ w, w < 4 → ab_free (zT z) (zf z) p w = false → (ab_nat (zT z) p w = none ∧ ab_qv z g p w = -2) ∨ ∃ x, x < 40 ∧ zt z x = true ∧ ab_nat (zT z) p w = some x ∧ ab_qv z g p w = Int32.ofNat (g x) := by
    intro w hw hf
    unfold ab_free at hf
    unfold ab_qv zj
    cases hj : ab_isJ (zT z).2.2.2.1 (Int32.ofNat w) with
    | false => rw [hj] at hf; cases hf
    | true =>
      rw [hj] at hf
      rw [if_pos rfl]
      cases hn : ab_nat (zT z) p w with
      | none => exact Or.inl ⟨rfl, rfl⟩
      | some x =>
        rw [hn] at hf
        obtain ⟨x40, xt, -⟩ := ab_nat_lt hok hw hn
        refine Or.inr ⟨x, x40, xt, rfl, ?_⟩
        dsimp only at hf ⊢
        rw [if_neg (fun h => by rw [h] at hf; cases hf)]
  rcases val u hu fu with ⟨a1, a2⟩ | ⟨x, x40, xt, a1, a2⟩
  · rcases val v hv fv with ⟨b1, b2⟩ | ⟨y, y40, yt, b1, b2⟩
    · rw [a1, b1, a2, b2]; exact ⟨fun _ => rfl, fun _ => rfl⟩
    · rw [a1, b1, a2, b2]
      refine ⟨fun h => (by cases h), fun h => ?_⟩
      have h2 := congrArg Int32.toInt h
      rw [ev_ofNat_i (by have := hg y y40 yt; omega)] at h2
      omega
  · rcases val v hv fv with ⟨b1, b2⟩ | ⟨y, y40, yt, b1, b2⟩
    · rw [a1, b1, a2, b2]
      refine ⟨fun h => (by cases h), fun h => ?_⟩
      have h2 := congrArg Int32.toInt h
      rw [ev_ofNat_i (by have := hg x x40 xt; omega)] at h2
      omega
    · rw [a1, b1, a2, b2]
      have h1 := hgq x y x40 y40 xt yt
      refine ⟨fun h => by rw [h1.mpr h], fun h => h1.mp ?_⟩
      have h2 := congrArg Int32.toInt h
      rw [ev_ofNat_i (by have := hg x x40 xt; omega), ev_ofNat_i (by have := hg y y40 yt; omega)] at h2
      omega
theorem ab_rs_len (q : Nat → Int32) : ∀ k, (ab_rs q k).length ≤ k
  | 0 => Nat.le_refl _
  | k + 1 => by
    have h := ab_rs_len q k
    rw [ab_rs]
    split
    · omega
    · rw [List.length_append, List.length_singleton]; omega
def ab_frG (m m' : ev_Mem) : Prop := ∀ c i, ¬ (c = 277 ∧ i = 46) → c ≠ 305 → c ≠ 306 → m' c i = m c i
/-- changesAt -/
theorem ev_S207 {p : Nat} {g : Nat → Nat} (A : ev_all w) (hB : ab_RB m z g) (hg : ∀ x, x < 40 → zt z x = true → g x < 40) (hgq : ∀ x y, x < 40 → y < 40 → zt z x = true → zt z y = true → (g x = g y ↔ zq z x y = true)) (hA : ab_MA m (zA z)) (hok : ab_ok z) (hpT : p < (zT z).1) (hQ : ∀ m', ab_frG m m' → Q (.inl (some (.int (Int32.ofNat (ab_lc (zA z) (zr z p)))))) m' t) : ev_K w 207 [.ref 277, .int (Int32.ofNat p)] m t Q := by
  have hp : ev_prog[207]? = some ev_m207 := rfl
  have i4 := ev_i4
  have kT := hok.2.2.2.2.1.1.1
  obtain ⟨hpa, hac⟩ := hok.2.2.2.2.2.2.2.2.2
  obtain ⟨cn1, cn2, cn3, cn4⟩ := ab_canon (q := ab_qv z g p) (R := zr z p) rfl (fun v hv => ab_qv_free hok hg hv) (fun u v hu hv fu fv => ab_qv_eq hok hg hgq hu hv fu fv)
  obtain ⟨l0, l1⟩ := ab_least hpa hac cn1 cn2
  have env : ∀ mk, ab_frG m mk → ab_RB mk z g ∧ ab_MA mk (zA z) := fun mk fk => ⟨ab_RB_cg (fun c i hc => fk c i (by unfold ab_gT ab_gW at hc; omega) (by unfold ab_gT ab_gW at hc; omega) (by unfold ab_gT ab_gW at hc; omega)) hB, fun v hv => by rw [fk _ _ (by omega) (by decide) (by decide)]; exact hA v hv⟩
  -- the tries
  have h84 : ∀ (mk : ev_Mem) (x2 : Int32) (o3 : Option Value), ab_frG m mk → (∀ v, v < 4 → mk 305 v = ab_qv z g p v) → ab_MR2 mk (ab_rs (ab_qv z g p) 4) → ev_J w ev_m207 (ev_nd 207) Q 84 [ev_vr 277, ev_vn p, ev_vi x2, o3] [] mk t := by
    intro mk x2 o3 fk qk Rk
    have hlen := ab_rs_len (ab_qv z g p) 4
    have i46 := ev_toI Rk.1 (by omega)
    have hrp : ab_rs (ab_qv z g p) 4 = [] ↔ ab_rp (zr z p) 4 = [] := by rw [cn3]; exact List.map_eq_nil_iff
    have i256 : (Int32.ofNat 256).toInt = 256 := by decide
    refine ev_gK A hp [98] 10 ?_
    refine And.intro (fun (h : ¬ (mk 277 46).toInt = 0) => ?_) (fun (h : (mk 277 46).toInt = 0) => ?_)
    · have hne : ¬ ab_rp (zr z p) 4 = [] := fun q => by
        rw [hrp.mpr q] at i46
        exact h i46
      have hbst := l1 hne
      have hmt := ab_mtr_bst (ok := ab_ok2 (ab_qv z g p) (ab_rs (ab_qv z g p) 4)) (rd := zr z p) (rp := ab_rp (zr z p) 4) hpa (fun v d hv _ => cn4 v d hv)
      have loop := ev_lup (P := fun k => ∀ (kk ss : Int32), kk = Int32.ofNat k → ss = Int32.ofNat (ab_mtr (ab_ok2 (ab_qv z g p) (ab_rs (ab_qv z g p) 4)) (zA z) k) → ev_J w ev_m207 (ev_nd 207) Q 101 [ev_vr 277, ev_vn p, ev_vi ss, ev_vi kk] [] mk t) 256 (by
        intro k hk ih kk ss ekk ess
        subst ekk ess
        have ek := ev_ofNat_i (n := k) (by omega)
        refine ev_gK A hp [108, 132] 10 ?_
        refine And.intro (fun (h2 : (Int32.ofNat 256).toInt ≤ (Int32.ofNat k).toInt) => ?_) (fun (h2 : (Int32.ofNat k).toInt < (Int32.ofNat 256).toInt) => ?_)
        · have e : k = 256 := by omega
          subst e
          refine ev_gK A hp [] 10 ?_
          have := hQ mk fk
          rw [hbst, ← hmt] at this
          exact this
        · have hk256 : k < 256 := by omega
          have t1 := (ab_mtr_sp (ab_ok2 (ab_qv z g p) (ab_rs (ab_qv z g p) 4)) (zA z) k).2.1
          have t2 := ab_td_le (ab_ok2 (ab_qv z g p) (ab_rs (ab_qv z g p) 4)) (zA z) k 4
          refine ev_gK A hp [101, 132] 20 ?_
          refine And.intro (fun (h3 : (mk 277 46).toInt ≤ 0) => by omega) (fun _ => ?_)
          refine ev_S209 A qk Rk hlen (env mk fk).2 hpa hk256 ?_
          refine ev_S158 A (by omega) (by omega) ?_
          exact ih hk256 _ _ (ev_succ (by omega)) rfl)
      show ev_J w ev_m207 (ev_nd 207) Q 98 [ev_vr 277, ev_vn p, ev_vi x2, o3] [.int (Int32.ofNat 1000)] mk t
      refine ev_gK A hp [101] 10 ?_
      exact loop 0 (by omega) _ _ rfl rfl
    · have he : ab_rp (zr z p) 4 = [] := hrp.mp (List.eq_nil_of_length_eq_zero (by omega))
      have hl := l0 he
      have hq := hQ mk fk
      rw [hl] at hq
      show ev_J w ev_m207 (ev_nd 207) Q 98 [ev_vr 277, ev_vn p, ev_vi x2, o3] [.int (Int32.ofNat 0)] mk t
      refine ev_gK A hp [132] 20 ?_
      refine And.intro (fun _ => ?_) (fun _ => ?_)
      · exact ev_gK A hp [] 10 hq
      · refine And.intro (fun _ => ?_) (fun (h2 : 0 < (mk 277 46).toInt) => by omega)
        exact ev_gK A hp [] 10 hq
  have loop := ev_lup (P := fun v => ∀ (vv : Int32) (mk : ev_Mem) (o3 : Option Value), vv = Int32.ofNat v → ab_frG m mk → (∀ u, u < v → mk 305 u = ab_qv z g p u) → ab_MR2 mk (ab_rs (ab_qv z g p) v) → ev_J w ev_m207 (ev_nd 207) Q 7 [ev_vr 277, ev_vn p, ev_vi vv, o3] [] mk t) 4 (by
    intro v hv ih vv mk o3 evv fk qk Rk
    subst evv
    have ev := ev_ofNat_i (n := v) (by omega)
    obtain ⟨eB, eA⟩ := env mk fk
    refine ev_gK A hp [12, 84] 10 ?_
    refine And.intro (fun (h : (Int32.ofInt 4).toInt ≤ (Int32.ofNat v).toInt) => ?_) (fun (h : (Int32.ofNat v).toInt < (Int32.ofInt 4).toInt) => ?_)
    · have e : v = 4 := by omega
      subst e
      exact h84 mk _ _ fk qk Rk
    have hv4 : v < 4 := by omega
    have nv : (Int32.ofNat v).toNatClampNeg = v := ev_on (by omega)
    have ei : Int32.ofInt 4 * Int32.ofNat p + Int32.ofNat v = Int32.ofNat (4 * p + v) := ev_lin (c := 4) (by omega) (by omega) (by omega)
    refine ev_gK A hp [23] 20 ?_
    refine And.intro (ev_iin ei (by omega) (by decide)) ?_
    show ev_J w ev_m207 (ev_nd 207) Q 23 [ev_vr 277, ev_vn p, ev_vn v, ev_vi (mk 293 (Int32.ofInt 4 * Int32.ofNat p + Int32.ofNat v).toNatClampNeg)] [] mk t
    rw [ev_at ei (by omega), eB.2.2.2.2.1 p hpT v hv4]
    have h67 : ∀ x : Int32, x = ab_qv z g p v → ev_J w ev_m207 (ev_nd 207) Q 67 [ev_vr 277, ev_vn p, ev_vn v, ev_vi (ab_oi (ab_nat (zT z) p v))] [.int x, .int (Int32.ofNat v), .ref 305] mk t := by
      intro x hx
      refine ev_gK A hp [68] 10 ?_
      refine And.intro (ev_oin hv4 (by decide)) ?_
      show ev_J w ev_m207 (ev_nd 207) Q 68 [ev_vr 277, ev_vn p, ev_vn v, ev_vi (ab_oi (ab_nat (zT z) p v))] [] (ev_up mk 305 (Int32.ofNat v).toNatClampNeg x) t
      rw [nv]
      have u1 : ∀ c i, ¬ (c = 305 ∧ i = v) → ev_up mk 305 v x c i = mk c i := fun c i hc => if_neg hc
      have u0 : ev_up mk 305 v x 305 v = ab_qv z g p v := by rw [ev_up_same]; exact hx
      generalize ev_up mk 305 v x = m5 at *
      have R5 : ab_MR2 m5 (ab_rs (ab_qv z g p) v) := ⟨by rw [u1 _ _ (by omega)]; exact Rk.1, fun d hd => by rw [u1 _ _ (by omega)]; exact Rk.2 d hd⟩
      have hlen := ab_rs_len (ab_qv z g p) v
      refine ev_gK A hp [7] 20 ?_
      refine And.intro (ev_oin hv4 (by decide)) ?_
      refine ev_S208 A R5 (by omega) (fun m6 f6 R6 => ?_)
      have e5 : m5 305 (Int32.ofNat v).toNatClampNeg = ab_qv z g p v := by rw [nv]; exact u0
      rw [e5] at R6
      refine ih hv4 _ m6 _ (ev_succ (by omega)) (fun c i z1 z2 z3 => ?_) (fun u hu => ?_) R6
      · rw [f6 c i z1 z3, u1 c i (fun q => z2 q.1)]; exact fk c i z1 z2 z3
      · rw [f6 _ _ (by omega) (by decide)]
        by_cases huv : u = v
        · rw [huv]; exact u0
        · rw [u1 _ _ (by omega)]; exact qk u (by omega)
    refine ev_gK A hp [36, 67] 20 ?_
    refine ev_S141 A eB.2.2.2.2.2.2.1 hok.2.2.2.2.1.1.2.2.2.1 ?_
    refine And.intro (fun h2 => h67 _ ?_) (fun h2 => ?_)
    · have hj : zj z v = false := ab_bi_eq h2
      unfold ab_qv
      rw [hj, if_neg Bool.false_ne_true]
      rfl
    have hj : zj z v = true := ab_bi_neq h2
    cases hn : ab_nat (zT z) p v with
    | none =>
      rw [hn] at h67
      have hqv : ab_qv z g p v = -2 := by unfold ab_qv; rw [hj, if_pos rfl, hn]
      refine ev_gK A hp [67] 20 ?_
      refine And.intro (fun _ => ?_) (fun (h3 : 0 ≤ (-1 : Int32).toInt) => absurd h3 (by decide))
      refine And.intro (fun (h3 : 0 ≤ (-1 : Int32).toInt) => absurd h3 (by decide)) (fun _ => ?_)
      exact h67 _ (by rw [hqv]; rfl)
    | some x =>
      rw [hn] at h67
      obtain ⟨x40, xt, -⟩ := ab_nat_lt hok hv4 hn
      have ex := ev_ofNat_i (n := x) (by omega)
      have hqv : ab_qv z g p v = if zf z x = none then -1 else Int32.ofNat (g x) := by unfold ab_qv; rw [hj, if_pos rfl, hn]
      refine ev_gK A hp [67] 30 ?_
      refine And.intro (fun (h3 : (Int32.ofNat x).toInt < 0) => by omega) (fun _ => ?_)
      refine ev_S149 (R := zR z) A eB.2.1 hok.2.2.1 x40 xt ?_
      refine And.intro (fun h3 => ?_) (fun h3 => h67 _ ?_)
      · have hf : ¬ zf z x = none := of_decide_eq_false (ab_bi_eq h3)
        refine And.intro (fun _ => ?_) (fun (h4 : (Int32.ofNat x).toInt < 0) => by omega)
        refine And.intro (ev_oin x40 (by decide)) ?_
        refine h67 _ ?_
        rw [hqv, if_neg hf]
        exact (congrArg (mk 284) (ev_on (by omega))).trans (eB.2.2.1 x x40 xt)
      · have hf : zf z x = none := of_decide_eq_true (ab_bi_neq h3)
        rw [hqv, if_pos hf]
        rfl)
  refine ⟨Or.inr ⟨277, _, rfl, rfl⟩, ev_m207, rfl, ev_gK A hp [7] 10 ?_⟩
  exact loop 0 (by omega) _ _ _ rfl (fun c i z1 _ _ => if_neg z1) (fun u hu => absurd hu (Nat.not_lt_zero _)) ⟨ev_up_same _ _ _ _, fun d hd => absurd hd (Nat.not_lt_zero _)⟩
/-- changes -/
theorem ev_S206 {x : Int32} (A : ev_all w) (hs : ab_RepM m z) (hok : ab_ok z) (hQ : ab_PM m t true (ab_changes z x) Q) : ev_K w 206 [.ref 277, .int x] m t Q := by
  have hp : ev_prog[206]? = some ev_m206 := rfl
  have c8 := hs.2.2.2.2.2.2.2.1
  obtain ⟨-, -, c3, c4, -, ⟨g, g1, g2, g3⟩, -⟩ := id hs
  have cA := hs.2.2.2.2.2.2.2.2.2.2.2.2
  have kT := hok.2.2.2.2.1.1.1
  have em1 := ev_im1
  -- a throw
  have thr : ab_changes z x = (1, 0, z) → ev_J w ev_m206 (ev_nd 206) Q 19 [ev_vr 277, ev_vi x, none, none] [.int (Int32.ofNat 1), .ref 277] m t := by
    intro e
    rw [e] at hQ
    have i1 : (Int32.ofNat 1).toInt = 1 := by decide
    have fin : ∀ v, Q (.inl (some (.int v))) (ev_up m 277 0 (Int32.ofNat 1)) t := fun v => hQ _ v (ab_RM_th hs _) (fun c i hc => ab_up0 _ _ (by omega)) (ev_up_same _ _ _ _) (fun q => absurd q (Nat.succ_ne_zero _))
    refine ev_gK A hp [69] 20 ?_
    refine And.intro (fun _ => ?_) (fun _ => ?_)
    · exact ev_gK A hp [] 10 (fin _)
    · refine And.intro (fun _ => ?_) (fun (h : (ev_up m 277 0 (Int32.ofNat 1) 277 0).toInt = 0) => by rw [ev_up_same] at h; omega)
      exact ev_gK A hp [] 10 (fin _)
  -- no throw
  have good : ∀ (f : Nat → Nat), f 0 = 0 → (∀ k, k < (zT z).1 → f (k + 1) = if x.toInt = -1 ∨ x.toInt = (k : Int) then f k + ab_lc (zA z) (zr z k) else f k) → ab_changes z x = (0, Int32.ofNat (f (zT z).1), z) → ev_J w ev_m206 (ev_nd 206) Q 19 [ev_vr 277, ev_vi x, none, none] [.int (Int32.ofNat 0), .ref 277] m t := by
    intro f hf0 hfs e
    rw [e] at hQ
    refine ev_gK A hp [26] 10 ?_
    show ev_J w ev_m206 (ev_nd 206) Q 26 [ev_vr 277, ev_vi x, ev_vn 0, ev_vn 0] [] (ev_up m 277 0 (Int32.ofNat 0)) t
    have u1 : ∀ c i, ¬ (c = 277 ∧ i = 0) → ev_up m 277 0 (Int32.ofNat 0) c i = m c i := fun c i h => if_neg h
    have u0 : ev_up m 277 0 (Int32.ofNat 0) 277 0 = Int32.ofNat 0 := ev_up_same _ _ _ _
    generalize ev_up m 277 0 (Int32.ofNat 0) = m1 at *
    have loop := ev_lup (P := fun k => ∀ (kk ss : Int32) (mk : ev_Mem), kk = Int32.ofNat k → ss = Int32.ofNat (f k) → ab_frG m1 mk → ev_J w ev_m206 (ev_nd 206) Q 26 [ev_vr 277, ev_vi x, ev_vi ss, ev_vi kk] [] mk t) (zT z).1 (by
      intro k hk ih kk ss mk ekk ess fk
      subst ekk ess
      have ek := ev_ofNat_i (n := k) (by omega)
      have vv : ∀ c i, ¬ (c = 277 ∧ (i = 0 ∨ i = 46)) → c ≠ 305 → c ≠ 306 → mk c i = m c i := fun c i z1 z2 z3 => by rw [fk c i (by omega) z2 z3]; exact u1 c i (by omega)
      have v0 : mk 277 0 = Int32.ofNat 0 := by rw [fk _ _ (by omega) (by decide) (by decide)]; exact u0
      have hB : ab_RB mk z g := ab_RB_cg (fun c i hc => vv c i (by unfold ab_gT ab_gW at hc; omega) (by unfold ab_gT ab_gW at hc; omega) (by unfold ab_gT ab_gW at hc; omega)) ⟨c3, c4, g1, c8⟩
      have hA : ab_MA mk (zA z) := fun v hv => by rw [vv _ _ (by omega) (by decide) (by decide)]; exact cA v hv
      have e22 := ev_toI hB.2.2.2.1 (by omega)
      refine ev_gK A hp [34, 69] 10 ?_
      refine And.intro (fun (h : (mk 277 22).toInt ≤ (Int32.ofNat k).toInt) => ?_) (fun (h : (Int32.ofNat k).toInt < (mk 277 22).toInt) => ?_)
      · have e : k = (zT z).1 := by omega
        subst e
        refine ev_gK A hp [] 10 ?_
        exact hQ mk _ (ab_RM_0 hs (fun c i hc => vv c i (fun q => hc (by unfold ab_sM; omega)) (fun q => hc (by unfold ab_sM; omega)) (fun q => hc (by unfold ab_sM; omega)))) (fun c i hc => vv c i (by omega) (by omega) (by omega)) v0 (fun _ => rfl)
      have hkT : k < (zT z).1 := by omega
      have hfk := hfs k hkT
      have h62 : ∀ (y : Int32) (m2 : ev_Mem), y = Int32.ofNat (f (k + 1)) → ab_frG m1 m2 → ev_J w ev_m206 (ev_nd 206) Q 62 [ev_vr 277, ev_vi x, ev_vn (f k), ev_vn k] [.int y] m2 t := by
        intro y m2 hy f2
        refine ev_gK A hp [26] 10 ?_
        exact ih hkT _ _ m2 (ev_succ (by omega)) hy f2
      have h51 : x.toInt = -1 ∨ x.toInt = (k : Int) → ev_J w ev_m206 (ev_nd 206) Q 51 [ev_vr 277, ev_vi x, ev_vn (f k), ev_vn k] [] mk t := by
        intro hc
        rw [if_pos hc] at hfk
        refine ev_gK A hp [62] 20 ?_
        refine ev_S207 A hB g2 g3 hA hok hkT (fun m2 f2 => ?_)
        refine h62 _ m2 ?_ (fun c i z1 z2 z3 => (f2 c i z1 z2 z3).trans (fk c i z1 z2 z3))
        rw [hfk]
        exact (Int32.ofNat_add _ _).symm
      refine ev_gK A hp [51, 62, 69] 20 ?_
      refine And.intro (fun (h2 : ¬ (mk 277 0).toInt = 0) => by rw [v0] at h2; exact absurd rfl h2) (fun _ => ?_)
      refine And.intro (fun (h2 : x.toInt = (Int32.ofInt (-1)).toInt) => h51 (Or.inl (by omega))) (fun (h2 : ¬ x.toInt = (Int32.ofInt (-1)).toInt) => ?_)
      refine And.intro (fun (h3 : ¬ x.toInt = (Int32.ofNat k).toInt) => ?_) (fun (h3 : x.toInt = (Int32.ofNat k).toInt) => h51 (Or.inr (by omega)))
      refine h62 _ mk ?_ fk
      rw [hfk, if_neg (by omega)])
    exact loop 0 (by omega) _ _ m1 rfl (by rw [hf0]) (fun _ _ _ _ _ => rfl)
  refine ⟨Or.inr ⟨277, _, rfl, rfl⟩, ev_m206, rfl, ev_gK A hp [19] 20 ?_⟩
  refine And.intro (fun (h : x.toInt = (Int32.ofInt (-1)).toInt) => ?_) (fun (h : ¬ x.toInt = (Int32.ofInt (-1)).toInt) => ?_)
  · have hx : x.toInt = -1 := by omega
    refine good (zc z) rfl (fun k _ => ?_) ?_
    · rw [if_pos (Or.inl hx)]; rfl
    · unfold ab_changes; rw [if_pos hx]
  · have hx : ¬ x.toInt = -1 := by omega
    refine ev_S171 A c8 hok.2.2.2.2.1.1 ?_
    cases hpi : ab_pi z x with
    | none => exact And.intro (fun _ => thr (by unfold ab_changes; rw [if_neg hx, hpi])) (fun h => absurd ev_eq00 h)
    | some p =>
      refine And.intro (fun h => absurd (h : (1 : Int32).toInt = 0) ev_ne10) (fun _ => ?_)
      have hp2 : x.toInt = (p : Int) ∧ p < (zT z).1 := by
        unfold ab_pi at hpi
        split at hpi
        · rename_i hh
          cases hpi
          exact ⟨by omega, by omega⟩
        · cases hpi
      refine good (fun k => if p < k then ab_lc (zA z) (zr z p) else 0) (if_neg (Nat.not_lt_zero _)) (fun k hk => ?_) ?_
      · show (if p < k + 1 then ab_lc (zA z) (zr z p) else 0) = if x.toInt = -1 ∨ x.toInt = (k : Int) then (if p < k then ab_lc (zA z) (zr z p) else 0) + ab_lc (zA z) (zr z k) else (if p < k then ab_lc (zA z) (zr z p) else 0)
        by_cases hpk : k = p
        · subst hpk
          rw [if_pos (Or.inr hp2.1), if_pos (show k < k + 1 by omega), if_neg (show ¬ k < k by omega), Nat.zero_add]
        · rw [if_neg (show ¬ (x.toInt = -1 ∨ x.toInt = (k : Int)) by omega)]
          by_cases hlt : p < k
          · rw [if_pos (show p < k + 1 by omega), if_pos hlt]
          · rw [if_neg (show ¬ p < k + 1 by omega), if_neg hlt]
      · unfold ab_changes
        rw [if_neg hx, hpi]
        dsimp only
        rw [if_pos hp2.2]
end EvMchanges
