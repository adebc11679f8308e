/-! the class's sheet: how it is written -/
section EvSheet
variable {w : ev_W} {Q : ev_QT} {m : ev_Mem} {t : ev_H}
theorem ev_i2c0 {n : Nat} (h : n < 65536) : ((Int32.ofNat n).toUInt32 % 65536).toInt32 = Int32.ofNat n := by
  have e : (Int32.ofNat n).toUInt32 = UInt32.ofNat n := rfl
  rw [e]
  have e2 : UInt32.ofNat n % 65536 = UInt32.ofNat n := by
    apply UInt32.toNat_inj.mp
    rw [UInt32.toNat_mod, UInt32.toNat_ofNat']
    have : (65536 : UInt32).toNat = 65536 := by decide
    rw [this]
    omega
  rw [e2]
  rfl
theorem ev_chN {n : Nat} (h : n < 65536) : ev_ch (Int32.ofNat n) := by
  have e : (Int32.ofNat n).toUInt32 = UInt32.ofNat n := rfl
  have e2 : (UInt32.ofNat n).toUInt16.toUInt32 = UInt32.ofNat n := by
    apply UInt32.toNat_inj.mp
    rw [UInt16.toNat_toUInt32, UInt32.toNat_toUInt16, UInt32.toNat_ofNat']
    omega
  show Value.int (Int32.ofNat n).toUInt32.toUInt16.toUInt32.toInt32 = .int (Int32.ofNat n)
  rw [e, e2]
  rfl
theorem ev_i2cr (x : Int32) : ∃ n, n < 65536 ∧ (x.toUInt32 % 65536).toInt32 = Int32.ofNat n := by
  refine ⟨(x.toUInt32 % 65536).toNat, ?_, ?_⟩
  · rw [UInt32.toNat_mod]
    have : (65536 : UInt32).toNat = 65536 := by decide
    rw [this]
    omega
  · have e : ∀ u : UInt32, u.toInt32 = Int32.ofNat u.toNat := by
      intro u
      have h : UInt32.ofNat u.toNat = u := UInt32.ofNat_toNat
      exact (congrArg UInt32.toInt32 h).symm.trans rfl
    exact e _
def ab_c16 (v : Int32) : Prop := 0 ≤ v.toInt ∧ v.toInt < 65536
theorem ab_c16_ch {v : Int32} (h : ab_c16 v) : ev_ch v := by
  have h1 := ev_chN (n := v.toInt.toNat) (by have := h.1; have := h.2; omega)
  rw [ev_ofNat_toNat h.1] at h1
  exact h1
theorem ab_c16N {n : Nat} (h : n < 65536) : ab_c16 (Int32.ofNat n) := by
  have e := ev_ofNat_i (n := n) (by omega)
  exact ⟨by omega, by omega⟩
/-- what stands on the sheet -/
def ab_O (m : ev_Mem) (o : ab_Ls) : Prop := m 217 1 = Int32.ofNat o.length ∧ ∀ k, k < o.length → m 218 k = o.getD k 0
def ab_frs (m m' : ev_Mem) : Prop := ∀ c i, c ≠ 217 → c ≠ 218 → m' c i = m c i
theorem ab_frs_rfl {m : ev_Mem} : ab_frs m m := fun _ _ _ _ => rfl
theorem ab_frs_tr {a b c : ev_Mem} (h1 : ab_frs a b) (h2 : ab_frs b c) : ab_frs a c := fun k i z1 z2 => (h2 k i z1 z2).trans (h1 k i z1 z2)
/-- Sheet.put -/
theorem ev_S64 {c : Int32} {o : ab_Ls} (A : ev_all w) (hO : ab_O m o) (hl : o.length < 1920) (hc : ab_c16 c) (hQ : ∀ m', ab_frs m m' → ab_O m' (o ++ [c]) → Q (.inl none) m' t) : ev_K w 64 [.ref 217, .int c] m t Q := by
  have hp : ev_prog[64]? = some ev_m64 := rfl
  have e1 := hO.1
  have el := ev_toI e1 (by omega)
  have e19 := ev_ofNat_i (n := 1920) (by omega)
  refine ⟨Or.inr ⟨217, _, rfl, rfl⟩, ev_m64, rfl, ev_gK A hp [] 30 ?_⟩
  refine And.intro (fun (h : (Int32.ofNat 1920).toInt ≤ (m 217 1).toInt) => by omega) (fun h => ?_)
  refine And.intro (ev_iin e1 hl (by decide)) ?_
  refine hQ _ (fun k i z1 z2 => by rw [ev_up_cell _ z1, ev_up_cell _ z2]) ⟨?_, fun k hk => ?_⟩
  · rw [ev_up_same, ev_up_cell _ (by decide), e1, List.length_append, List.length_singleton]
    exact ev_succ (by omega)
  · rw [ev_up_cell _ (by decide), ev_at e1 (by omega), ev_ch_nar (ab_c16_ch hc)]
    rw [List.length_append, List.length_singleton] at hk
    by_cases hkl : k = o.length
    · rw [hkl, ev_up_same, List.getD_eq_getElem?_getD, List.getElem?_append_right (Nat.le_refl _), Nat.sub_self]; rfl
    · rw [ev_up_idx _ _ hkl, ab_getD_app1 (by omega)]; exact hO.2 k (by omega)
/-- Sheet.putNumber -/
def ab_nm (p : Nat) : ab_Ls := if 10 ≤ p then [Int32.ofNat (48 + p / 10), Int32.ofNat (48 + p % 10)] else [Int32.ofNat (48 + p % 10)]
theorem ev_S63 {p : Nat} {o : ab_Ls} (A : ev_all w) (hO : ab_O m o) (hp24 : p < 24) (hl : o.length + (ab_nm p).length ≤ 1920) (hQ : ∀ m', ab_frs m m' → ab_O m' (o ++ ab_nm p) → Q (.inl none) m' t) : ev_K w 63 [.ref 217, .int (Int32.ofNat p)] m t Q := by
  have hp : ev_prog[63]? = some ev_m63 := rfl
  have ep := ev_ofNat_i (n := p) (by omega)
  have i10 : ((Int8.ofInt 10).toInt32).toInt = 10 := by decide
  have n10 : ¬ (10 : Int32) = 0 := by decide
  have h18 : ∀ (m1 : ev_Mem) (o1 : ab_Ls), ab_frs m m1 → ab_O m1 o1 → o1.length < 1920 → (∀ m', ab_frs m m' → ab_O m' (o1 ++ [Int32.ofNat (48 + p % 10)]) → Q (.inl none) m' t) → ev_J w ev_m63 (ev_nd 63) Q 18 [ev_vr 217, ev_vn p] [] m1 t := by
    intro m1 o1 hf hO1 hl1 hQ1
    refine ev_gK A hp [] 5 ?_
    refine And.intro n10 ?_
    show ev_J w ev_m63 (ev_nd 63) Q 25 [ev_vr 217, ev_vn p] [.int (Int32.ofNat p - Int32.ofNat p / 10 * 10), .int (Int32.ofNat 48), .ref 217] m1 t
    rw [ev_r10 (by omega)]
    refine ev_gK A hp [] 1 ?_
    show ev_J w ev_m63 (ev_nd 63) Q 26 [ev_vr 217, ev_vn p] [.int (Int32.ofNat 48 + Int32.ofNat (p % 10)), .ref 217] m1 t
    rw [ev_addN (by omega)]
    refine ev_gK A hp [] 1 ?_
    show ev_J w ev_m63 (ev_nd 63) Q 27 [ev_vr 217, ev_vn p] [.int ((Int32.ofNat (48 + p % 10)).toUInt32 % 65536).toInt32, .ref 217] m1 t
    rw [ev_i2c0 (by omega)]
    refine ev_gK A hp [] 10 ?_
    exact ev_S64 A hO1 hl1 (ab_c16N (by omega)) (fun m' z1 z2 => hQ1 m' (ab_frs_tr hf z1) z2)
  unfold ab_nm at hQ hl
  refine ⟨Or.inr ⟨217, _, rfl, rfl⟩, ev_m63, rfl, ev_gK A hp [18, 6] 10 ?_⟩
  refine And.intro (fun (h : (Int32.ofNat p).toInt < ((Int8.ofInt 10).toInt32).toInt) => ?_) (fun (h : ((Int8.ofInt 10).toInt32).toInt ≤ (Int32.ofNat p).toInt) => ?_)
  · rw [if_neg (by omega)] at hQ hl
    have hl1 : o.length + 1 ≤ 1920 := hl
    exact h18 m o ab_frs_rfl hO (by omega) hQ
  · rw [if_pos (by omega)] at hQ hl
    have hl1 : o.length + 2 ≤ 1920 := hl
    show ev_J w ev_m63 (ev_nd 63) Q 6 [ev_vr 217, ev_vn p] [] m t
    refine ev_gK A hp [] 4 ?_
    show ev_J w ev_m63 (ev_nd 63) Q 12 [ev_vr 217, ev_vn p] [.int (Int32.ofInt 10), .int (Int32.ofNat p), .int (Int32.ofNat 48), .ref 217] m t
    refine ev_gK A hp [] 1 ?_
    refine And.intro n10 ?_
    show ev_J w ev_m63 (ev_nd 63) Q 13 [ev_vr 217, ev_vn p] [.int (Int32.ofNat p / 10), .int (Int32.ofNat 48), .ref 217] m t
    rw [ev_d10 (by omega)]
    refine ev_gK A hp [] 1 ?_
    show ev_J w ev_m63 (ev_nd 63) Q 14 [ev_vr 217, ev_vn p] [.int (Int32.ofNat 48 + Int32.ofNat (p / 10)), .ref 217] m t
    rw [ev_addN (by omega)]
    refine ev_gK A hp [] 1 ?_
    show ev_J w ev_m63 (ev_nd 63) Q 15 [ev_vr 217, ev_vn p] [.int ((Int32.ofNat (48 + p / 10)).toUInt32 % 65536).toInt32, .ref 217] m t
    rw [ev_i2c0 (by omega)]
    refine ev_gK A hp [18] 10 ?_
    refine ev_S64 A hO (by omega) (ab_c16N (by omega)) (fun m' z1 z2 => ?_)
    refine h18 m' _ z1 z2 (by rw [List.length_append, List.length_singleton]; omega) (fun m2 y1 y2 => hQ m2 y1 ?_)
    rw [List.append_assoc] at y2
    exact y2
/-- Sheet.putLetters -/
theorem ev_S66 {x c : Nat} {l o : ab_Ls} (A : ev_all w) (hx : ev_isL x c) (hx1 : x + 1 < 217 ∨ 218 < x) (hc : c < 100) (hL : ab_L m x l) (hlc : l.length ≤ c) (hz : ab_az l) (hO : ab_O m o) (hl : o.length + l.length ≤ 1920) (hQ : ∀ m', ab_frs m m' → ab_O m' (o ++ l) → Q (.inl none) m' t) : ev_K w 66 [.ref 217, .ref x] m t Q := by
  have hp : ev_prog[66]? = some ev_m66 := rfl
  have loop := ev_lup (P := fun k => ∀ (kk : Int32) (mk : ev_Mem), kk = Int32.ofNat k → ab_frs m mk → ab_O mk (o ++ l.take k) → ev_J w ev_m66 (ev_nd 66) Q 2 [ev_vr 217, ev_vr x, ev_vi kk] [] mk t) l.length (by
    intro k hk ih kk mk ekk hf hOk
    have ek := ev_toI ekk (by omega)
    have e1 : (mk x 1).toInt = (l.length : Int) := by rw [hf _ _ (by omega) (by omega)]; exact hL.1
    refine ev_gK A hp [2] 20 ?_
    refine ev_S5 A hx ?_
    refine And.intro (fun (h : (mk x 1).toInt ≤ kk.toInt) => ?_) (fun (h : kk.toInt < (mk x 1).toInt) => ?_)
    · rw [List.take_of_length_le (by omega)] at hOk
      exact hQ mk hf hOk
    · have hkl : k < l.length := by omega
      have hv : mk (x + 1) kk.toNatClampNeg = l.getD k 0 := by
        rw [ev_at ekk (by omega), hf _ _ (by omega) (by omega)]
        have := hL.2 k hkl
        rwa [Nat.zero_add] at this
      have haz := hz _ (ab_getD_mem hkl)
      have hc16 : ab_c16 (l.getD k 0) := ⟨by omega, by omega⟩
      refine ev_S6 A hx (ev_iin ekk (by omega) (by omega)) (by rw [hv]; exact ab_c16_ch hc16) ?_
      rw [hv]
      refine ev_S64 A hOk (by rw [List.length_append, List.length_take]; omega) hc16 (fun m' z1 z2 => ?_)
      refine ih hkl _ m' (by rw [ekk]; exact ev_succ (by omega)) (ab_frs_tr hf z1) ?_
      rw [ab_take_succ (d := 0) hkl, ← List.append_assoc]
      exact z2)
  refine ⟨Or.inr ⟨217, _, rfl, rfl⟩, ev_m66, rfl, ev_gK A hp [2] 20 ?_⟩
  exact loop 0 (by omega) _ m rfl ab_frs_rfl (by rw [List.take_zero, List.append_nil]; exact hO)
/-- a reading -/
def ab_rdf (f : Option ab_Ls) : ab_Ls := match f with
  | none => [63]
  | some [] => [46]
  | some (c :: l) => c :: l
def ab_rd (fo : Nat → Option ab_Ls) (x : Option Nat) : ab_Ls := match x with
  | none => [45]
  | some x => ab_rdf (fo x)
theorem ab_rd_len {fo : Nat → Option ab_Ls} {x : Option Nat} (h : ∀ y, x = some y → ab_ol (fo y) ≤ 12) : (ab_rd fo x).length ≤ 12 := by
  unfold ab_rd
  cases x with
  | none => exact (by decide : 1 ≤ 12)
  | some y =>
    have h1 := h y rfl
    show (ab_rdf (fo y)).length ≤ 12
    unfold ab_rdf
    cases hf : fo y with
    | none => exact (by decide : 1 ≤ 12)
    | some l =>
      cases l with
      | nil => exact (by decide : 1 ≤ 12)
      | cons c l => rw [hf] at h1; exact h1
/-- Sheet.putReading -/
theorem ev_S65 {x : Option Nat} {fo : Nat → Option ab_Ls} {o : ab_Ls} (A : ev_all w) (hx : ∀ y, x = some y → y < 40 ∧ ab_th m y = true) (hFO : ab_FO m fo) (haz : ∀ y l, y < 40 → ab_th m y = true → fo y = some l → ab_az l) (hO : ab_O m o) (hl : o.length + (ab_rd fo x).length ≤ 1920) (hQ : ∀ m', ab_frs m m' → ab_O m' (o ++ ab_rd fo x) → Q (.inl none) m' t) : ev_K w 65 [.ref 217, .ref 40, .int (ab_oi x)] m t Q := by
  have hp : ev_prog[65]? = some ev_m65 := rfl
  have em1 := ev_im1
  refine ⟨Or.inr ⟨217, _, rfl, rfl⟩, ev_m65, rfl, ev_gK A hp [14] 20 ?_⟩
  cases x with
  | none =>
    refine And.intro (fun (h : ¬ (-1 : Int32).toInt = (-1 : Int32).toInt) => absurd rfl h) (fun h => ?_)
    have hl1 : o.length + 1 ≤ 1920 := hl
    exact ev_S64 (c := 45) A hO (by omega) (by unfold ab_c16; decide) hQ
  | some y =>
    obtain ⟨hy, hyt⟩ := hx y rfl
    have ey := ev_ofNat_i (n := y) (by omega)
    obtain ⟨hF, hol⟩ := hFO y hy hyt
    refine And.intro (fun h => ?_) (fun (h : (Int32.ofNat y).toInt = (Int32.ofInt (-1)).toInt) => by omega)
    show ev_J w ev_m65 (ev_nd 65) Q 14 [ev_vr 217, ev_vr 40, ev_vn y] [] m t
    refine ev_gK A hp [31] 20 ?_
    refine ev_S21 A hy ?_
    refine And.intro (fun h => ?_) (fun h => ?_)
    · have h2 := of_decide_eq_false (ab_bi_eq h)
      show ev_J w ev_m65 (ev_nd 65) Q 31 [ev_vr 217, ev_vr 40, ev_vn y] [] m t
      cases hfy : fo y with
      | none => rw [hfy] at hF; exact absurd hF h2
      | some l =>
        rw [hfy] at hF hol
        have hL : ab_L m (45 + 4 * y) l := hF
        have hl12 : l.length ≤ 12 := hol
        have hrd : ab_rd fo (some y) = ab_rdf (some l) := by show ab_rdf (fo y) = _; rw [hfy]
        rw [hrd] at hl
        refine ev_gK A hp [51] 20 ?_
        refine ev_S22 A hy ?_
        refine ev_S5 A (ev_isLf hy) ?_
        have hL1 := hL.1
        refine And.intro (fun (h : ¬ (m (45 + 4 * y) 1).toInt = 0) => ?_) (fun (h : (m (45 + 4 * y) 1).toInt = 0) => ?_)
        · show ev_J w ev_m65 (ev_nd 65) Q 51 [ev_vr 217, ev_vr 40, ev_vn y] [] m t
          refine ev_gK A hp [] 20 ?_
          refine ev_S22 A hy ?_
          have e0 : ab_rdf (some l) = l := by
            cases l with
            | nil => exact absurd hL1 h
            | cons c l => rfl
          rw [e0] at hl
          refine ev_S66 A (ev_isLf hy) (by omega) (by decide) hL hl12 (haz y l hy hyt hfy) hO hl ?_
          have e2 : ab_rd fo (some y) = l := hrd.trans e0
          rw [e2] at hQ
          exact hQ
        · have e2 : l = [] := List.eq_nil_of_length_eq_zero (by omega)
          rw [e2] at hl
          have hl1 : o.length + 1 ≤ 1920 := hl
          rw [hrd, e2] at hQ
          exact ev_S64 (c := 46) A hO (by omega) (by unfold ab_c16; decide) hQ
    · have h2 := of_decide_eq_true (ab_bi_neq h)
      have hfy : fo y = none := by
        cases hfy : fo y with
        | none => rfl
        | some l =>
          rw [hfy] at hF
          have := hF.1
          omega
      have hrd : ab_rd fo (some y) = [63] := by show ab_rdf (fo y) = _; rw [hfy]; rfl
      rw [hrd] at hQ hl
      have hl1 : o.length + 1 ≤ 1920 := hl
      exact ev_S64 (c := 63) A hO (by omega) (by unfold ab_c16; decide) hQ
end EvSheet
