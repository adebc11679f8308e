/-! the class's finder of blocks -/
section EvBlocks
variable {w : ev_W} {Q : ev_QT} {m : ev_Mem} {t : ev_H}
/-- Math.max -/
theorem ev_S1 {a b : Nat} (A : ev_all w) (ha : a < 100000) (hb : b < 100000) (hQ : Q (.inl (some (.int (Int32.ofNat (max a b))))) m t) : ev_K w 1 [.int (Int32.ofNat a), .int (Int32.ofNat b)] m t Q := by
  have hp : ev_prog[1]? = some ev_m1 := rfl
  have ea := ev_ofNat_i (n := a) (by omega)
  have eb := ev_ofNat_i (n := b) (by omega)
  refine ⟨Or.inl rfl, ev_m1, rfl, ev_gK A hp [] 10 ?_⟩
  refine And.intro (fun (h : (Int32.ofNat a).toInt < (Int32.ofNat b).toInt) => ?_) (fun (h : (Int32.ofNat b).toInt ≤ (Int32.ofNat a).toInt) => ?_)
  · rw [Nat.max_eq_right (by omega)] at hQ
    exact hQ
  · rw [Nat.max_eq_left (by omega)] at hQ
    exact hQ
def ab_nb (T : ab_T) (u i v : Nat) : Option Nat := match (List.range T.1).find? (fun p => decide (T.2.1 p u = some i)) with
  | some p => T.2.1 p v
  | none => none
theorem ab_nb_lt {T : ab_T} (hok : ab_Tok T) {u i v j : Nat} (h : ab_nb T u i v = some j) : j < 10 := by
  unfold ab_nb at h
  split at h
  · exact hok.2.1 _ _ _ h
  · cases h
/-- which words are equal -/
def ab_EQ (m : ev_Mem) (eq : Nat → Nat → Bool) : Prop := ∀ x y, x < 40 → y < 40 → ab_th m x = true → ab_th m y = true → ((m 205 x).toInt = (m 205 y).toInt ↔ eq x y = true)
def ab_mv (T : ab_T) (th : Nat → Bool) (fo : Nat → Option ab_Ls) (eq : Nat → Nat → Bool) (x y : Nat) : Bool := th x && th y && (fo x).isSome && eq x y && decide (¬ ab_nb T (x / 10) (x % 10) (y / 10) = some (y % 10))
/-- BlockFinder.isMoved -/
theorem ev_S89 {x y : Nat} {T : ab_T} {fo : Nat → Option ab_Ls} {eq : Nat → Nat → Bool} (A : ev_all w) (hE : ab_E m T fo) (hEq : ab_EQ m eq) (hx : x < 40) (hy : y < 40) (hQ : Q (.inl (some (.int (ab_bi (ab_mv T (ab_th m) fo eq x y))))) m t) : ev_K w 89 [.ref 209, .ref 40, .int (Int32.ofNat x), .int (Int32.ofNat y)] m t Q := by
  have hp : ev_prog[89]? = some ev_m89 := rfl
  have n10 : ¬ (10 : Int32) = 0 := by decide
  have no : ab_mv T (ab_th m) fo eq x y = false → Q (.inl (some (.int 0))) m t := fun h => by rw [h] at hQ; exact hQ
  refine ⟨Or.inl rfl, ev_m89, rfl, ev_gK A hp [35] 30 ?_⟩
  refine ev_S24 A hx ?_
  refine And.intro (fun h => ⟨rfl, no (by unfold ab_mv; rw [ab_bi_eq h]; rfl)⟩) (fun h => ?_)
  have hxt := ab_bi_neq h
  refine ev_S24 A hy ?_
  refine And.intro (fun h => ⟨rfl, no (by unfold ab_mv; rw [hxt, ab_bi_eq h]; rfl)⟩) (fun h => ?_)
  have hyt := ab_bi_neq h
  obtain ⟨hF, -⟩ := hE.2.2.1 x hx hxt
  have hgap : decide ((m (45 + 4 * x) 1).toInt = -1) = !(fo x).isSome := by
    cases hfx : fo x with
    | none => rw [hfx] at hF; exact decide_eq_true hF
    | some l =>
      rw [hfx] at hF
      have hL1 : (m (45 + 4 * x) 1).toInt = (l.length : Int) := hF.1
      exact decide_eq_false (by omega)
  refine ev_S21 A hx ?_
  rw [hgap]
  refine And.intro (fun h => ?_) (fun h => ?_)
  · have h2 := ab_bi_ne h
    have h3 : (fo x).isSome = false := by cases hb : (fo x).isSome <;> simp_all
    exact ⟨rfl, no (by unfold ab_mv; rw [hxt, hyt, h3]; rfl)⟩
  have h2 := ab_bi_nne h
  have h3 : (fo x).isSome = true := by cases hb : (fo x).isSome <;> simp_all
  refine ev_S25 (a := some x) (b := some y) A (fun z hz => by cases hz; exact hx) (fun z hz => by cases hz; exact hy) ?_
  have heq : ab_eqm m 205 (some x) (some y) = eq x y := by
    have h4 := hEq x y hx hy hxt hyt
    show decide ((m 205 x).toInt = (m 205 y).toInt) = eq x y
    cases hb : eq x y with
    | true => exact decide_eq_true (h4.mpr hb)
    | false => exact decide_eq_false (fun z => by rw [h4.mp z] at hb; cases hb)
  rw [heq]
  refine And.intro (fun h => ?_) (fun h => ⟨rfl, no (by unfold ab_mv; rw [hxt, hyt, h3, ab_bi_nne h]; rfl)⟩)
  have h5 := ab_bi_ne h
  have hmv : ab_mv T (ab_th m) fo eq x y = decide (¬ ab_nb T (x / 10) (x % 10) (y / 10) = some (y % 10)) := by unfold ab_mv; rw [hxt, hyt, h3, h5]; rfl
  rw [hmv] at hQ
  show ev_J w ev_m89 (ev_nd 89) Q 35 [ev_vr 209, ev_vr 40, ev_vn x, ev_vn y] [] m t
  refine ev_gK A hp [] 11 ?_
  refine And.intro n10 (And.intro n10 (And.intro n10 ?_))
  show ev_K w 48 [.ref 209, .int (Int32.ofNat x / 10), .int (Int32.ofNat x - Int32.ofNat x / 10 * 10), .int (Int32.ofNat y / 10)] m t _
  rw [ev_r10 (by omega), ev_d10 (by omega), ev_d10 (by omega)]
  refine ev_S48 A hE.1 hE.2.1 (by omega) (by omega) (by omega) ?_
  show ev_J w ev_m89 (ev_nd 89) Q 51 [ev_vr 209, ev_vr 40, ev_vn x, ev_vn y] [.int (ab_oi (ab_nb T (x / 10) (x % 10) (y / 10)))] m t
  refine ev_gK A hp [] 3 ?_
  refine And.intro n10 ?_
  show ev_J w ev_m89 (ev_nd 89) Q 55 [ev_vr 209, ev_vr 40, ev_vn x, ev_vn y] [.int (Int32.ofNat y - Int32.ofNat y / 10 * 10), .int (ab_oi (ab_nb T (x / 10) (x % 10) (y / 10)))] m t
  rw [ev_r10 (by omega)]
  refine ev_gK A hp [] 10 ?_
  refine And.intro (fun (h : (ab_oi (ab_nb T (x / 10) (x % 10) (y / 10))).toInt = (Int32.ofNat (y % 10)).toInt) => ?_) (fun (h : ¬ (ab_oi (ab_nb T (x / 10) (x % 10) (y / 10))).toInt = (Int32.ofNat (y % 10)).toInt) => ?_)
  · have h6 : ab_nb T (x / 10) (x % 10) (y / 10) = some (y % 10) := ab_oi_inj (fun z hz => by have := ab_nb_lt hE.2.1 hz; omega) (fun z hz => by cases hz; omega) (h.trans rfl)
    rw [decide_eq_false (fun z => z h6)] at hQ
    exact ⟨rfl, hQ⟩
  · have h7 : ¬ ab_nb T (x / 10) (x % 10) (y / 10) = some (y % 10) := fun z => h (by rw [z]; rfl)
    rw [decide_eq_true h7] at hQ
    exact ⟨rfl, hQ⟩
def ab_cnt (g : Nat → Bool) : Nat → Nat → Nat
  | 0, _ => 0
  | n + 1, k => if g k = true then ab_cnt g n (k + 1) + 1 else 0
theorem ab_cnt_le (g : Nat → Bool) : ∀ n k, ab_cnt g n k ≤ n
  | 0, _ => Nat.le_refl _
  | n + 1, k => by
    have h := ab_cnt_le g n (k + 1)
    rw [ab_cnt]
    split <;> omega
/-- BlockFinder.movedRun -/
theorem ev_S90 {x y : Nat} {T : ab_T} {fo : Nat → Option ab_Ls} {eq : Nat → Nat → Bool} (A : ev_all w) (hE : ab_E m T fo) (hEq : ab_EQ m eq) (hx : x < 40) (hy : y < 40) (hQ : Q (.inl (some (.int (Int32.ofNat (ab_cnt (fun n => ab_mv T (ab_th m) fo eq (x + n) (y + n)) (10 - max (x % 10) (y % 10)) 0))))) m t) : ev_K w 90 [.ref 209, .ref 40, .int (Int32.ofNat x), .int (Int32.ofNat y)] m t Q := by
  have hp : ev_prog[90]? = some ev_m90 := rfl
  have n10 : ¬ (10 : Int32) = 0 := by decide
  obtain ⟨M, hM⟩ : ∃ M, 10 - max (x % 10) (y % 10) = M := ⟨_, rfl⟩
  have hMb : M ≤ 10 ∧ x % 10 + M ≤ 10 ∧ y % 10 + M ≤ 10 := by omega
  rw [hM] at hQ
  have eM := ev_ofNat_i (n := M) (by omega)
  have loop := ev_lup (P := fun k => ∀ kk : Int32, kk = Int32.ofNat k → ab_cnt (fun n => ab_mv T (ab_th m) fo eq (x + n) (y + n)) M 0 = k + ab_cnt (fun n => ab_mv T (ab_th m) fo eq (x + n) (y + n)) (M - k) k → ev_J w ev_m90 (ev_nd 90) Q 19 [ev_vr 209, ev_vr 40, ev_vn x, ev_vn y, ev_vn M, ev_vi kk] [] m t) M (by
    intro k hk ih kk ekk hc
    subst ekk
    have ek := ev_ofNat_i (n := k) (by omega)
    refine ev_gK A hp [26, 48] 10 ?_
    refine And.intro (fun (h : (Int32.ofNat M).toInt ≤ (Int32.ofNat k).toInt) => ?_) (fun (h : (Int32.ofNat k).toInt < (Int32.ofNat M).toInt) => ?_)
    · rw [(by omega : M - k = 0), ab_cnt] at hc
      rw [hc] at hQ
      exact ev_gK A hp [] 10 hQ
    · obtain ⟨j, hj⟩ : ∃ j, M - k = j + 1 := ⟨M - k - 1, by omega⟩
      rw [hj, ab_cnt] at hc
      refine ev_gK A hp [] 5 ?_
      show ev_J w ev_m90 (ev_nd 90) Q 32 [ev_vr 209, ev_vr 40, ev_vn x, ev_vn y, ev_vn M, ev_vn k] [.int (Int32.ofNat x + Int32.ofNat k), .ref 40, .ref 209] m t
      rw [ev_addN (by omega)]
      refine ev_gK A hp [] 3 ?_
      show ev_J w ev_m90 (ev_nd 90) Q 36 [ev_vr 209, ev_vr 40, ev_vn x, ev_vn y, ev_vn M, ev_vn k] [.int (Int32.ofNat y + Int32.ofNat k), .int (Int32.ofNat (x + k)), .ref 40, .ref 209] m t
      rw [ev_addN (by omega)]
      refine ev_gK A hp [19, 48] 10 ?_
      refine ev_S89 A hE hEq (by omega) (by omega) ?_
      refine And.intro (fun h => ?_) (fun h => ?_)
      · rw [if_neg (by rw [ab_bi_eq h]; exact Bool.false_ne_true)] at hc
        rw [hc] at hQ
        exact ev_gK A hp [] 10 hQ
      · rw [if_pos (ab_bi_neq h)] at hc
        refine ih (by omega) _ (ev_succ (by omega)) ?_
        rw [hc, (by omega : M - (k + 1) = j)]
        omega)
  refine ⟨Or.inl rfl, ev_m90, rfl, ev_gK A hp [] 7 ?_⟩
  refine And.intro n10 (And.intro n10 ?_)
  show ev_J w ev_m90 (ev_nd 90) Q 10 [ev_vr 209, ev_vr 40, ev_vn x, ev_vn y, none, none] [.int (Int32.ofNat y - Int32.ofNat y / 10 * 10), .int (Int32.ofNat x - Int32.ofNat x / 10 * 10), .int (Int32.ofNat 10)] m t
  rw [ev_r10 (by omega), ev_r10 (by omega)]
  refine ev_gK A hp [] 1 ?_
  refine ev_S1 A (by omega) (by omega) ?_
  refine ev_gK A hp [19] 10 ?_
  have e10 : Int32.ofNat 10 - Int32.ofNat (max (x % 10) (y % 10)) = Int32.ofNat M := by
    have e1 := ev_ofNat_i (n := 10) (by omega)
    have e2 := ev_ofNat_i (n := max (x % 10) (y % 10)) (by omega)
    apply ev_eq_of
    rw [ev_sub_i (by omega) (by omega), e1, e2, eM]
    omega
  show ev_J w ev_m90 (ev_nd 90) Q 19 [ev_vr 209, ev_vr 40, ev_vn x, ev_vn y, ev_vi (Int32.ofNat 10 - Int32.ofNat (max (x % 10) (y % 10))), ev_vn 0] [] m t
  rw [e10]
  exact loop 0 (by omega) _ rfl (by rw [Nat.zero_add]; rfl)
/-- the blocks found -/
def ab_K (m : ev_Mem) (bs : List (Nat × Nat × Nat)) : Prop := m 271 1 = Int32.ofNat bs.length ∧ ∀ k, k < bs.length → m 272 (3 * k) = Int32.ofNat (bs.getD k (0, 0, 0)).1 ∧ m 272 (3 * k + 1) = Int32.ofNat (bs.getD k (0, 0, 0)).2.1 ∧ m 272 (3 * k + 2) = Int32.ofNat (bs.getD k (0, 0, 0)).2.2
def ab_frk (m m' : ev_Mem) : Prop := ∀ c i, c ≠ 271 → c ≠ 272 → m' c i = m c i
theorem ev_tri {a b : Nat} (ha : a < 1000) (hb : b < 1000) : Int32.ofNat a * 3 + Int32.ofNat b = Int32.ofNat (3 * a + b) := by
  apply ev_eq_of
  have e4 : (3 : Int32).toInt = 3 := by decide
  have ea := ev_ofNat_i (n := a) (by omega)
  have eb := ev_ofNat_i (n := b) (by omega)
  have e1 : (Int32.ofNat a * 3).toInt = (a : Int) * 3 := by rw [ev_mul_i (by rw [ea, e4]; omega) (by rw [ea, e4]; omega), ea, e4]
  rw [ev_add_i (by omega) (by omega), e1, eb, ev_ofNat_i (by omega)]
  omega
/-- BlockFinder.keep -/
theorem ev_S91 {i j n : Nat} {bs : List (Nat × Nat × Nat)} (A : ev_all w) (hK : ab_K m bs) (hb : 2 ≤ n → bs.length < 50) (hb2 : bs.length ≤ 50) (hn : n ≤ 10) (hQ : ∀ m', ab_frk m m' → ab_K m' (bs ++ if 2 ≤ n then [(i, j, n)] else []) → Q (.inl none) m' t) : ev_K w 91 [.ref 271, .int (Int32.ofNat i), .int (Int32.ofNat j), .int (Int32.ofNat n)] m t Q := by
  have hp : ev_prog[91]? = some ev_m91 := rfl
  have en := ev_ofNat_i (n := n) (by omega)
  have i2 : (Int32.ofInt 2).toInt = 2 := by decide
  have i50 : ((Int8.ofInt 50).toInt32).toInt = 50 := by decide
  have e1 := ev_toI hK.1 (by omega)
  have eb := hK.1
  refine ⟨Or.inr ⟨271, _, rfl, rfl⟩, ev_m91, rfl, ev_gK A hp [14, 64] 10 ?_⟩
  refine And.intro (fun (h : (Int32.ofNat n).toInt < (Int32.ofInt 2).toInt) => ?_) (fun (h : (Int32.ofInt 2).toInt ≤ (Int32.ofNat n).toInt) => ?_)
  · rw [if_neg (by omega), List.append_nil] at hQ
    exact ev_gK A hp [] 10 (hQ m (fun _ _ _ _ => rfl) hK)
  have h2n : 2 ≤ n := by omega
  have hlt := hb h2n
  rw [if_pos h2n] at hQ
  refine And.intro (fun (h : ((Int8.ofInt 50).toInt32).toInt ≤ (m 271 1).toInt) => by omega) (fun _ => ?_)
  have x0 : ∀ m1 : ev_Mem, m1 271 1 = Int32.ofNat bs.length → m1 271 1 * Int32.ofInt 3 = Int32.ofNat (3 * bs.length) := fun m1 h => by
    rw [h]
    have h3 := ev_tri (a := bs.length) (b := 0) (by omega) (by omega)
    rw [Nat.add_zero] at h3
    rw [← h3]
    apply ev_eq_of
    have e0 : (Int32.ofNat 0).toInt = 0 := by decide
    have ex : (Int32.ofNat bs.length * 3).toInt = (bs.length : Int) * 3 := by
      have e4 : (3 : Int32).toInt = 3 := by decide
      have ea := ev_ofNat_i (n := bs.length) (by omega)
      rw [ev_mul_i (by rw [ea, e4]; omega) (by rw [ea, e4]; omega), ea, e4]
    rw [ev_add_i (by omega) (by omega), e0]
    show (Int32.ofNat bs.length * 3).toInt = _
    omega
  have x1 : ∀ (m1 : ev_Mem) (c : Nat), m1 271 1 = Int32.ofNat bs.length → c < 3 → m1 271 1 * Int32.ofInt 3 + Int32.ofNat c = Int32.ofNat (3 * bs.length + c) := fun m1 c h hc => by rw [h]; exact ev_tri (by omega) (by omega)
  show ev_J w ev_m91 (ev_nd 91) Q 14 [ev_vr 271, ev_vn i, ev_vn j, ev_vn n] [] m t
  refine ev_gK A hp [26] 20 ?_
  refine And.intro (ev_iin (x0 m eb) (by omega) (by decide)) ?_
  show ev_J w ev_m91 (ev_nd 91) Q 26 [ev_vr 271, ev_vn i, ev_vn j, ev_vn n] [] (ev_up m 272 (m 271 1 * Int32.ofInt 3).toNatClampNeg (Int32.ofNat i)) t
  rw [ev_at (x0 m eb) (by omega)]
  have eb1 : ev_up m 272 (3 * bs.length) (Int32.ofNat i) 271 1 = Int32.ofNat bs.length := by rw [ev_up_cell _ (by decide)]; exact eb
  refine ev_gK A hp [40] 20 ?_
  refine And.intro (ev_iin (x1 _ 1 eb1 (by decide)) (by omega) (by decide)) ?_
  show ev_J w ev_m91 (ev_nd 91) Q 40 [ev_vr 271, ev_vn i, ev_vn j, ev_vn n] [] (ev_up (ev_up m 272 (3 * bs.length) (Int32.ofNat i)) 272 (ev_up m 272 (3 * bs.length) (Int32.ofNat i) 271 1 * Int32.ofInt 3 + Int32.ofNat 1).toNatClampNeg (Int32.ofNat j)) t
  rw [ev_at (x1 _ 1 eb1 (by decide)) (by omega)]
  have eb2 : ev_up (ev_up m 272 (3 * bs.length) (Int32.ofNat i)) 272 (3 * bs.length + 1) (Int32.ofNat j) 271 1 = Int32.ofNat bs.length := by rw [ev_up_cell _ (by decide)]; exact eb1
  refine ev_gK A hp [54] 20 ?_
  refine And.intro (ev_iin (x1 _ 2 eb2 (by decide)) (by omega) (by decide)) ?_
  show ev_J w ev_m91 (ev_nd 91) Q 54 [ev_vr 271, ev_vn i, ev_vn j, ev_vn n] [] (ev_up (ev_up (ev_up m 272 (3 * bs.length) (Int32.ofNat i)) 272 (3 * bs.length + 1) (Int32.ofNat j)) 272 (ev_up (ev_up m 272 (3 * bs.length) (Int32.ofNat i)) 272 (3 * bs.length + 1) (Int32.ofNat j) 271 1 * Int32.ofInt 3 + Int32.ofNat 2).toNatClampNeg (Int32.ofNat n)) t
  rw [ev_at (x1 _ 2 eb2 (by decide)) (by omega)]
  refine ev_gK A hp [] 20 ?_
  refine hQ _ (fun c k z1 z2 => by rw [ev_up_cell _ z1, ev_up_cell _ z2, ev_up_cell _ z2, ev_up_cell _ z2]) ⟨?_, fun k hk => ?_⟩
  · rw [ev_up_same, ev_up_cell _ (by decide), ev_up_cell _ (by decide), ev_up_cell _ (by decide), eb, List.length_append, List.length_singleton]
    exact ev_succ (by omega)
  · rw [List.length_append, List.length_singleton] at hk
    rw [List.getD_eq_getElem?_getD]
    by_cases hkl : k = bs.length
    · rw [hkl, List.getElem?_append_right (Nat.le_refl _), Nat.sub_self]
      refine ⟨?_, ?_, ?_⟩
      · rw [ev_up_cell _ (by decide), ev_up_idx _ _ (by omega), ev_up_idx _ _ (by omega), ev_up_same]; rfl
      · rw [ev_up_cell _ (by decide), ev_up_idx _ _ (by omega), ev_up_same]; rfl
      · rw [ev_up_cell _ (by decide), ev_up_same]; rfl
    · rw [List.getElem?_append_left (by omega), ← List.getD_eq_getElem?_getD]
      obtain ⟨a, b, c⟩ := hK.2 k (by omega)
      refine ⟨?_, ?_, ?_⟩
      · rw [ev_up_cell _ (by decide), ev_up_idx _ _ (by omega), ev_up_idx _ _ (by omega), ev_up_idx _ _ (by omega)]; exact a
      · rw [ev_up_cell _ (by decide), ev_up_idx _ _ (by omega), ev_up_idx _ _ (by omega), ev_up_idx _ _ (by omega)]; exact b
      · rw [ev_up_cell _ (by decide), ev_up_idx _ _ (by omega), ev_up_idx _ _ (by omega), ev_up_idx _ _ (by omega)]; exact c
/-- BlockFinder.count, field -/
theorem ev_S92 (A : ev_all w) (hQ : Q (.inl (some (.int (m 271 1)))) m t) : ev_K w 92 [.ref 271] m t Q :=
  ⟨Or.inr ⟨271, [], rfl, rfl⟩, ev_m92, rfl, ev_gK A (k := 92) rfl [] 20 hQ⟩
theorem ev_S93 {k c : Nat} (A : ev_all w) (hk : k < 50) (hc : c < 3) (hQ : Q (.inl (some (.int (m 272 (3 * k + c))))) m t) : ev_K w 93 [.ref 271, .int (Int32.ofNat k), .int (Int32.ofNat c)] m t Q := by
  have hp : ev_prog[93]? = some ev_m93 := rfl
  refine ⟨Or.inr ⟨271, _, rfl, rfl⟩, ev_m93, rfl, ev_gK A hp [] 20 ?_⟩
  have e : Int32.ofNat k * Int32.ofInt 3 + Int32.ofNat c = Int32.ofNat (3 * k + c) := ev_tri (by omega) (by omega)
  refine And.intro (ev_iin e (by omega) (by decide)) ?_
  show Q (.inl (some (.int (m 272 (Int32.ofNat k * Int32.ofInt 3 + Int32.ofNat c).toNatClampNeg)))) m t
  rw [ev_at e (by omega)]
  exact hQ
end EvBlocks
