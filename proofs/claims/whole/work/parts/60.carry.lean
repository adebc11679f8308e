/-! the class's joiner: the way, gone -/
section EvCarry
variable {w : ev_W} {Q : ev_QT} {m : ev_Mem} {t : ev_H}
def ab_cn (f : Nat → Bool) : Nat → Nat
  | 0 => 0
  | k + 1 => ab_cn f k + (if f k = true then 1 else 0)
theorem ab_cn_le (f : Nat → Bool) : ∀ k, ab_cn f k ≤ k
  | 0 => Nat.le_refl _
  | k + 1 => by
    have h := ab_cn_le f k
    rw [ab_cn]
    split <;> omega
theorem ab_cn_succ (f : Nat → Bool) : ∀ n, ab_cn f (n + 1) = (if f 0 = true then 1 else 0) + ab_cn (fun i => f (i + 1)) n
  | 0 => by rw [ab_cn, ab_cn, ab_cn]; omega
  | n + 1 => by
    rw [ab_cn, ab_cn_succ f n, ab_cn]
    omega
def ab_pn (l : List Nat) (k : Nat) : Nat := ab_cn (fun i => decide (¬ l.getD i 0 = 2)) k
def ab_jn (l : List Nat) (k : Nat) : Nat := ab_cn (fun i => decide (¬ l.getD i 0 = 1)) k
def ab_n2 (l : List Nat) (k : Nat) : Nat := ab_cn (fun i => decide (l.getD i 0 = 2)) k
theorem ab_n2_pn (l : List Nat) : ∀ k, ab_n2 l k + ab_pn l k = k
  | 0 => rfl
  | k + 1 => by
    have h := ab_n2_pn l k
    unfold ab_n2 ab_pn at *
    rw [ab_cn, ab_cn]
    by_cases q : l.getD k 0 = 2
    · rw [if_pos (decide_eq_true q), if_neg (by rw [decide_eq_true_eq]; exact fun z => z q)]; omega
    · rw [if_neg (by rw [decide_eq_true_eq]; exact q), if_pos (decide_eq_true q)]; omega
theorem ab_pn_cons (x : Nat) (l : List Nat) (n : Nat) : ab_pn (x :: l) (n + 1) = (if x = 2 then 0 else 1) + ab_pn l n := by
  unfold ab_pn
  rw [ab_cn_succ]
  refine congrArg (fun z => z + _) ?_
  by_cases q : x = 2
  · rw [if_pos q, if_neg (by rw [decide_eq_true_eq]; exact fun z => z q)]
  · rw [if_neg q]; exact if_pos (decide_eq_true q)
theorem ab_jn_cons (x : Nat) (l : List Nat) (n : Nat) : ab_jn (x :: l) (n + 1) = (if x = 1 then 0 else 1) + ab_jn l n := by
  unfold ab_jn
  rw [ab_cn_succ]
  refine congrArg (fun z => z + _) ?_
  by_cases q : x = 1
  · rw [if_pos q, if_neg (by rw [decide_eq_true_eq]; exact fun z => z q)]
  · rw [if_neg q]; exact if_pos (decide_eq_true q)
theorem ab_path_cnt (g : Nat → Nat → Nat) : ∀ (n a b : Nat), a + b ≤ n → ab_pn (ab_path g a b) (ab_path g a b).length = a ∧ ab_jn (ab_path g a b) (ab_path g a b).length = b := by
  intro n
  induction n with
  | zero =>
    intro a b h
    have h1 : a = 0 := by omega
    have h2 : b = 0 := by omega
    subst h1 h2
    exact ⟨rfl, rfl⟩
  | succ n ih =>
    intro a b h
    by_cases hz : a = 0 ∧ b = 0
    · obtain ⟨rfl, rfl⟩ := hz
      exact ⟨rfl, rfl⟩
    · rw [ab_path_step g hz, List.length_cons, ab_pn_cons, ab_jn_cons]
      rcases ab_S_cs g hz with ⟨q, q1, q2⟩ | ⟨q, q1⟩ | ⟨q, q1⟩
      · rw [q]
        have := ih (a - 1) (b - 1) (by omega)
        simp only [(by decide : ¬ (0 : Nat) = 2), (by decide : ¬ (0 : Nat) = 1), if_false]
        rw [this.1, this.2]
        omega
      · rw [q]
        have := ih (a - 1) b (by omega)
        simp only [(by decide : ¬ (1 : Nat) = 2), if_false, if_true]
        rw [this.1, this.2]
        omega
      · rw [q]
        have := ih a (b - 1) (by omega)
        simp only [(by decide : ¬ (2 : Nat) = 1), if_false, if_true]
        rw [this.1, this.2]
        omega
theorem ab_path_le2 (g : Nat → Nat → Nat) : ∀ (n a b : Nat), ∀ s ∈ ab_P g n a b, s ≤ 2
  | 0, _, _, s, h => by cases h
  | n + 1, a, b, s, h => by
    rw [ab_P] at h
    split at h
    · cases h
    · rename_i hz
      rcases List.mem_cons.mp h with h | h
      · rcases ab_S_cs g hz with ⟨q, _⟩ | ⟨q, _⟩ | ⟨q, _⟩ <;> omega
      · exact ab_path_le2 g n _ _ s h
/-- Joiner.plannedPlaces -/
theorem ev_S57 {l : List Nat} {N : Nat} (A : ev_all w) (h4 : m 213 4 = Int32.ofNat N) (h3 : m 213 3 = Int32.ofNat l.length) (hN : N ≤ 24) (hl : l.length ≤ 34) (hpth : ∀ i, i < l.length → m 216 i = Int32.ofNat (l.getD i 0)) (hle : ∀ i, l.getD i 0 ≤ 2) (hQ : Q (.inl (some (.int (Int32.ofNat (N + ab_n2 l l.length))))) m t) : ev_K w 57 [.ref 213] m t Q := by
  have hp : ev_prog[57]? = some ev_m57 := rfl
  have el := ev_ofNat_i (n := l.length) (by omega)
  have i2 : (Int32.ofInt 2).toInt = 2 := by decide
  have loop := ev_lup (P := fun k => ∀ (kk cc : Int32), kk = Int32.ofNat k → cc = Int32.ofNat (N + ab_n2 l k) → ev_J w ev_m57 (ev_nd 57) Q 7 [ev_vr 213, ev_vi cc, ev_vi kk] [] m t) l.length (by
    intro k hk ih kk cc ekk ecc
    have ek := ev_toI ekk (by omega)
    have hc := ab_cn_le (fun i => decide (l.getD i 0 = 2)) k
    have hc2 : ab_n2 l k ≤ k := hc
    refine ev_gK A hp [7] 20 ?_
    refine And.intro (fun (h : (m 213 3).toInt ≤ kk.toInt) => ?_) (fun (h : kk.toInt < (m 213 3).toInt) => ?_)
    · rw [h3] at h
      have e1 : k = l.length := by omega
      rw [ecc, e1]
      exact hQ
    · rw [h3] at h
      have hkl : k < l.length := by omega
      have hs := hpth k hkl
      have hs2 := hle k
      have es := ev_ofNat_i (n := l.getD k 0) (by omega)
      refine And.intro (ev_iin ekk (by omega) (by decide)) ?_
      refine And.intro (fun (h : ¬ (m 216 kk.toNatClampNeg).toInt = (Int32.ofInt 2).toInt) => ?_) (fun (h : (m 216 kk.toNatClampNeg).toInt = (Int32.ofInt 2).toInt) => ?_)
      · rw [ev_at ekk (by omega), hs] at h
        refine ih hkl _ _ (by rw [ekk]; exact ev_succ (by omega)) ?_
        have e1 : ab_n2 l (k + 1) = ab_n2 l k := by unfold ab_n2; rw [ab_cn, if_neg (by rw [decide_eq_true_eq]; omega)]; rfl
        rw [e1]; exact ecc
      · rw [ev_at ekk (by omega), hs] at h
        refine ih hkl _ _ (by rw [ekk]; exact ev_succ (by omega)) ?_
        have e1 : ab_n2 l (k + 1) = ab_n2 l k + 1 := by unfold ab_n2; rw [ab_cn, if_pos (by rw [decide_eq_true_eq]; omega)]
        rw [e1, ecc]; exact ev_succ (by omega))
  refine ⟨Or.inr ⟨213, _, rfl, rfl⟩, ev_m57, rfl, ev_gK A hp [7] 20 ?_⟩
  exact loop 0 (by omega) _ _ rfl h4
theorem ev_decS {k : Nat} (h : k < 50000) : Int32.ofNat (k + 1) + Int32.ofInt (-1) = Int32.ofNat k := by
  rw [ev_dec1 (by omega), ev_inc1 (by omega)]
/-- the table behind a joining -/
def ab_jc (T : ab_T) (v : Nat) (l : List Nat) (q u : Nat) : Option Nat := if ¬ l.getD q 0 = 1 ∧ u = v then some (ab_jn l q) else if l.getD q 0 = 2 then none else T.2.1 (ab_pn l q) u
def ab_jch (T : ab_T) (l : List Nat) (q : Nat) : Option Nat := if l.getD q 0 = 2 then none else T.2.2.1 (ab_pn l q)
def ab_jt (T : ab_T) (v : Nat) (l : List Nat) : ab_T := (l.length, ab_jc T v l, ab_jch T l, T.2.2.2.1 ++ [v], if T.2.2.2.1 = [] then some v else T.2.2.2.2)
/-- Joiner.carryOut -/
theorem ev_S58 {v : Nat} {l : List Nat} {T : ab_T} (A : ev_all w) (hT : ab_TC m T) (hok : ab_Tok T) (hv : v < 4) (hj : T.2.2.2.1.length < 4) (h4 : m 213 4 = Int32.ofNat T.1) (h5 : m 213 5 = Int32.ofNat (ab_jn l l.length)) (h3 : m 213 3 = Int32.ofNat l.length) (hl : l.length ≤ 24) (hpn : ab_pn l l.length = T.1) (hpth : ∀ i, i < l.length → m 216 i = Int32.ofNat (l.getD i 0)) (hle : ∀ i, l.getD i 0 ≤ 2)
    (hQ : ∀ m' : ev_Mem, (∀ k j, ¬ (209 ≤ k ∧ k ≤ 212) → m' k j = m k j) → ab_TC m' (ab_jt T v l) → Q (.inl none) m' t) : ev_K w 58 [.ref 213, .ref 209, .int (Int32.ofNat v)] m t Q := by
  have hp : ev_prog[58]? = some ev_m58 := rfl
  have k1 := hok.1
  obtain ⟨t1, t2, t3, t4, t5, t6⟩ := hT
  have i2 : (Int32.ofInt 2).toInt = 2 := by decide
  have i1 : (Int32.ofInt 1).toInt = 1 := by decide
  have loop : ∀ (k : Nat) (pp jj tt : Int32) (mk : ev_Mem), k ≤ l.length → pp = Int32.ofNat (ab_pn l k) → jj = Int32.ofNat (ab_jn l k) → tt = Int32.ofNat k → (∀ c i, c ≠ 210 → c ≠ 211 → mk c i = m c i) → (∀ q, k ≤ q → q < l.length → (∀ u, u < 4 → mk 210 (4 * q + u) = ab_oi (ab_jc T v l q u)) ∧ mk 211 q = ab_oi (ab_jch T l q)) → (∀ p, p < ab_pn l k → (∀ u, u < 4 → mk 210 (4 * p + u) = ab_oi (T.2.1 p u)) ∧ mk 211 p = ab_oi (T.2.2.1 p)) →
      ev_J w ev_m58 (ev_nd 58) Q 28 [ev_vr 213, ev_vr 209, ev_vn v, ev_vn l.length, ev_vi pp, ev_vi jj, ev_vi tt, ev_vi (Int32.ofInt ((k : Int) - 1))] [] mk t := by
    intro k
    induction k with
    | zero =>
      intro pp jj tt mk hk epp ejj ett hf hnew hold
      refine ev_gK A hp [] 20 ?_
      refine And.intro (fun h => ?_) (fun h => ?_)
      · refine ev_S44 (js := T.2.2.2.1) (bs := T.2.2.2.2) A (by rw [hf _ _ (by decide) (by decide)]; exact t4) (fun k hk => by rw [hf _ _ (by decide) (by decide)]; exact t5 k hk) (by rw [hf _ _ (by decide) (by decide)]; exact t6) hj (fun m' z1 z2 z3 z4 z5 => ?_)
        refine hQ m' (fun c i hc => by rw [z1 c i (by omega)]; exact hf c i (by omega) (by omega)) ⟨?_, fun p hp u hu => ?_, fun p hp => ?_, z3, z4, z5⟩
        · rw [z2]; exact ev_ofNat_i (by show l.length < _; omega)
        · rw [z1 _ _ (by decide)]; exact (hnew p (Nat.zero_le _) hp).1 u hu
        · rw [z1 _ _ (by decide)]; exact (hnew p (Nat.zero_le _) hp).2
      · have h2 : 0 ≤ (Int32.ofInt (((0 : Nat) : Int) - 1)).toInt := h
        rw [ev_ofInt_i (by omega) (by omega)] at h2
        omega
    | succ k ih =>
      intro pp jj tt mk hk epp ejj ett hf hnew hold
      rw [ev_inc1 (by omega)]
      have ek := ev_ofNat_i (n := k) (by omega)
      have hkl : k < l.length := by omega
      have hs2 := hle k
      have es := ev_ofNat_i (n := l.getD k 0) (by omega)
      have hpk : ab_pn l k ≤ k := ab_cn_le _ k
      have hjk : ab_jn l k ≤ k := ab_cn_le _ k
      have hpath : ∀ m2 : ev_Mem, (∀ c i, c ≠ 210 → c ≠ 211 → m2 c i = m c i) → m2 216 (Int32.ofNat k).toNatClampNeg = Int32.ofNat (l.getD k 0) := fun m2 h2 => by rw [ev_on (by omega), h2 _ _ (by decide) (by decide)]; exact hpth k hkl
      have hpns : ab_pn l (k + 1) = if l.getD k 0 = 2 then ab_pn l k else ab_pn l k + 1 := by
        unfold ab_pn
        rw [ab_cn]
        by_cases q : l.getD k 0 = 2
        · rw [if_pos q, if_neg (by rw [decide_eq_true_eq]; exact fun z => z q)]; rfl
        · rw [if_neg q, if_pos (decide_eq_true q)]
      have hjns : ab_jn l (k + 1) = if l.getD k 0 = 1 then ab_jn l k else ab_jn l k + 1 := by
        unfold ab_jn
        rw [ab_cn]
        by_cases q : l.getD k 0 = 1
        · rw [if_pos q, if_neg (by rw [decide_eq_true_eq]; exact fun z => z q)]; rfl
        · rw [if_neg q, if_pos (decide_eq_true q)]
      have b67 : ∀ (p1 t1 : Int32) (m2 : ev_Mem), p1 = Int32.ofNat (ab_pn l k) → t1 = Int32.ofNat k → (∀ c i, c ≠ 210 → c ≠ 211 → m2 c i = m c i) → (∀ q, k + 1 ≤ q → q < l.length → (∀ u, u < 4 → m2 210 (4 * q + u) = ab_oi (ab_jc T v l q u)) ∧ m2 211 q = ab_oi (ab_jch T l q)) → (∀ u, u < 4 → m2 210 (4 * k + u) = ab_oi (if l.getD k 0 = 2 then none else T.2.1 (ab_pn l k) u)) → m2 211 k = ab_oi (ab_jch T l k) → (∀ p, p < ab_pn l k → (∀ u, u < 4 → m2 210 (4 * p + u) = ab_oi (T.2.1 p u)) ∧ m2 211 p = ab_oi (T.2.2.1 p)) →
          ev_J w ev_m58 (ev_nd 58) Q 67 [ev_vr 213, ev_vr 209, ev_vn v, ev_vn l.length, ev_vi p1, ev_vi jj, ev_vi t1, ev_vn k] [] m2 t := by
        intro p1 tk m2 e1 e2 f2 n2 c2 h2 o2
        subst e1 e2
        refine ev_gK A hp [28] 30 ?_
        refine And.intro (ev_oin (by omega) (by decide)) ?_
        refine And.intro (fun (h : (m2 216 (Int32.ofNat k).toNatClampNeg).toInt = (Int32.ofInt 1).toInt) => ?_) (fun (h : ¬ (m2 216 (Int32.ofNat k).toNatClampNeg).toInt = (Int32.ofInt 1).toInt) => ?_)
        · rw [hpath m2 f2] at h
          have hs : l.getD k 0 = 1 := by omega
          rw [if_pos hs] at hjns
          rw [hjns] at ejj
          show ev_J w ev_m58 (ev_nd 58) Q 28 [ev_vr 213, ev_vr 209, ev_vn v, ev_vn l.length, ev_vn (ab_pn l k), ev_vi jj, ev_vn k, ev_vi (Int32.ofNat k + Int32.ofInt (-1))] [] m2 t
          rw [ev_dec1 (by omega)]
          refine ih _ _ _ _ (by omega) rfl ejj rfl f2 (fun q z1 z2 => ?_) o2
          by_cases hqk : q = k
          · subst hqk
            refine ⟨fun u hu => ?_, h2⟩
            have e : ab_jc T v l q u = if l.getD q 0 = 2 then none else T.2.1 (ab_pn l q) u := if_neg (fun z => z.1 hs)
            rw [c2 u hu, e]
          · exact n2 q (by omega) z2
        · rw [hpath m2 f2] at h
          have hs : ¬ l.getD k 0 = 1 := by omega
          rw [if_neg hs] at hjns
          rw [hjns] at ejj
          show ev_K w 42 [.ref 209, .int (Int32.ofNat k), .int (Int32.ofNat v), .int (jj + Int32.ofInt (-1))] m2 t _
          rw [ejj, ev_decS (by omega)]
          refine ev_S42 A (by omega) hv ?_
          show ev_J w ev_m58 (ev_nd 58) Q 28 [ev_vr 213, ev_vr 209, ev_vn v, ev_vn l.length, ev_vn (ab_pn l k), ev_vi (Int32.ofNat (ab_jn l k)), ev_vn k, ev_vi (Int32.ofNat k + Int32.ofInt (-1))] [] (ev_up m2 210 (4 * k + v) (Int32.ofNat (ab_jn l k))) t
          rw [ev_dec1 (by omega)]
          refine ih _ _ _ _ (by omega) rfl rfl rfl (fun c i z1 z2 => by rw [ev_up_cell _ z1]; exact f2 c i z1 z2) (fun q z1 z2 => ?_) (fun p hp => ⟨fun u hu => by rw [ev_up_idx _ _ (by omega)]; exact (o2 p hp).1 u hu, by rw [ev_up_cell _ (by decide)]; exact (o2 p hp).2⟩)
          by_cases hqk : q = k
          · subst hqk
            refine ⟨fun u hu => ?_, by rw [ev_up_cell _ (by decide)]; exact h2⟩
            unfold ab_jc
            by_cases huv : u = v
            · rw [if_pos ⟨hs, huv⟩, huv, ev_up_same]; rfl
            · rw [if_neg (fun z => huv z.2), ev_up_idx _ _ (by omega)]; exact c2 u hu
          · exact ⟨fun u hu => by rw [ev_up_idx _ _ (by omega)]; exact (n2 q (by omega) z2).1 u hu, by rw [ev_up_cell _ (by decide)]; exact (n2 q (by omega) z2).2⟩
      have setf : ∀ (f : Nat → Int32) (c : Int32) (cc i : Nat), cc ≠ 210 → cc ≠ 211 → ab_setp mk k f c cc i = mk cc i := by
        intro f c cc i z1 z2
        unfold ab_setp
        rw [ev_up_cell _ z2]
        exact if_neg (fun q => z1 q.1)
      have setc : ∀ (f : Nat → Int32) (c : Int32) (q u : Nat), q ≠ k → u < 4 → ab_setp mk k f c 210 (4 * q + u) = mk 210 (4 * q + u) := by
        intro f c q u z1 z2
        unfold ab_setp
        rw [ev_up_cell _ (by decide)]
        exact if_neg (fun q => by omega)
      have setk : ∀ (f : Nat → Int32) (c : Int32) (u : Nat), u < 4 → ab_setp mk k f c 210 (4 * k + u) = f u := by
        intro f c u z2
        unfold ab_setp
        rw [ev_up_cell _ (by decide)]
        unfold ab_setn
        rw [if_pos ⟨rfl, by omega, by omega⟩]
        congr 1
        omega
      have sethk : ∀ (f : Nat → Int32) (c : Int32), ab_setp mk k f c 211 k = c := fun f c => ev_up_same _ _ _ _
      have seth : ∀ (f : Nat → Int32) (c : Int32) (q : Nat), q ≠ k → ab_setp mk k f c 211 q = mk 211 q := by
        intro f c q z1
        unfold ab_setp
        rw [ev_up_idx _ _ z1]
        exact if_neg (fun q => absurd q.1 (by decide))
      refine ev_gK A hp [67] 30 ?_
      refine And.intro (fun (h : (Int32.ofNat k).toInt < 0) => by omega) (fun h => ?_)
      refine And.intro (ev_oin (by omega) (by decide)) ?_
      refine And.intro (fun (h : ¬ (mk 216 (Int32.ofNat k).toNatClampNeg).toInt = (Int32.ofInt 2).toInt) => ?_) (fun (h : (mk 216 (Int32.ofNat k).toNatClampNeg).toInt = (Int32.ofInt 2).toInt) => ?_)
      · rw [hpath mk hf] at h
        have hs : ¬ l.getD k 0 = 2 := by omega
        rw [if_neg hs] at hpns
        rw [hpns] at epp hold
        show ev_K w 43 [.ref 209, .int (pp + Int32.ofInt (-1)), .int (tt + Int32.ofInt (-1))] mk t _
        rw [epp, ett, ev_decS (by omega), ev_decS (by omega)]
        refine ev_S43 A (by omega) (by omega) ?_
        refine b67 _ _ _ ?_ ?_ (fun c i z1 z2 => by rw [setf _ _ _ _ z1 z2]; exact hf c i z1 z2) (fun q z1 z2 => ⟨fun u hu => by rw [setc _ _ _ _ (by omega) hu]; exact (hnew q z1 z2).1 u hu, by rw [seth _ _ _ (by omega)]; exact (hnew q z1 z2).2⟩) (fun u hu => ?_) ?_ (fun p hp => ⟨fun u hu => by rw [setc _ _ _ _ (by omega) hu]; exact (hold p (by omega)).1 u hu, by rw [seth _ _ _ (by omega)]; exact (hold p (by omega)).2⟩)
        · rfl
        · rfl
        · rw [setk _ _ _ hu, if_neg hs]; exact (hold _ (by omega)).1 u hu
        · rw [sethk]; unfold ab_jch; rw [if_neg hs]; exact (hold _ (by omega)).2
      · rw [hpath mk hf] at h
        have hs : l.getD k 0 = 2 := by omega
        rw [if_pos hs] at hpns
        rw [hpns] at epp hold
        show ev_K w 41 [.ref 209, .int (tt + Int32.ofInt (-1))] mk t _
        rw [ett, ev_decS (by omega)]
        refine ev_S41 A (by omega) ?_
        refine b67 _ _ _ epp ?_ (fun c i z1 z2 => by rw [setf _ _ _ _ z1 z2]; exact hf c i z1 z2) (fun q z1 z2 => ⟨fun u hu => by rw [setc _ _ _ _ (by omega) hu]; exact (hnew q z1 z2).1 u hu, by rw [seth _ _ _ (by omega)]; exact (hnew q z1 z2).2⟩) (fun u hu => ?_) ?_ (fun p hp => ⟨fun u hu => by rw [setc _ _ _ _ (by omega) hu]; exact (hold p (by omega)).1 u hu, by rw [seth _ _ _ (by omega)]; exact (hold p (by omega)).2⟩)
        · rfl
        · rw [setk _ _ _ hu, if_pos hs]; rfl
        · rw [sethk]; unfold ab_jch; rw [if_pos hs]; rfl
  have hsum := ab_n2_pn l l.length
  rw [hpn] at hsum
  refine ⟨Or.inr ⟨213, _, rfl, rfl⟩, ev_m58, rfl, ev_gK A hp [20] 20 ?_⟩
  refine ev_S57 A h4 h3 k1 (by omega) hpth hle ?_
  show ev_J w ev_m58 (ev_nd 58) Q 20 [ev_vr 213, ev_vr 209, ev_vn v, ev_vn (T.1 + ab_n2 l l.length), ev_vi (m 213 4), ev_vi (m 213 5), ev_vn (T.1 + ab_n2 l l.length), none] [] m t
  have e1 : T.1 + ab_n2 l l.length = l.length := by omega
  rw [e1]
  refine ev_gK A hp [28] 20 ?_
  show ev_J w ev_m58 (ev_nd 58) Q 28 [ev_vr 213, ev_vr 209, ev_vn v, ev_vn l.length, ev_vi (m 213 4), ev_vi (m 213 5), ev_vn l.length, ev_vi (m 213 3 - Int32.ofInt 1)] [] m t
  have e2 : m 213 3 - Int32.ofInt 1 = Int32.ofInt ((l.length : Int) - 1) := by
    rw [h3]
    apply ev_eq_of
    rw [ev_sub_i (by rw [ev_ofNat_i (by omega), i1]; omega) (by rw [ev_ofNat_i (by omega), i1]; omega), ev_ofNat_i (by omega), i1, ev_ofInt_i (by omega) (by omega)]
  rw [e2]
  exact loop l.length _ _ _ m (Nat.le_refl _) (by rw [h4, hpn]) h5 rfl (fun _ _ _ _ => rfl) (fun q z1 z2 => by omega) (fun p hp => ⟨fun u hu => t2 p (by omega) u hu, t3 p (by omega)⟩)
end EvCarry
