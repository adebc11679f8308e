/-! the class's family -/
section EvFamily
variable {w : ev_W} {Q : ev_QT} {m : ev_Mem} {t : ev_H}
def ab_FA (m : ev_Mem) (pa : Nat → Option Nat) : Prop := ∀ v, v < 4 → m 274 v = ab_oi (pa v)
def ab_PAok (pa : Nat → Option Nat) : Prop := ∀ v u, v < 4 → pa v = some u → u < 4
def ab_ab (pa : Nat → Option Nat) : Nat → Option Nat → Nat → Bool
  | 0, _, _ => false
  | _ + 1, none, _ => false
  | n + 1, some u, h => if u = h then true else ab_ab pa n (pa u) h
/-- Family.isAtOrBelow -/
theorem ev_S95 {a h : Nat} {pa : Nat → Option Nat} (A : ev_all w) (hF : ab_FA m pa) (hok : ab_PAok pa) (ha : a < 4) (hh : h < 4) (hQ : Q (.inl (some (.int (ab_bi (ab_ab pa 4 (some a) h))))) m t) : ev_K w 95 [.ref 273, .int (Int32.ofNat a), .int (Int32.ofNat h)] m t Q := by
  have hp : ev_prog[95]? = some ev_m95 := rfl
  have i4 := ev_i4
  have em1 := ev_im1
  have eh := ev_ofNat_i (n := h) (by omega)
  obtain ⟨G, hG⟩ : ∃ G, ab_ab pa 4 (some a) h = G := ⟨_, rfl⟩
  rw [hG] at hQ
  have loop := ev_lup (P := fun k => ∀ (kk uu : Int32) (u : Option Nat), kk = Int32.ofNat k → uu = ab_oi u → (∀ x, u = some x → x < 4) → G = ab_ab pa (4 - k) u h → ev_J w ev_m95 (ev_nd 95) Q 5 [ev_vr 273, ev_vn a, ev_vn h, ev_vi uu, ev_vi kk] [] m t) 4 (by
    intro k hk ih kk uu u ekk euu hu hg
    subst ekk euu
    have ek := ev_ofNat_i (n := k) (by omega)
    refine ev_gK A hp [11] 10 ?_
    refine And.intro (fun (z : (Int32.ofInt 4).toInt ≤ (Int32.ofNat k).toInt) => ?_) (fun (z : (Int32.ofNat k).toInt < (Int32.ofInt 4).toInt) => ?_)
    · rw [(by omega : 4 - k = 0), ab_ab] at hg
      rw [hg] at hQ
      exact ⟨rfl, hQ⟩
    obtain ⟨n, hn⟩ : ∃ n, 4 - k = n + 1 := ⟨4 - k - 1, by omega⟩
    rw [hn] at hg
    show ev_J w ev_m95 (ev_nd 95) Q 11 [ev_vr 273, ev_vn a, ev_vn h, ev_vi (ab_oi u), ev_vn k] [] m t
    cases u with
    | none =>
      rw [ab_ab] at hg
      rw [hg] at hQ
      refine ev_gK A hp [] 10 ?_
      exact And.intro (fun _ => ⟨rfl, hQ⟩) (fun (z : ¬ (-1 : Int32).toInt = (-1 : Int32).toInt) => absurd rfl z)
    | some x =>
      have hx := hu x rfl
      have ex := ev_ofNat_i (n := x) (by omega)
      rw [ab_ab] at hg
      refine ev_gK A hp [5] 20 ?_
      refine And.intro (fun (z : (Int32.ofNat x).toInt = (Int32.ofInt (-1)).toInt) => by omega) (fun _ => ?_)
      refine And.intro (fun (z : ¬ (Int32.ofNat x).toInt = (Int32.ofNat h).toInt) => ?_) (fun (z : (Int32.ofNat x).toInt = (Int32.ofNat h).toInt) => ?_)
      · rw [if_neg (by omega)] at hg
        refine And.intro (ev_oin hx (by decide)) ?_
        exact ih (by omega) _ _ (pa x) (ev_succ (by omega)) (by rw [ev_at (rfl : ab_oi (some x) = Int32.ofNat x) (by omega)]; exact hF x hx) (fun y hy => hok x y hx hy) (by rw [hg, (by omega : 4 - (k + 1) = n)])
      · rw [if_pos (by omega)] at hg
        rw [hg] at hQ
        exact ⟨rfl, hQ⟩)
  refine ⟨Or.inr ⟨273, _, rfl, rfl⟩, ev_m95, rfl, ev_gK A hp [5] 10 ?_⟩
  exact loop 0 (by omega) _ _ (some a) rfl rfl (fun x hx => by cases hx; exact ha) hG.symm
/-- Family.setParent -/
theorem ev_S96 {a : Nat} {x : Int32} (A : ev_all w) (ha : a < 4) (hQ : Q (.inl none) (ev_up m 274 a x) t) : ev_K w 96 [.ref 273, .int (Int32.ofNat a), .int x] m t Q := by
  have hp : ev_prog[96]? = some ev_m96 := rfl
  refine ⟨Or.inr ⟨273, _, rfl, rfl⟩, ev_m96, rfl, ev_gK A hp [] 10 ?_⟩
  refine And.intro (ev_oin ha (by decide)) ?_
  show Q (.inl none) (ev_up m 274 (Int32.ofNat a).toNatClampNeg x) t
  rw [ev_on (by omega)]
  exact hQ
def ab_de (pa : Nat → Option Nat) : Nat → Option Nat → Nat
  | 0, _ => 0
  | _ + 1, none => 0
  | n + 1, some u => ab_de pa n (pa u) + 1
/-- Family.depthOf -/
theorem ev_S100 {a : Nat} {pa : Nat → Option Nat} (A : ev_all w) (hF : ab_FA m pa) (hok : ab_PAok pa) (ha : a < 4) (hQ : Q (.inl (some (.int (Int32.ofNat (ab_de pa 4 (pa a)))))) m t) : ev_K w 100 [.ref 273, .int (Int32.ofNat a)] m t Q := by
  have hp : ev_prog[100]? = some ev_m100 := rfl
  have i4 := ev_i4
  have em1 := ev_im1
  obtain ⟨G, hG⟩ : ∃ G, ab_de pa 4 (pa a) = G := ⟨_, rfl⟩
  rw [hG] at hQ
  have loop := ev_lup (P := fun k => ∀ (kk uu : Int32) (u : Option Nat), kk = Int32.ofNat k → uu = ab_oi u → (∀ x, u = some x → x < 4) → G = k + ab_de pa (4 - k) u → ev_J w ev_m100 (ev_nd 100) Q 9 [ev_vr 273, ev_vn a, ev_vi kk, ev_vi uu] [] m t) 4 (by
    intro k hk ih kk uu u ekk euu hu hg
    subst ekk euu
    have ek := ev_ofNat_i (n := k) (by omega)
    refine ev_gK A hp [14] 10 ?_
    refine And.intro (fun (z : (Int32.ofInt 4).toInt ≤ (Int32.ofNat k).toInt) => ?_) (fun (z : (Int32.ofNat k).toInt < (Int32.ofInt 4).toInt) => ?_)
    · rw [(by omega : 4 - k = 0), ab_de] at hg
      rw [hg] at hQ
      exact hQ
    obtain ⟨n, hn⟩ : ∃ n, 4 - k = n + 1 := ⟨4 - k - 1, by omega⟩
    rw [hn] at hg
    show ev_J w ev_m100 (ev_nd 100) Q 14 [ev_vr 273, ev_vn a, ev_vn k, ev_vi (ab_oi u)] [] m t
    cases u with
    | none =>
      rw [ab_de] at hg
      rw [hg] at hQ
      refine ev_gK A hp [] 10 ?_
      exact And.intro (fun _ => hQ) (fun (z : ¬ (-1 : Int32).toInt = (-1 : Int32).toInt) => absurd rfl z)
    | some x =>
      have hx := hu x rfl
      have ex := ev_ofNat_i (n := x) (by omega)
      rw [ab_de] at hg
      refine ev_gK A hp [9] 20 ?_
      refine And.intro (fun (z : (Int32.ofNat x).toInt = (Int32.ofInt (-1)).toInt) => by omega) (fun _ => ?_)
      refine And.intro (ev_oin hx (by decide)) ?_
      exact ih (by omega) _ _ (pa x) (ev_succ (by omega)) (by rw [ev_at (rfl : ab_oi (some x) = Int32.ofNat x) (by omega)]; exact hF x hx) (fun y hy => hok x y hx hy) (by rw [hg, (by omega : 4 - (k + 1) = n)]; omega))
  refine ⟨Or.inr ⟨273, _, rfl, rfl⟩, ev_m100, rfl, ev_gK A hp [9] 10 ?_⟩
  refine And.intro (ev_oin ha (by decide)) ?_
  exact loop 0 (by omega) _ _ (pa a) rfl (by rw [ev_on (by omega)]; exact hF a ha) (fun x hx => hok a x ha hx) (by rw [Nat.zero_add]; exact hG.symm)
/-- costs -/
def ab_CM (m : ev_Mem) (C : Nat → Nat) : Prop := ∀ i, i < 16 → m 276 i = Int32.ofNat (C i)
def ab_ls (C : Nat → Nat) (a : Nat) : Nat → Nat
  | 0 => C (4 * a)
  | k + 1 => min (ab_ls C a k) (C (4 * a + (k + 1)))
theorem ab_ls_lt {C : Nat → Nat} {B a : Nat} (hB : ∀ i, i < 16 → C i < B) (ha : a < 4) : ∀ k, k < 4 → ab_ls C a k < B
  | 0, _ => hB _ (by omega)
  | k + 1, hk => by
    have h1 := ab_ls_lt hB ha k (by omega)
    rw [ab_ls]
    omega
theorem ev_mul4 {p : Nat} (hp : p < 1000) : Int32.ofNat p * 4 = Int32.ofNat (4 * p) := by
  apply ev_eq_of
  have e4 : (4 : Int32).toInt = 4 := by decide
  have ea := ev_ofNat_i (n := p) (by omega)
  rw [ev_mul_i (by rw [ea, e4]; omega) (by rw [ea, e4]; omega), ea, e4, ev_ofNat_i (by omega)]
  omega
/-- Family.leastCost -/
theorem ev_S102 {a B : Nat} {C : Nat → Nat} (A : ev_all w) (hC : ab_CM m C) (hB : ∀ i, i < 16 → C i < B) (hB2 : B < 1000000000) (ha : a < 4) (hQ : Q (.inl (some (.int (Int32.ofNat (ab_ls C a 3))))) m t) : ev_K w 102 [.ref 273, .int (Int32.ofNat a)] m t Q := by
  have hp : ev_prog[102]? = some ev_m102 := rfl
  have i4 := ev_i4
  have e4a : Int32.ofNat a * Int32.ofInt 4 = Int32.ofNat (4 * a) := ev_mul4 (by omega)
  have loop := ev_lup (P := fun k => ∀ (kk ll : Int32), kk = Int32.ofNat (k + 1) → ll = Int32.ofNat (ab_ls C a k) → ev_J w ev_m102 (ev_nd 102) Q 11 [ev_vr 273, ev_vn a, ev_vi ll, ev_vi kk] [] m t) 3 (by
    intro k hk ih kk ll ekk ell
    subst ekk ell
    have ek := ev_ofNat_i (n := k + 1) (by omega)
    have eix : Int32.ofNat a * Int32.ofInt 4 + Int32.ofNat (k + 1) = Int32.ofNat (4 * a + (k + 1)) := ev_cellN (by omega) (by omega)
    refine ev_gK A hp [11] 20 ?_
    refine And.intro (fun (z : (Int32.ofInt 4).toInt ≤ (Int32.ofNat (k + 1)).toInt) => ?_) (fun (z : (Int32.ofNat (k + 1)).toInt < (Int32.ofInt 4).toInt) => ?_)
    · have e : k = 3 := by omega
      subst e
      exact hQ
    · refine And.intro (ev_iin eix (by omega) (by decide)) ?_
      refine ev_S0 A ?_
      refine ih (by omega) _ _ (ev_succ (by omega)) ?_
      rw [ev_at eix (by omega), hC _ (by omega), ev_minN (by have := ab_ls_lt hB ha k (by omega); omega) (by have := hB (4 * a + (k + 1)) (by omega); omega)]
      rfl)
  refine ⟨Or.inr ⟨273, _, rfl, rfl⟩, ev_m102, rfl, ev_gK A hp [11] 20 ?_⟩
  refine And.intro (ev_iin e4a (by omega) (by decide)) ?_
  exact loop 0 (by omega) _ _ rfl (by rw [ev_at e4a (by omega)]; exact hC _ (by omega))
def ab_hc (C : Nat → Nat) (v a l r : Nat) : Nat → Nat := fun i => if 4 * v ≤ i ∧ i < 4 * v + r then C i + min (C (4 * a + (i - 4 * v))) (l + 1) else C i
def ab_hu (pa : Nat → Option Nat) (s : (Nat → Nat) × Nat) (a : Nat) : (Nat → Nat) × Nat := match pa a with
  | none => (s.1, s.2 + ab_ls s.1 a 3)
  | some v => (ab_hc s.1 v a (ab_ls s.1 a 3) 4, s.2)
/-- Family.handUp -/
theorem ev_S101 {a B : Nat} {C : Nat → Nat} {pa : Nat → Option Nat} (A : ev_all w) (hF : ab_FA m pa) (hok : ab_PAok pa) (hC : ab_CM m C) (hB : ∀ i, i < 16 → C i < B) (hB2 : B < 100000000) (ha : a < 4)
    (h0 : pa a = none → Q (.inl (some (.int (Int32.ofNat (ab_ls C a 3))))) m t) (h1 : ∀ v, pa a = some v → ∀ m', (∀ c i, c ≠ 276 → m' c i = m c i) → ab_CM m' (ab_hc C v a (ab_ls C a 3) 4) → Q (.inl (some (.int (Int32.ofNat 0)))) m' t) : ev_K w 101 [.ref 273, .int (Int32.ofNat a)] m t Q := by
  have hp : ev_prog[101]? = some ev_m101 := rfl
  have i4 := ev_i4
  have em1 := ev_im1
  have hls := ab_ls_lt hB ha 3 (by omega)
  refine ⟨Or.inr ⟨273, _, rfl, rfl⟩, ev_m101, rfl, ev_gK A hp [13] 20 ?_⟩
  refine ev_S102 A hC hB (by omega) ha ?_
  refine And.intro (ev_oin ha (by decide)) ?_
  show ev_J w ev_m101 (ev_nd 101) Q 13 [ev_vr 273, ev_vn a, ev_vn (ab_ls C a 3), ev_vi (m 274 (Int32.ofNat a).toNatClampNeg), none] [] m t
  rw [ev_on (by omega), hF a ha]
  generalize ab_ls C a 3 = l at *
  cases hpa : pa a with
  | none =>
    refine ev_gK A hp [20] 10 ?_
    exact And.intro (fun (z : ¬ (-1 : Int32).toInt = (-1 : Int32).toInt) => absurd rfl z) (fun _ => h0 hpa)
  | some v =>
    have hv := hok a v ha hpa
    have ev := ev_ofNat_i (n := v) (by omega)
    have loop := ev_lup (P := fun r => ∀ (rr : Int32) (mk : ev_Mem), rr = Int32.ofNat r → (∀ c i, c ≠ 276 → mk c i = m c i) → ab_CM mk (ab_hc C v a l r) → ev_J w ev_m101 (ev_nd 101) Q 23 [ev_vr 273, ev_vn a, ev_vn l, ev_vn v, ev_vi rr] [] mk t) 4 (by
      intro r hr ih rr mk err fk Ck
      subst err
      have er := ev_ofNat_i (n := r) (by omega)
      refine ev_gK A hp [29] 10 ?_
      refine And.intro (fun (z : (Int32.ofInt 4).toInt ≤ (Int32.ofNat r).toInt) => ?_) (fun (z : (Int32.ofNat r).toInt < (Int32.ofInt 4).toInt) => ?_)
      · have e : r = 4 := by omega
        subst e
        exact h1 v hpa mk fk Ck
      · have hr4 : r < 4 := by omega
        have ev1 : Int32.ofNat v * Int32.ofInt 4 + Int32.ofNat r = Int32.ofNat (4 * v + r) := ev_cellN (by omega) (by omega)
        have ea1 : Int32.ofNat a * Int32.ofInt 4 + Int32.ofNat r = Int32.ofNat (4 * a + r) := ev_cellN (by omega) (by omega)
        have c1 : ab_hc C v a l r (4 * v + r) = C (4 * v + r) := if_neg (by omega)
        have c2 : ab_hc C v a l r (4 * a + r) = C (4 * a + r) := if_neg (by omega)
        have b1 := hB (4 * v + r) (by omega)
        have b2 := hB (4 * a + r) (by omega)
        show ev_J w ev_m101 (ev_nd 101) Q 29 [ev_vr 273, ev_vn a, ev_vn l, ev_vn v, ev_vn r] [] mk t
        refine ev_gK A hp [] 7 ?_
        show ev_J w ev_m101 (ev_nd 101) Q 39 [ev_vr 273, ev_vn a, ev_vn l, ev_vn v, ev_vn r] [.int (Int32.ofNat v * Int32.ofInt 4 + Int32.ofNat r), .ref 276] mk t
        rw [ev1]
        refine ev_gK A hp [] 2 ?_
        refine And.intro (ev_oin (by omega) (by decide)) ?_
        show ev_J w ev_m101 (ev_nd 101) Q 41 [ev_vr 273, ev_vn a, ev_vn l, ev_vn v, ev_vn r] [.int (mk 276 (Int32.ofNat (4 * v + r)).toNatClampNeg), .int (Int32.ofNat (4 * v + r)), .ref 276] mk t
        rw [ev_on (by omega), Ck _ (by omega), c1]
        refine ev_gK A hp [] 8 ?_
        refine And.intro (ev_iin ea1 (by omega) (by decide)) ?_
        show ev_J w ev_m101 (ev_nd 101) Q 52 [ev_vr 273, ev_vn a, ev_vn l, ev_vn v, ev_vn r] [.int (mk 276 (Int32.ofNat a * Int32.ofInt 4 + Int32.ofNat r).toNatClampNeg), .int (Int32.ofNat (C (4 * v + r))), .int (Int32.ofNat (4 * v + r)), .ref 276] mk t
        rw [ev_at ea1 (by omega), Ck _ (by omega), c2]
        refine ev_gK A hp [] 4 ?_
        show ev_K w 0 [.int (Int32.ofNat (C (4 * a + r))), .int (Int32.ofNat l + 1)] mk t _
        rw [ev_succ (by omega)]
        refine ev_S0 A ?_
        rw [ev_minN (by omega) (by omega)]
        refine ev_gK A hp [] 1 ?_
        show ev_J w ev_m101 (ev_nd 101) Q 59 [ev_vr 273, ev_vn a, ev_vn l, ev_vn v, ev_vn r] [.int (Int32.ofNat (C (4 * v + r)) + Int32.ofNat (min (C (4 * a + r)) (l + 1))), .int (Int32.ofNat (4 * v + r)), .ref 276] mk t
        rw [ev_addN (by omega)]
        refine ev_gK A hp [23] 10 ?_
        refine And.intro (ev_oin (by omega) (by decide)) ?_
        refine ih hr4 _ _ (ev_succ (by omega)) (fun c i z => by rw [ev_up_cell _ z]; exact fk c i z) (fun i hi => ?_)
        rw [ev_on (by omega)]
        by_cases hiv : i = 4 * v + r
        · rw [hiv, ev_up_same]
          unfold ab_hc
          rw [if_pos (by omega), (by omega : 4 * v + r - 4 * v = r)]
        · rw [ev_up_idx _ _ hiv, Ck i hi]
          unfold ab_hc
          by_cases hin : 4 * v ≤ i ∧ i < 4 * v + r
          · rw [if_pos hin, if_pos (by omega)]
          · rw [if_neg hin, if_neg (by omega)])
    refine ev_gK A hp [23] 10 ?_
    refine And.intro (fun _ => ?_) (fun (z : (Int32.ofNat v).toInt = (Int32.ofInt (-1)).toInt) => by omega)
    refine loop 0 (by omega) _ m rfl (fun _ _ _ => rfl) (fun i hi => ?_)
    unfold ab_hc
    rw [if_neg (by omega)]
    exact hC i hi
def ab_c0 (rd : Nat → Option Nat) (i : Nat) : Nat := if rd (i / 4) = none ∨ rd (i / 4) = some (i % 4) then 0 else 100
/-- Family.startCosts -/
theorem ev_S99 {rd : Nat → Option Nat} (A : ev_all w) (hR : ∀ v, v < 4 → m 275 v = ab_oi (rd v)) (hR4 : ∀ v x, v < 4 → rd v = some x → x < 4) (hQ : ∀ m', (∀ c i, c ≠ 276 → m' c i = m c i) → ab_CM m' (ab_c0 rd) → Q (.inl none) m' t) : ev_K w 99 [.ref 273] m t Q := by
  have hp : ev_prog[99]? = some ev_m99 := rfl
  have i4 := ev_i4
  have em1 := ev_im1
  have inner : ∀ a, a < 4 → (∀ (aa : Int32) (mk : ev_Mem) (o2 o3 : Option Value), aa = Int32.ofNat (a + 1) → (∀ c i, c ≠ 276 → mk c i = m c i) → (∀ i, i < 4 * (a + 1) → mk 276 i = Int32.ofNat (ab_c0 rd i)) → ev_J w ev_m99 (ev_nd 99) Q 2 [ev_vr 273, ev_vi aa, o2, o3] [] mk t) →
      ∀ r, r ≤ 4 → ∀ (rr : Int32) (mk : ev_Mem) (o3 : Option Value), rr = Int32.ofNat r → (∀ c i, c ≠ 276 → mk c i = m c i) → (∀ i, i < 4 * a + r → mk 276 i = Int32.ofNat (ab_c0 rd i)) → ev_J w ev_m99 (ev_nd 99) Q 9 [ev_vr 273, ev_vn a, ev_vi rr, o3] [] mk t := by
    intro a ha kont
    refine ev_lup (P := fun r => ∀ (rr : Int32) (mk : ev_Mem) (o3 : Option Value), rr = Int32.ofNat r → (∀ c i, c ≠ 276 → mk c i = m c i) → (∀ i, i < 4 * a + r → mk 276 i = Int32.ofNat (ab_c0 rd i)) → ev_J w ev_m99 (ev_nd 99) Q 9 [ev_vr 273, ev_vn a, ev_vi rr, o3] [] mk t) 4 (fun r hr ih rr mk o3 err fk Ck => ?_)
    subst err
    have er := ev_ofNat_i (n := r) (by omega)
    have eix : Int32.ofNat a * Int32.ofInt 4 + Int32.ofNat r = Int32.ofNat (4 * a + r) := ev_cellN (by omega) (by omega)
    have hra : mk 275 (Int32.ofNat a).toNatClampNeg = ab_oi (rd a) := by rw [ev_on (by omega), fk _ _ (by decide)]; exact hR a ha
    refine ev_gK A hp [14, 66] 10 ?_
    refine And.intro (fun (z : (Int32.ofInt 4).toInt ≤ (Int32.ofNat r).toInt) => ?_) (fun (z : (Int32.ofNat r).toInt < (Int32.ofInt 4).toInt) => ?_)
    · have e : r = 4 := by omega
      subst e
      refine ev_gK A hp [2] 10 ?_
      exact kont _ mk _ _ (ev_succ (by omega)) fk (fun i hi => Ck i (by omega))
    have hr4 : r < 4 := by omega
    have h59 : ∀ (x : Nat) (o3 : Option Value), x = ab_c0 rd (4 * a + r) → ev_J w ev_m99 (ev_nd 99) Q 59 [ev_vr 273, ev_vn a, ev_vn r, o3] [.int (Int32.ofNat x), .int (Int32.ofNat a * Int32.ofInt 4 + Int32.ofNat r), .ref 276] mk t := by
      intro x o3 hx
      refine ev_gK A hp [9] 10 ?_
      refine And.intro (ev_iin eix (by omega) (by decide)) ?_
      refine ih hr4 _ _ _ (ev_succ (by omega)) (fun c i z => by rw [ev_up_cell _ z]; exact fk c i z) (fun i hi => ?_)
      rw [ev_at eix (by omega)]
      by_cases hir : i = 4 * a + r
      · rw [hir, ev_up_same, hx]
      · rw [ev_up_idx _ _ hir]; exact Ck i (by omega)
    have q1 : (4 * a + r) / 4 = a := by omega
    have q2 : (4 * a + r) % 4 = r := by omega
    have h39 : ∀ b : Bool, b = decide (rd a = none ∨ rd a = some r) → ∀ o3 : Option Value, ev_J w ev_m99 (ev_nd 99) Q 39 [ev_vr 273, ev_vn a, ev_vn r, o3] [.int (ab_bi b)] mk t := by
      intro b hb o3
      refine ev_gK A hp [59] 20 ?_
      refine And.intro (fun z => ?_) (fun z => ?_)
      · have h1 := ab_bi_eq z
        rw [hb] at h1
        have h2 := of_decide_eq_false h1
        exact h59 100 _ (by unfold ab_c0; rw [q1, q2, if_neg h2])
      · have h1 := ab_bi_neq z
        rw [hb] at h1
        have h2 := of_decide_eq_true h1
        exact h59 0 _ (by unfold ab_c0; rw [q1, q2, if_pos h2])
    show ev_J w ev_m99 (ev_nd 99) Q 14 [ev_vr 273, ev_vn a, ev_vn r, o3] [] mk t
    refine ev_gK A hp [39] 20 ?_
    refine And.intro (ev_oin ha (by decide)) ?_
    have hb := fun x hx => hR4 a x ha hx
    refine And.intro (fun (z : (mk 275 (Int32.ofNat a).toNatClampNeg).toInt = (Int32.ofInt (-1)).toInt) => ?_) (fun (z : ¬ (mk 275 (Int32.ofNat a).toNatClampNeg).toInt = (Int32.ofInt (-1)).toInt) => ?_)
    · rw [hra, em1] at z
      exact h39 true (decide_eq_true (Or.inl ((ab_oi_m1 (fun x hx => by have := hb x hx; omega)).mp z))).symm _
    refine And.intro (ev_oin ha (by decide)) ?_
    refine And.intro (fun (z2 : ¬ (mk 275 (Int32.ofNat a).toNatClampNeg).toInt = (Int32.ofNat r).toInt) => ?_) (fun (z2 : (mk 275 (Int32.ofNat a).toNatClampNeg).toInt = (Int32.ofNat r).toInt) => ?_)
    · rw [hra] at z z2
      refine h39 false (decide_eq_false (fun q => ?_)).symm _
      rcases q with q | q
      · rw [q] at z; exact z rfl
      · rw [q] at z2; exact z2 rfl
    · rw [hra] at z2
      exact h39 true (decide_eq_true (Or.inr (ab_oi_inj (fun x hx => by have := hb x hx; omega) (fun x hx => by cases hx; omega) (z2.trans rfl)))).symm _
  have outer := ev_lup (P := fun a => ∀ (aa : Int32) (mk : ev_Mem) (o2 o3 : Option Value), aa = Int32.ofNat a → (∀ c i, c ≠ 276 → mk c i = m c i) → (∀ i, i < 4 * a → mk 276 i = Int32.ofNat (ab_c0 rd i)) → ev_J w ev_m99 (ev_nd 99) Q 2 [ev_vr 273, ev_vi aa, o2, o3] [] mk t) 4 (by
    intro a ha ih aa mk o2 o3 eaa fk Ck
    subst eaa
    have ea := ev_ofNat_i (n := a) (by omega)
    refine ev_gK A hp [9] 10 ?_
    refine And.intro (fun (z : (Int32.ofInt 4).toInt ≤ (Int32.ofNat a).toInt) => ?_) (fun (z : (Int32.ofNat a).toInt < (Int32.ofInt 4).toInt) => ?_)
    · have e : a = 4 := by omega
      subst e
      exact hQ mk fk Ck
    · exact inner a (by omega) (ih (by omega)) 0 (by omega) _ mk _ rfl fk (fun i hi => Ck i (by omega)))
  refine ⟨Or.inr ⟨273, _, rfl, rfl⟩, ev_m99, rfl, ev_gK A hp [2] 10 ?_⟩
  exact outer 0 (by omega) _ m _ _ rfl (fun _ _ _ => rfl) (fun i hi => by omega)
end EvFamily
