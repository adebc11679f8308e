/-! the class's family: readings, changes -/
section EvFamily2
variable {w : ev_W} {Q : ev_QT} {m : ev_Mem} {t : ev_H}
def ab_eqo (eq : Nat → Nat → Bool) (a b : Option Nat) : Bool := match a, b with
  | none, none => true
  | some x, some y => eq x y
  | _, _ => false
theorem ab_EQ_eqm {eq : Nat → Nat → Bool} (hEq : ab_EQ m eq) {a b : Option Nat} (ha : ab_okx m a) (hb : ab_okx m b) : ab_eqm m 205 a b = ab_eqo eq a b := by
  cases a with
  | none => cases b <;> rfl
  | some x =>
    cases b with
    | none => rfl
    | some y =>
      obtain ⟨x1, x2⟩ := ha x rfl
      obtain ⟨y1, y2⟩ := hb y rfl
      have h4 := hEq x y x1 y1 x2 y2
      show decide ((m 205 x).toInt = (m 205 y).toInt) = eq x y
      cases hb : eq x y with
      | true => exact decide_eq_true (h4.mpr hb)
      | false => exact decide_eq_false (fun z => by rw [h4.mp z] at hb; cases hb)
/-- may read anything -/
def ab_free (T : ab_T) (fo : Nat → Option ab_Ls) (p v : Nat) : Bool := match ab_isJ T.2.2.2.1 (Int32.ofNat v), ab_nat T p v with
  | false, _ => true
  | true, none => false
  | true, some x => (fo x).isNone
def ab_ti (R : Nat → Option Nat) (e : Nat → Nat → Bool) (a : Nat) : Nat → Option Nat
  | 0 => some a
  | v + 1 => if R v = some v ∧ e v a = true then some v else ab_ti R e a v
def ab_tr (fr : Nat → Bool) (e : Nat → Nat → Bool) : Nat → Nat → Option Nat
  | 0 => fun _ => none
  | k + 1 => fun a => if a = k then (if fr k = true then none else ab_ti (ab_tr fr e k) e k k) else ab_tr fr e k a
theorem ab_ti_le (R : Nat → Option Nat) (e : Nat → Nat → Bool) (a : Nat) : ∀ v, v ≤ a → ∀ x, ab_ti R e a v = some x → x ≤ a
  | 0, _, x, h => by rw [ab_ti] at h; cases h; exact Nat.le_refl _
  | v + 1, hv, x, h => by
    rw [ab_ti] at h
    split at h
    · cases h; omega
    · exact ab_ti_le R e a v (by omega) x h
theorem ab_tr_lt (fr : Nat → Bool) (e : Nat → Nat → Bool) : ∀ k a x, ab_tr fr e k a = some x → x ≤ a
  | 0, a, x, h => by cases h
  | k + 1, a, x, h => by
    rw [ab_tr] at h
    simp only at h
    split at h
    · rename_i ha
      split at h
      · cases h
      · rw [ha]; exact ab_ti_le _ _ _ k (Nat.le_refl _) x h
    · exact ab_tr_lt fr e k a x h
/-- Family.takeReadings -/
theorem ev_S98 {p : Nat} {T : ab_T} {fo : Nat → Option ab_Ls} {eq : Nat → Nat → Bool} (A : ev_all w) (hE : ab_E m T fo) (hEq : ab_EQ m eq) (hpT : p < T.1)
    (hQ : ∀ m', (∀ c i, c ≠ 275 → m' c i = m c i) → (∀ v, v < 4 → m' 275 v = ab_oi (ab_tr (ab_free T fo p) (fun a b => ab_eqo eq (ab_nat T p a) (ab_nat T p b)) 4 v)) → Q (.inl none) m' t) : ev_K w 98 [.ref 273, .ref 209, .ref 40, .int (Int32.ofNat p)] m t Q := by
  have hp : ev_prog[98]? = some ev_m98 := rfl
  have i4 := ev_i4
  have em1 := ev_im1
  have k1 := hE.2.1.1
  obtain ⟨fr, hfr⟩ : ∃ fr, ab_free T fo p = fr := ⟨_, rfl⟩
  obtain ⟨e, he⟩ : ∃ e, (fun a b => ab_eqo eq (ab_nat T p a) (ab_nat T p b)) = e := ⟨_, rfl⟩
  have hee : ∀ a b, e a b = ab_eqo eq (ab_nat T p a) (ab_nat T p b) := fun a b => by rw [← he]
  rw [hfr, he] at hQ
  have envE : ∀ mk : ev_Mem, (∀ c i, c ≠ 275 → mk c i = m c i) → ab_E mk T fo ∧ ab_EQ mk eq := fun mk fk => by
    have hth : ∀ z, ab_th mk z = ab_th m z := ab_th_cong (fun j => fk _ _ (by decide))
    refine ⟨ab_E_cong (fun c i _ z => fk c i (by omega)) hE, fun x y z1 z2 z3 z4 => ?_⟩
    rw [hth] at z3 z4
    rw [fk 205 x (by decide), fk 205 y (by decide)]
    exact hEq x y z1 z2 z3 z4
  have outer := ev_lup (P := fun a => ∀ (aa : Int32) (mk : ev_Mem) (o5 o6 o7 : Option Value), aa = Int32.ofNat a → (∀ c i, c ≠ 275 → mk c i = m c i) → (∀ v, v < a → mk 275 v = ab_oi (ab_tr fr e a v)) → ev_J w ev_m98 (ev_nd 98) Q 3 [ev_vr 273, ev_vr 209, ev_vr 40, ev_vn p, ev_vi aa, o5, o6, o7] [] mk t) 4 (by
    intro a ha ih aa mk o5 o6 o7 eaa fk Rk
    subst eaa
    have ea := ev_ofNat_i (n := a) (by omega)
    obtain ⟨eE, eEq⟩ := envE mk fk
    refine ev_gK A hp [18] 10 ?_
    refine And.intro (fun (z : (Int32.ofInt 4).toInt ≤ (Int32.ofNat a).toInt) => ?_) (fun (z : (Int32.ofNat a).toInt < (Int32.ofInt 4).toInt) => ?_)
    · have h : a = 4 := by omega
      subst h
      exact hQ mk fk Rk
    have ha4 : a < 4 := by omega
    have hnok := ab_nat_ok eE hpT ha4
    refine ev_S38 A (by omega) ha4 (eE.1.2.1 p hpT a ha4) (fun i hi => eE.2.1.2.1 p a i hi) ?_
    show ev_J w ev_m98 (ev_nd 98) Q 18 [ev_vr 273, ev_vr 209, ev_vr 40, ev_vn p, ev_vn a, ev_vi (ab_oi (ab_nat T p a)), o6, o7] [] mk t
    have hfa : fr a = ab_free T fo p a := by rw [← hfr]
    -- the inner loop
    have h125 : ∀ (m2 : ev_Mem) (x6 : Int32) (o7 : Option Value), (∀ c i, c ≠ 275 → m2 c i = m c i) → (∀ v, v < a → m2 275 v = ab_oi (ab_tr fr e a v)) → m2 275 a = ab_oi (if fr a = true then none else ab_ti (ab_tr fr e a) e a a) → ev_J w ev_m98 (ev_nd 98) Q 125 [ev_vr 273, ev_vr 209, ev_vr 40, ev_vn p, ev_vn a, ev_vi (ab_oi (ab_nat T p a)), ev_vi x6, o7] [] m2 t := by
      intro m2 x6 o7 f2 R2 z2
      refine ev_gK A hp [3] 10 ?_
      refine ih ha4 _ m2 _ _ _ (ev_succ (by omega)) f2 (fun v hv => ?_)
      show m2 275 v = ab_oi (if v = a then (if fr a = true then none else ab_ti (ab_tr fr e a) e a a) else ab_tr fr e a v)
      by_cases hva : v = a
      · rw [if_pos hva, hva]; exact z2
      · rw [if_neg hva]; exact R2 v (by omega)
    have inner : fr a = false → ∀ v, v ≤ a → ∀ (vv : Int32) (m2 : ev_Mem), vv = Int32.ofNat v → (∀ c i, c ≠ 275 → m2 c i = m c i) → (∀ u, u < a → m2 275 u = ab_oi (ab_tr fr e a u)) → m2 275 a = ab_oi (ab_ti (ab_tr fr e a) e a v) → ev_J w ev_m98 (ev_nd 98) Q 70 [ev_vr 273, ev_vr 209, ev_vr 40, ev_vn p, ev_vn a, ev_vi (ab_oi (ab_nat T p a)), ev_vi 0, ev_vi vv] [] m2 t := by
      intro hfalse
      refine ev_lup (P := fun v => ∀ (vv : Int32) (m2 : ev_Mem), vv = Int32.ofNat v → (∀ c i, c ≠ 275 → m2 c i = m c i) → (∀ u, u < a → m2 275 u = ab_oi (ab_tr fr e a u)) → m2 275 a = ab_oi (ab_ti (ab_tr fr e a) e a v) → ev_J w ev_m98 (ev_nd 98) Q 70 [ev_vr 273, ev_vr 209, ev_vr 40, ev_vn p, ev_vn a, ev_vi (ab_oi (ab_nat T p a)), ev_vi 0, ev_vi vv] [] m2 t) a (fun v hv ihv vv m2 evv f2 R2 z2 => ?_)
      subst evv
      have ev := ev_ofNat_i (n := v) (by omega)
      obtain ⟨eE2, eEq2⟩ := envE m2 f2
      refine ev_gK A hp [82, 125] 10 ?_
      refine And.intro (fun (y : (Int32.ofNat a).toInt ≤ (Int32.ofNat v).toInt) => ?_) (fun (y : (Int32.ofNat v).toInt < (Int32.ofNat a).toInt) => ?_)
      · have h : v = a := by omega
        subst h
        exact h125 m2 _ _ f2 R2 (by rw [if_neg (by rw [hfalse]; exact Bool.false_ne_true)]; exact z2)
      refine And.intro (fun y => absurd ev_eq00 y) (fun _ => ?_)
      have hva : v < a := by omega
      have hRv := R2 v hva
      have next : ∀ m3 : ev_Mem, (∀ c i, c ≠ 275 → m3 c i = m c i) → (∀ u, u < a → m3 275 u = ab_oi (ab_tr fr e a u)) → m3 275 a = ab_oi (ab_ti (ab_tr fr e a) e a (v + 1)) → ev_J w ev_m98 (ev_nd 98) Q 119 [ev_vr 273, ev_vr 209, ev_vr 40, ev_vn p, ev_vn a, ev_vi (ab_oi (ab_nat T p a)), ev_vi 0, ev_vn v] [] m3 t := by
        intro m3 f3 R3 z3
        refine ev_gK A hp [70] 10 ?_
        exact ihv hva _ m3 (ev_succ (by omega)) f3 R3 z3
      have same : ¬ (ab_tr fr e a v = some v ∧ e v a = true) → m2 275 a = ab_oi (ab_ti (ab_tr fr e a) e a (v + 1)) := fun hn => by rw [ab_ti, if_neg hn]; exact z2
      refine ev_gK A hp [94, 119] 10 ?_
      refine And.intro (ev_oin (by omega) (by decide)) ?_
      have hb : ∀ x, ab_tr fr e a v = some x → x < 100000 := fun x hx => by have := ab_tr_lt fr e a v x hx; omega
      refine And.intro (fun (y2 : ¬ (m2 275 (Int32.ofNat v).toNatClampNeg).toInt = (Int32.ofNat v).toInt) => ?_) (fun (y2 : (m2 275 (Int32.ofNat v).toNatClampNeg).toInt = (Int32.ofNat v).toInt) => ?_)
      · rw [ev_on (by omega), hRv] at y2
        exact next m2 f2 R2 (same (fun q => y2 (by rw [q.1]; rfl)))
      · rw [ev_on (by omega), hRv] at y2
        have hvv : ab_tr fr e a v = some v := ab_oi_inj hb (fun x hx => by cases hx; omega) (y2.trans rfl)
        refine ev_gK A hp [119] 20 ?_
        refine ev_S38 A (by omega) (by omega) (eE2.1.2.1 p hpT v (by omega)) (fun i hi => eE2.2.1.2.1 p v i hi) ?_
        have hn1 := ab_nat_ok eE2 hpT (v := v) (by omega)
        have hn2 := ab_nat_ok eE2 hpT ha4
        refine ev_S25 A (fun x hx => (hn1 x hx).1) (fun x hx => (hn2 x hx).1) ?_
        have ee : ab_eqm m2 205 (ab_num v (T.2.1 p v)) (ab_nat T p a) = e v a := by rw [hee]; exact ab_EQ_eqm eEq2 hn1 hn2
        rw [ee]
        refine And.intro (fun y3 => next m2 f2 R2 (same (fun q => by rw [ab_bi_eq y3] at q; exact Bool.false_ne_true q.2))) (fun y3 => ?_)
        have h3 := ab_bi_neq y3
        refine And.intro (ev_oin ha4 (by decide)) ?_
        refine next _ (fun c i z => by rw [ev_up_cell _ z]; exact f2 c i z) (fun u hu => by rw [ev_on (by omega), ev_up_idx _ _ (by omega)]; exact R2 u hu) ?_
        rw [ev_on (by omega), ev_up_same, ab_ti, if_pos ⟨hvv, h3⟩]
        rfl
    have h47 : ∀ b : Bool, fr a = b → ev_J w ev_m98 (ev_nd 98) Q 47 [ev_vr 273, ev_vr 209, ev_vr 40, ev_vn p, ev_vn a, ev_vi (ab_oi (ab_nat T p a)), o6, o7] [.int (ab_bi b)] mk t := by
      intro b hb
      have h66 : ∀ x : Int32, x = ab_oi (if b = true then none else some a) → ev_J w ev_m98 (ev_nd 98) Q 66 [ev_vr 273, ev_vr 209, ev_vr 40, ev_vn p, ev_vn a, ev_vi (ab_oi (ab_nat T p a)), ev_vi (ab_bi b), o7] [.int x, .int (Int32.ofNat a), .ref 275] mk t := by
        intro x hx
        refine ev_gK A hp [70] 10 ?_
        refine And.intro (ev_oin ha4 (by decide)) ?_
        show ev_J w ev_m98 (ev_nd 98) Q 70 [ev_vr 273, ev_vr 209, ev_vr 40, ev_vn p, ev_vn a, ev_vi (ab_oi (ab_nat T p a)), ev_vi (ab_bi b), ev_vn 0] [] (ev_up mk 275 (Int32.ofNat a).toNatClampNeg x) t
        rw [ev_on (by omega)]
        have f2 : ∀ c i, c ≠ 275 → ev_up mk 275 a x c i = m c i := fun c i z => by rw [ev_up_cell _ z]; exact fk c i z
        have R2 : ∀ u, u < a → ev_up mk 275 a x 275 u = ab_oi (ab_tr fr e a u) := fun u hu => by rw [ev_up_idx _ _ (by omega)]; exact Rk u hu
        cases b with
        | false => exact inner hb 0 (by omega) _ _ rfl f2 R2 (by rw [ev_up_same, hx]; rfl)
        | true =>
          have e0 : (Int32.ofNat 0).toInt = 0 := by decide
          refine ev_gK A hp [125] 10 ?_
          refine And.intro (fun _ => h125 _ _ _ f2 R2 (by rw [ev_up_same, hx, hb]; rfl)) (fun _ => ?_)
          refine And.intro (fun _ => h125 _ _ _ f2 R2 (by rw [ev_up_same, hx, hb]; rfl)) (fun y => absurd (y : (1 : Int32).toInt = 0) ev_ne10)
      refine ev_gK A hp [66] 20 ?_
      refine And.intro (fun y => ?_) (fun y => ?_)
      · have h1 := ab_bi_eq y
        exact h66 _ (by rw [h1]; rfl)
      · have h1 := ab_bi_neq y
        exact h66 _ (by rw [h1]; rfl)
    refine ev_gK A hp [27, 47] 20 ?_
    refine ev_S40 A eE.1 eE.2.1 ?_
    refine And.intro (fun y => ?_) (fun y => ?_)
    · have h1 := ab_bi_eq y
      exact h47 true (by rw [hfa]; unfold ab_free; rw [h1])
    have h1 := ab_bi_neq y
    show ev_J w ev_m98 (ev_nd 98) Q 27 [ev_vr 273, ev_vr 209, ev_vr 40, ev_vn p, ev_vn a, ev_vi (ab_oi (ab_nat T p a)), o6, o7] [] mk t
    cases hna : ab_nat T p a with
    | none =>
      have hff : fr a = false := by rw [hfa]; unfold ab_free; rw [h1, hna]
      have h2 := h47 false hff
      rw [hna] at h2
      refine ev_gK A hp [47] 10 ?_
      exact And.intro (fun _ => h2) (fun (y : ¬ (-1 : Int32).toInt = (-1 : Int32).toInt) => absurd rfl y)
    | some x =>
      obtain ⟨hx, hxt⟩ := hnok x hna
      have ex := ev_ofNat_i (n := x) (by omega)
      have hff : fr a = (fo x).isNone := by rw [hfa]; unfold ab_free; rw [h1, hna]
      have h2 := h47 _ hff
      rw [hna] at h2
      obtain ⟨hF, -⟩ := eE.2.2.1 x hx hxt
      have hgap : decide ((mk (45 + 4 * x) 1).toInt = -1) = (fo x).isNone := by
        cases hfx : fo x with
        | none => rw [hfx] at hF; exact decide_eq_true hF
        | some l =>
          rw [hfx] at hF
          have hL1 : (mk (45 + 4 * x) 1).toInt = (l.length : Int) := hF.1
          exact decide_eq_false (by omega)
      refine ev_gK A hp [47] 20 ?_
      refine And.intro (fun (y : (Int32.ofNat x).toInt = (Int32.ofInt (-1)).toInt) => by omega) (fun _ => ?_)
      refine ev_S21 A hx ?_
      rw [hgap]
      refine And.intro (fun y => ?_) (fun y => ?_)
      · rw [ab_bi_eq y] at h2; exact h2
      · rw [ab_bi_neq y] at h2; exact h2)
  refine ⟨Or.inr ⟨273, _, rfl, rfl⟩, ev_m98, rfl, ev_gK A hp [3] 10 ?_⟩
  exact outer 0 (by omega) _ m _ _ _ rfl (fun _ _ _ => rfl) (fun v hv => by omega)
/-- the changes at a place -/
def ab_iw (pa : Nat → Option Nat) (d : Nat) (s : (Nat → Nat) × Nat) : Nat → (Nat → Nat) × Nat
  | 0 => s
  | k + 1 => if ab_de pa 4 (pa k) = d then ab_hu pa (ab_iw pa d s k) k else ab_iw pa d s k
def ab_ow (pa : Nat → Option Nat) (s : (Nat → Nat) × Nat) : Nat → (Nat → Nat) × Nat
  | 0 => s
  | j + 1 => ab_iw pa (3 - j) (ab_ow pa s j) 4
def ab_lc (pa rd : Nat → Option Nat) : Nat := (ab_ow pa (ab_c0 rd, 0) 4).2
def ab_bd : Nat → Nat
  | 0 => 101
  | n + 1 => 2 * ab_bd n
theorem ab_bd_le : ∀ (n k : Nat), ab_bd k ≤ ab_bd (k + n)
  | 0, _ => Nat.le_refl _
  | n + 1, k => by
    have h := ab_bd_le n k
    rw [← Nat.add_assoc, ab_bd]
    omega
theorem ab_bd16 {n : Nat} (h : n ≤ 16) : ab_bd n ≤ 6619136 := by
  have h1 := ab_bd_le (16 - n) n
  rw [(by omega : n + (16 - n) = 16)] at h1
  exact h1
def ab_bnd (n : Nat) (s : (Nat → Nat) × Nat) : Prop := (∀ i, i < 16 → s.1 i < ab_bd n) ∧ s.2 ≤ n * 6619136
theorem ab_bnd_succ {n : Nat} {s : (Nat → Nat) × Nat} (h : ab_bnd n s) : ab_bnd (n + 1) s := ⟨fun i hi => by have := h.1 i hi; rw [ab_bd]; omega, Nat.le_trans h.2 (Nat.mul_le_mul_right _ (Nat.le_succ n))⟩
theorem ab_bnd_hu {n a : Nat} {pa : Nat → Option Nat} {s : (Nat → Nat) × Nat} (hok : ab_PAok pa) (hn : n ≤ 15) (ha : a < 4) (h : ab_bnd n s) : ab_bnd (n + 1) (ab_hu pa s a) := by
  have hl := ab_ls_lt h.1 ha 3 (by omega)
  have h16 := ab_bd16 (n := n) (by omega)
  have h2 := h.2
  unfold ab_hu
  split
  · refine ⟨fun i hi => by have := h.1 i hi; rw [ab_bd]; show s.1 i < _; omega, ?_⟩
    show s.2 + ab_ls s.1 a 3 ≤ _
    omega
  · rename_i v hv
    refine ⟨fun i hi => ?_, Nat.le_trans h.2 (Nat.mul_le_mul_right _ (Nat.le_succ n))⟩
    have h3 := h.1 i hi
    rw [ab_bd]
    show ab_hc s.1 v a (ab_ls s.1 a 3) 4 i < _
    unfold ab_hc
    split
    · rename_i q
      have hv4 := hok a v ha hv
      have h4 := h.1 (4 * a + (i - 4 * v)) (by omega)
      omega
    · omega
/-- Family.leastChanges -/
theorem ev_S97 {p : Nat} {T : ab_T} {fo : Nat → Option ab_Ls} {eq : Nat → Nat → Bool} {pa : Nat → Option Nat} (A : ev_all w) (hE : ab_E m T fo) (hEq : ab_EQ m eq) (hpT : p < T.1) (hF : ab_FA m pa) (hok : ab_PAok pa)
    (hQ : ∀ m', (∀ c i, c ≠ 275 → c ≠ 276 → m' c i = m c i) → ab_lc pa (ab_tr (ab_free T fo p) (fun a b => ab_eqo eq (ab_nat T p a) (ab_nat T p b)) 4) < 200000000 → Q (.inl (some (.int (Int32.ofNat (ab_lc pa (ab_tr (ab_free T fo p) (fun a b => ab_eqo eq (ab_nat T p a) (ab_nat T p b)) 4)))))) m' t) : ev_K w 97 [.ref 273, .ref 209, .ref 40, .int (Int32.ofNat p)] m t Q := by
  have hp : ev_prog[97]? = some ev_m97 := rfl
  have i4 := ev_i4
  refine ⟨Or.inr ⟨273, _, rfl, rfl⟩, ev_m97, rfl, ev_gK A hp [17] 30 ?_⟩
  refine ev_S98 A hE hEq hpT (fun m1 f1 R1 => ?_)
  generalize hrd : ab_tr (ab_free T fo p) (fun a b => ab_eqo eq (ab_nat T p a) (ab_nat T p b)) 4 = rd at *
  refine ev_S99 (rd := rd) A R1 (fun v x hv hx => by rw [← hrd] at hx; have := ab_tr_lt _ _ _ _ _ hx; omega) (fun m2 f2 C2 => ?_)
  have s0 : ab_bnd 0 (ab_c0 rd, 0) := ⟨fun i hi => by show ab_c0 rd i < 101; unfold ab_c0; split <;> omega, Nat.le_refl _⟩
  have inner : ∀ (j : Nat) (s : (Nat → Nat) × Nat), j < 4 → ab_bnd (4 * j) s → (∀ (mk : ev_Mem) (dd ss : Int32) (o6 : Option Value), dd = Int32.ofInt (((3 - j : Nat) : Int) - 1) → ss = Int32.ofNat (ab_iw pa (3 - j) s 4).2 → (∀ c i, c ≠ 275 → c ≠ 276 → mk c i = m c i) → ab_CM mk (ab_iw pa (3 - j) s 4).1 → ab_bnd (4 * j + 4) (ab_iw pa (3 - j) s 4) → ev_J w ev_m97 (ev_nd 97) Q 17 [ev_vr 273, ev_vr 209, ev_vr 40, ev_vn p, ev_vi ss, ev_vi dd, o6] [] mk t) →
      ∀ a, a ≤ 4 → ∀ (mk : ev_Mem) (aa ss : Int32), aa = Int32.ofNat a → ss = Int32.ofNat (ab_iw pa (3 - j) s a).2 → (∀ c i, c ≠ 275 → c ≠ 276 → mk c i = m c i) → ab_CM mk (ab_iw pa (3 - j) s a).1 → ab_bnd (4 * j + a) (ab_iw pa (3 - j) s a) → ev_J w ev_m97 (ev_nd 97) Q 25 [ev_vr 273, ev_vr 209, ev_vr 40, ev_vn p, ev_vi ss, ev_vn (3 - j), ev_vi aa] [] mk t := by
    intro j s hj hs kont
    refine ev_lup (P := fun a => ∀ (mk : ev_Mem) (aa ss : Int32), aa = Int32.ofNat a → ss = Int32.ofNat (ab_iw pa (3 - j) s a).2 → (∀ c i, c ≠ 275 → c ≠ 276 → mk c i = m c i) → ab_CM mk (ab_iw pa (3 - j) s a).1 → ab_bnd (4 * j + a) (ab_iw pa (3 - j) s a) → ev_J w ev_m97 (ev_nd 97) Q 25 [ev_vr 273, ev_vr 209, ev_vr 40, ev_vn p, ev_vi ss, ev_vn (3 - j), ev_vi aa] [] mk t) 4 (fun a ha ih mk aa ss eaa ess fk Ck Bk => ?_)
    subst eaa
    have ea := ev_ofNat_i (n := a) (by omega)
    have ed := ev_ofNat_i (n := 3 - j) (by omega)
    have Fk : ab_FA mk pa := fun v hv => by rw [fk _ _ (by decide) (by decide)]; exact hF v hv
    refine ev_gK A hp [31, 59] 10 ?_
    refine And.intro (fun (z : (Int32.ofInt 4).toInt ≤ (Int32.ofNat a).toInt) => ?_) (fun (z : (Int32.ofNat a).toInt < (Int32.ofInt 4).toInt) => ?_)
    · have h : a = 4 := by omega
      subst h
      refine ev_gK A hp [17] 10 ?_
      exact kont mk _ _ _ (ev_dec1 (by omega)) ess fk Ck Bk
    have ha4 : a < 4 := by omega
    have h16 := ab_bd16 (n := 4 * j + a) (by omega)
    have hde : ab_de pa 4 (pa a) < 100 := by
      have : ∀ n u, ab_de pa n u ≤ n := by
        intro n
        induction n with
        | zero => intro u; exact Nat.le_refl _
        | succ n ihn =>
          intro u
          cases u with
          | none => exact Nat.zero_le _
          | some x => exact Nat.succ_le_succ (ihn _)
      have := this 4 (pa a)
      omega
    have ede := ev_ofNat_i (n := ab_de pa 4 (pa a)) (by omega)
    refine ev_gK A hp [25, 42] 10 ?_
    refine ev_S100 A Fk hok ha4 ?_
    refine And.intro (fun (y : ¬ (Int32.ofNat (ab_de pa 4 (pa a))).toInt = (Int32.ofNat (3 - j)).toInt) => ?_) (fun (y : (Int32.ofNat (ab_de pa 4 (pa a))).toInt = (Int32.ofNat (3 - j)).toInt) => ?_)
    · have e1 : ab_iw pa (3 - j) s (a + 1) = ab_iw pa (3 - j) s a := if_neg (by omega)
      exact ih ha4 mk _ _ (ev_succ (by omega)) (by rw [e1]; exact ess) fk (by rw [e1]; exact Ck) (by rw [e1]; exact ab_bnd_succ Bk)
    · have e1 : ab_iw pa (3 - j) s (a + 1) = ab_hu pa (ab_iw pa (3 - j) s a) a := if_pos (by omega)
      have hB1 := ab_bnd_hu hok (by omega) ha4 Bk
      rw [← e1] at hB1
      have hl := ab_ls_lt Bk.1 ha4 3 (by omega)
      have hs2 := Bk.2
      refine ev_gK A hp [25] 20 ?_
      refine ev_S101 A Fk hok Ck Bk.1 (by omega) ha4 (fun hn => ?_) (fun v hv m3 f3 C3 => ?_)
      · have e2 : ab_hu pa (ab_iw pa (3 - j) s a) a = ((ab_iw pa (3 - j) s a).1, (ab_iw pa (3 - j) s a).2 + ab_ls (ab_iw pa (3 - j) s a).1 a 3) := by unfold ab_hu; rw [hn]
        refine ih ha4 mk _ _ (ev_succ (by omega)) ?_ fk (by rw [e1, e2]; exact Ck) hB1
        rw [e1, e2, ess]
        exact ev_addN (by omega)
      · have e2 : ab_hu pa (ab_iw pa (3 - j) s a) a = (ab_hc (ab_iw pa (3 - j) s a).1 v a (ab_ls (ab_iw pa (3 - j) s a).1 a 3) 4, (ab_iw pa (3 - j) s a).2) := by unfold ab_hu; rw [hv]
        refine ih ha4 m3 _ _ (ev_succ (by omega)) ?_ (fun c i z1 z2 => (f3 c i z2).trans (fk c i z1 z2)) (by rw [e1, e2]; exact C3) hB1
        rw [e1, e2, ess]
        exact (ev_addN (by omega)).trans rfl
  have outer := ev_lup (P := fun j => ∀ (mk : ev_Mem) (dd ss : Int32) (o6 : Option Value), dd = Int32.ofInt (((4 - j : Nat) : Int) - 1) → ss = Int32.ofNat (ab_ow pa (ab_c0 rd, 0) j).2 → (∀ c i, c ≠ 275 → c ≠ 276 → mk c i = m c i) → ab_CM mk (ab_ow pa (ab_c0 rd, 0) j).1 → ab_bnd (4 * j) (ab_ow pa (ab_c0 rd, 0) j) → ev_J w ev_m97 (ev_nd 97) Q 17 [ev_vr 273, ev_vr 209, ev_vr 40, ev_vn p, ev_vi ss, ev_vi dd, o6] [] mk t) 4 (by
    intro j hj ih mk dd ss o6 edd ess fk Ck Bk
    have edi : dd.toInt = ((4 - j : Nat) : Int) - 1 := by rw [edd, ev_ofInt_i (by omega) (by omega)]
    refine ev_gK A hp [25] 10 ?_
    refine And.intro (fun (z : dd.toInt < 0) => ?_) (fun (z : 0 ≤ dd.toInt) => ?_)
    · have h : j = 4 := by omega
      subst h
      have h2 := Bk.2
      rw [ess]
      exact hQ mk fk (by show (ab_ow pa (ab_c0 rd, 0) 4).2 < _; omega)
    · have hj4 : j < 4 := by omega
      have e3 : dd = Int32.ofNat (3 - j) := by
        rw [edd, (by omega : 4 - j = (3 - j) + 1)]
        exact ev_inc1 (by omega)
      rw [e3]
      refine inner j (ab_ow pa (ab_c0 rd, 0) j) hj4 Bk (fun mk dd ss o6 z1 z2 z3 z4 z5 => ih hj4 mk dd ss o6 (by rw [z1, (by omega : 4 - (j + 1) = 3 - j)]) z2 z3 z4 z5) 0 (by omega) mk _ _ rfl ess fk Ck Bk)
  exact outer 0 (by omega) m2 _ _ _ rfl rfl (fun c i z1 z2 => (f2 c i z2).trans (f1 c i z1)) C2 s0
end EvFamily2
