/-! the model: groups -/
section EvMsettle
variable {w : ev_W} {Q : ev_QT} {m : ev_Mem} {t : ev_H}
def ab_ML (m : ev_Mem) (W : Nat → List ab_Ls) : Prop := ∀ x, x < 40 → ab_there W x = true → m 281 x = Int32.ofNat (ab_sp W x).length ∧ ∀ k, k < (ab_sp W x).length → m 280 (6 * x + k) = (ab_sp W x).getD k 0
def ab_fz (o : Option ab_Ls) : ab_Ls := o.getD []
def ab_MF (m : ev_Mem) (th : Nat → Bool) (fo : Nat → Option ab_Ls) (n : Nat) : Prop := ∀ x, x < n → th x = true → (m 283 x = Int32.ofNat (ab_fz (fo x)).length ∧ (ab_fz (fo x)).length ≤ 12) ∧ ∀ k, k < (ab_fz (fo x)).length → m 282 (12 * x + k) = (ab_fz (fo x)).getD k 0
theorem ab_fo_gap {R : List (ab_Ls × ab_Ls)} {W : Nat → List ab_Ls} {x : Nat} : ab_fo R W x = none ↔ ab_sp W x = [] := by
  unfold ab_fo
  split
  · rename_i h; exact ⟨fun _ => h, fun _ => rfl⟩
  · rename_i h; exact ⟨fun q => (by cases q), fun q => absurd q h⟩
/-- isGap -/
theorem ev_S149 {x : Nat} {R : List (ab_Ls × ab_Ls)} {W : Nat → List ab_Ls} (A : ev_all w) (hL : ab_ML m W) (hW : ab_Wok W) (hx : x < 40) (ht : ab_there W x = true) (hQ : Q (.inl (some (.int (ab_bi (decide (ab_fo R W x = none)))))) m t) : ev_K w 149 [.ref 277, .int (Int32.ofNat x)] m t Q := by
  have hp : ev_prog[149]? = some ev_m149 := rfl
  have h6 := (ab_sp_ok hW hx ht).1
  have e1 := ev_toI (hL x hx ht).1 (by omega)
  refine ⟨Or.inr ⟨277, _, rfl, rfl⟩, ev_m149, rfl, ev_gK A hp [] 10 ?_⟩
  refine And.intro (ev_oin hx (by decide)) ?_
  refine And.intro (fun (h : ¬ (m 281 (Int32.ofNat x).toNatClampNeg).toInt = 0) => ?_) (fun (h : (m 281 (Int32.ofNat x).toNatClampNeg).toInt = 0) => ?_)
  · rw [ev_on (by omega)] at h
    rw [decide_eq_false (fun q => by rw [ab_fo_gap.mp q] at e1; exact h e1)] at hQ
    exact ⟨rfl, hQ⟩
  · rw [ev_on (by omega)] at h
    rw [decide_eq_true (ab_fo_gap.mpr (List.eq_nil_of_length_eq_zero (by omega)))] at hQ
    exact ⟨rfl, hQ⟩
def ab_sb (g : Bool) (a b : ab_Ls) : Nat → Bool
  | 0 => g && decide (a.length = b.length)
  | k + 1 => ab_sb g a b k && decide (a.getD k 0 = b.getD k 0)
theorem ab_sb_iff {g : Bool} {a b : ab_Ls} : ∀ k, (ab_sb g a b k = true ↔ ((g = true ∧ a.length = b.length) ∧ ∀ j, j < k → a.getD j 0 = b.getD j 0))
  | 0 => by
    rw [ab_sb, Bool.and_eq_true, decide_eq_true_eq]
    exact ⟨fun h => ⟨h, fun j hj => by omega⟩, fun h => h.1⟩
  | k + 1 => by
    rw [ab_sb, Bool.and_eq_true, ab_sb_iff k, decide_eq_true_eq]
    constructor
    · rintro ⟨⟨h1, h2⟩, h3⟩
      refine ⟨h1, fun j hj => ?_⟩
      by_cases hjk : j = k
      · rw [hjk]; exact h3
      · exact h2 j (by omega)
    · rintro ⟨h1, h2⟩
      exact ⟨⟨h1, fun j hj => h2 j (by omega)⟩, h2 k (by omega)⟩
theorem ab_sb_eq {x y : Option ab_Ls} : ab_sb (decide (x = none) == decide (y = none)) (ab_fz x) (ab_fz y) (ab_fz x).length = decide (x = y) := by
  rw [Bool.eq_iff_iff, ab_sb_iff, decide_eq_true_eq]
  constructor
  · rintro ⟨⟨h1, h2⟩, h3⟩
    have h4 : ab_fz x = ab_fz y := by
      apply List.ext_getElem h2
      intro i hi hj
      have h5 := h3 i hi
      rw [List.getD_eq_getElem?_getD, List.getD_eq_getElem?_getD, List.getElem?_eq_getElem hi, List.getElem?_eq_getElem hj] at h5
      exact h5
    cases x with
    | none => cases y with
      | none => rfl
      | some b => simp at h1
    | some a => cases y with
      | none => simp at h1
      | some b => exact congrArg some h4
  · rintro rfl
    exact ⟨⟨by simp, rfl⟩, fun j hj => rfl⟩
/-- alike -/
theorem ev_S148 {a b : Nat} {R : List (ab_Ls × ab_Ls)} {W : Nat → List ab_Ls} (A : ev_all w) (hL : ab_ML m W) (hW : ab_Wok W) (hF : ab_MF m (ab_there W) (ab_fo R W) 40) (ha : a < 40) (hb : b < 40) (hat : ab_there W a = true) (hbt : ab_there W b = true) (hQ : Q (.inl (some (.int (ab_bi (decide (ab_fo R W a = ab_fo R W b)))))) m t) : ev_K w 148 [.ref 277, .int (Int32.ofNat a), .int (Int32.ofNat b)] m t Q := by
  have hp : ev_prog[148]? = some ev_m148 := rfl
  obtain ⟨⟨a1, a2⟩, a3⟩ := hF a ha hat
  obtain ⟨⟨b1, b2⟩, b3⟩ := hF b hb hbt
  rw [← ab_sb_eq] at hQ
  have na : (Int32.ofNat a).toNatClampNeg = a := ev_on (by omega)
  have nb : (Int32.ofNat b).toNatClampNeg = b := ev_on (by omega)
  have ea := ev_toI a1 (by omega)
  have eb := ev_toI b1 (by omega)
  obtain ⟨G, hG⟩ : ∃ G, (decide (ab_fo R W a = none) == decide (ab_fo R W b = none)) = G := ⟨_, rfl⟩
  rw [hG] at hQ
  generalize hfa : ab_fz (ab_fo R W a) = fa at *
  generalize hfb : ab_fz (ab_fo R W b) = fb at *
  have loop := ev_lup (P := fun k => ∀ (kk bb : Int32), kk = Int32.ofNat k → bb = ab_bi (ab_sb G fa fb k) → ev_J w ev_m148 (ev_nd 148) Q 37 [ev_vr 277, ev_vn a, ev_vn b, ev_vi bb, ev_vi kk] [] m t) fa.length (by
    intro k hk ih kk bb ekk ebb
    subst ekk ebb
    have ek := ev_ofNat_i (n := k) (by omega)
    refine ev_gK A hp [52, 91] 20 ?_
    refine And.intro (ev_oin ha (by decide)) ?_
    refine And.intro (fun (h : (m 283 (Int32.ofNat a).toNatClampNeg).toInt ≤ (Int32.ofNat k).toInt) => ?_) (fun (h : (Int32.ofNat k).toInt < (m 283 (Int32.ofNat a).toNatClampNeg).toInt) => ?_)
    · rw [na] at h
      have e : k = fa.length := by omega
      subst e
      refine ev_gK A hp [] 10 ⟨?_, hQ⟩
      cases ab_sb G fa fb fa.length <;> rfl
    · rw [na] at h
      have hkl : k < fa.length := by omega
      refine And.intro (fun h2 => ?_) (fun h2 => ?_)
      · have h3 := ab_bi_eq h2
        have hfin : ab_sb G fa fb fa.length = false := by
          cases hb : ab_sb G fa fb fa.length with
          | false => rfl
          | true =>
            have h4 := (ab_sb_iff _).mp hb
            have h5 := (ab_sb_iff k).mpr ⟨h4.1, fun j hj => h4.2 j (by omega)⟩
            rw [h5] at h3; cases h3
        rw [hfin] at hQ
        show ev_J w ev_m148 (ev_nd 148) Q 91 [ev_vr 277, ev_vn a, ev_vn b, ev_vi (ab_bi (ab_sb G fa fb k)), ev_vn k] [] m t
        rw [h3]
        exact ev_gK A hp [] 10 ⟨rfl, hQ⟩
      · have h3 := ab_bi_neq h2
        have h4 := (ab_sb_iff k).mp h3
        have ia : (Int8.ofInt 12).toInt32 * Int32.ofNat a + Int32.ofNat k = Int32.ofNat (12 * a + k) := ev_lin (c := 12) (by omega) (by omega) (by omega)
        have ib : (Int8.ofInt 12).toInt32 * Int32.ofNat b + Int32.ofNat k = Int32.ofNat (12 * b + k) := ev_lin (c := 12) (by omega) (by omega) (by omega)
        have h84 : ∀ b' : Bool, b' = ab_sb G fa fb (k + 1) → ev_J w ev_m148 (ev_nd 148) Q 84 [ev_vr 277, ev_vn a, ev_vn b, ev_vi (ab_bi (ab_sb G fa fb k)), ev_vn k] [.int (ab_bi b')] m t := by
          intro b' hb'
          refine ev_gK A hp [37] 10 ?_
          exact ih hkl _ _ (ev_succ (by omega)) (by rw [hb'])
        refine ev_gK A hp [84] 30 ?_
        refine And.intro (ev_iin ia (by omega) (by decide)) ?_
        refine And.intro (ev_iin ib (by omega) (by decide)) ?_
        refine And.intro (fun (h5 : ¬ (m 282 ((Int8.ofInt 12).toInt32 * Int32.ofNat a + Int32.ofNat k).toNatClampNeg).toInt = (m 282 ((Int8.ofInt 12).toInt32 * Int32.ofNat b + Int32.ofNat k).toNatClampNeg).toInt) => ?_) (fun (h5 : (m 282 ((Int8.ofInt 12).toInt32 * Int32.ofNat a + Int32.ofNat k).toNatClampNeg).toInt = (m 282 ((Int8.ofInt 12).toInt32 * Int32.ofNat b + Int32.ofNat k).toNatClampNeg).toInt) => ?_)
        · rw [ev_at ia (by omega), ev_at ib (by omega), a3 k hkl, b3 k (by omega)] at h5
          exact h84 false (by rw [ab_sb, h3, decide_eq_false (fun e => h5 (by rw [e]))]; rfl)
        · rw [ev_at ia (by omega), ev_at ib (by omega), a3 k hkl, b3 k (by omega)] at h5
          exact h84 true (by rw [ab_sb, h3, decide_eq_true (ev_eq_of h5)]; rfl))
  have h33 : ∀ b' : Bool, b' = ab_sb G fa fb 0 → ev_J w ev_m148 (ev_nd 148) Q 33 [ev_vr 277, ev_vn a, ev_vn b, none, none] [.int (ab_bi b')] m t := by
    intro b' hb'
    refine ev_gK A hp [37] 10 ?_
    exact loop 0 (by omega) _ _ rfl (by rw [hb'])
  have bi_eq : ∀ x y : Bool, (ab_bi x).toInt = (ab_bi y).toInt ↔ (x == y) = true := by decide
  refine ⟨Or.inr ⟨277, _, rfl, rfl⟩, ev_m148, rfl, ev_gK A hp [33] 30 ?_⟩
  refine ev_S149 (R := R) A hL hW ha hat ?_
  refine ev_S149 (R := R) A hL hW hb hbt ?_
  refine And.intro (fun (h : ¬ (ab_bi (decide (ab_fo R W a = none))).toInt = (ab_bi (decide (ab_fo R W b = none))).toInt) => ?_) (fun (h : (ab_bi (decide (ab_fo R W a = none))).toInt = (ab_bi (decide (ab_fo R W b = none))).toInt) => ?_)
  · have hg : G = false := by
      cases hG2 : G with
      | false => rfl
      | true => exact absurd ((bi_eq _ _).mpr (hG.trans hG2)) h
    exact h33 false (by rw [ab_sb, hg]; rfl)
  · have hg : G = true := hG.symm.trans ((bi_eq _ _).mp h)
    refine And.intro (ev_oin ha (by decide)) ?_
    refine And.intro (ev_oin hb (by decide)) ?_
    refine And.intro (fun (h2 : ¬ (m 283 (Int32.ofNat a).toNatClampNeg).toInt = (m 283 (Int32.ofNat b).toNatClampNeg).toInt) => ?_) (fun (h2 : (m 283 (Int32.ofNat a).toNatClampNeg).toInt = (m 283 (Int32.ofNat b).toNatClampNeg).toInt) => ?_)
    · rw [na, nb, ea, eb] at h2
      exact h33 false (by rw [ab_sb, hg, decide_eq_false (by omega)]; rfl)
    · rw [na, nb, ea, eb] at h2
      exact h33 true (by rw [ab_sb, hg, decide_eq_true (by omega)]; rfl)
/-- even -/
def ab_evn (g : Nat → Nat) (a b : Nat) : Nat → Nat := fun x => if x = a ∨ x = b then min (g a) (g b) else g x
def ab_MG (m : ev_Mem) (th : Nat → Bool) (g : Nat → Nat) : Prop := ∀ x, x < 40 → th x = true → m 284 x = Int32.ofNat (g x)
theorem ev_S150 {a b : Nat} {th : Nat → Bool} {g : Nat → Nat} (A : ev_all w) (hG : ab_MG m th g) (ha : a < 40) (hb : b < 40) (hat : th a = true) (hbt : th b = true) (hga : g a < 40) (hgb : g b < 40) (hQ : ∀ m', (∀ c i, c ≠ 284 → m' c i = m c i) → ab_MG m' th (ab_evn g a b) → Q (.inl (some (.int (ab_bi (decide (¬ g a = g b)))))) m' t) : ev_K w 150 [.ref 277, .int (Int32.ofNat a), .int (Int32.ofNat b)] m t Q := by
  have hp : ev_prog[150]? = some ev_m150 := rfl
  have na : (Int32.ofNat a).toNatClampNeg = a := ev_on (by omega)
  have nb : (Int32.ofNat b).toNatClampNeg = b := ev_on (by omega)
  have ma := hG a ha hat
  have mb := hG b hb hbt
  have ea := ev_ofNat_i (n := g a) (by omega)
  have eb := ev_ofNat_i (n := g b) (by omega)
  have h51 : ∀ c : Bool, c = decide (¬ g a = g b) → ev_J w ev_m150 (ev_nd 150) Q 51 [ev_vr 277, ev_vn a, ev_vn b, ev_vn (min (g a) (g b)), none] [.int (ab_bi c)] m t := by
    intro c hc
    refine ev_gK A hp [] 20 ?_
    refine And.intro (ev_oin ha (by decide)) ?_
    refine And.intro (ev_oin hb (by decide)) ?_
    show narrow .boolean (.int (ab_bi c)) = .int (ab_bi c) ∧ Q (.inl (some (.int (ab_bi c)))) (ev_up (ev_up m 284 (Int32.ofNat a).toNatClampNeg (Int32.ofNat (min (g a) (g b)))) 284 (Int32.ofNat b).toNatClampNeg (Int32.ofNat (min (g a) (g b)))) t
    rw [na, nb, hc]
    refine ⟨by cases decide (¬ g a = g b) <;> rfl, hQ _ (fun c i z => by rw [ev_up_cell _ z, ev_up_cell _ z]) (fun x hx hxt => ?_)⟩
    unfold ab_evn
    by_cases hxb : x = b
    · rw [hxb, ev_up_same, if_pos (Or.inr rfl)]
    · rw [ev_up_idx _ _ hxb]
      by_cases hxa : x = a
      · rw [hxa, ev_up_same, if_pos (Or.inl rfl)]
      · rw [ev_up_idx _ _ hxa, if_neg (fun q => q.elim hxa hxb)]
        exact hG x hx hxt
  have h30 : ∀ v : Nat, v = min (g a) (g b) → ev_J w ev_m150 (ev_nd 150) Q 30 [ev_vr 277, ev_vn a, ev_vn b, none, none] [.int (Int32.ofNat v)] m t := by
    intro v hv
    subst hv
    refine ev_gK A hp [51] 20 ?_
    refine And.intro (ev_oin ha (by decide)) ?_
    refine And.intro (ev_oin hb (by decide)) ?_
    refine And.intro (fun (h : (m 284 (Int32.ofNat a).toNatClampNeg).toInt = (m 284 (Int32.ofNat b).toNatClampNeg).toInt) => ?_) (fun (h : ¬ (m 284 (Int32.ofNat a).toNatClampNeg).toInt = (m 284 (Int32.ofNat b).toNatClampNeg).toInt) => ?_)
    · rw [na, nb, ma, mb] at h
      exact h51 false (decide_eq_false (fun q => q (by omega))).symm
    · rw [na, nb, ma, mb] at h
      exact h51 true (decide_eq_true (show ¬ g a = g b by omega)).symm
  refine ⟨Or.inr ⟨277, _, rfl, rfl⟩, ev_m150, rfl, ev_gK A hp [30] 20 ?_⟩
  refine And.intro (ev_oin ha (by decide)) ?_
  refine And.intro (ev_oin hb (by decide)) ?_
  refine And.intro (fun (h : (m 284 (Int32.ofNat b).toNatClampNeg).toInt ≤ (m 284 (Int32.ofNat a).toNatClampNeg).toInt) => ?_) (fun (h : (m 284 (Int32.ofNat a).toNatClampNeg).toInt < (m 284 (Int32.ofNat b).toNatClampNeg).toInt) => ?_)
  · rw [na, nb, ma, mb] at h
    refine And.intro (ev_oin hb (by decide)) ?_
    show ev_J w ev_m150 (ev_nd 150) Q 30 [ev_vr 277, ev_vn a, ev_vn b, none, none] [.int (m 284 (Int32.ofNat b).toNatClampNeg)] m t
    rw [nb, mb]
    exact h30 (g b) (by omega)
  · rw [na, nb, ma, mb] at h
    refine And.intro (ev_oin ha (by decide)) ?_
    show ev_J w ev_m150 (ev_nd 150) Q 30 [ev_vr 277, ev_vn a, ev_vn b, none, none] [.int (m 284 (Int32.ofNat a).toNatClampNeg)] m t
    rw [na, ma]
    exact h30 (g a) (by omega)
/-- sums, marks -/
def ab_su (g : Nat → Nat) : Nat → Nat
  | 0 => 0
  | k + 1 => ab_su g k + g k
theorem ab_su_le {g g' : Nat → Nat} (h : ∀ x, g' x ≤ g x) : ∀ n, ab_su g' n ≤ ab_su g n
  | 0 => Nat.le_refl _
  | n + 1 => by
    have h1 := ab_su_le h n
    have h2 := h n
    rw [ab_su, ab_su]; omega
theorem ab_su_lt {g g' : Nat → Nat} (h : ∀ x, g' x ≤ g x) {x : Nat} (hx : g' x < g x) : ∀ n, x < n → ab_su g' n < ab_su g n
  | 0, hn => by omega
  | n + 1, hn => by
    have h2 := h n
    rw [ab_su, ab_su]
    by_cases hxn : x = n
    · subst hxn
      have h1 := ab_su_le h x
      omega
    · have h1 := ab_su_lt h hx n (by omega)
      omega
theorem ab_evn_le (g : Nat → Nat) (a b x : Nat) : ab_evn g a b x ≤ g x := by
  unfold ab_evn
  split
  · rename_i h
    rcases h with h | h <;> rw [h] <;> omega
  · exact Nat.le_refl _
theorem ab_evn_eq {g : Nat → Nat} {a b : Nat} (h : g a = g b) : ab_evn g a b = g := by
  funext x
  unfold ab_evn
  split
  · rename_i q
    rcases q with q | q <;> rw [q] <;> omega
  · rfl
theorem ab_evn_lt {g : Nat → Nat} {a b : Nat} (ha : a < 40) (hb : b < 40) (h : ¬ g a = g b) : ab_su (ab_evn g a b) 40 < ab_su g 40 := by
  by_cases hab : g a < g b
  · refine ab_su_lt (ab_evn_le g a b) (x := b) ?_ 40 hb
    unfold ab_evn
    rw [if_pos (Or.inr rfl)]
    omega
  · refine ab_su_lt (ab_evn_le g a b) (x := a) ?_ 40 ha
    unfold ab_evn
    rw [if_pos (Or.inl rfl)]
    omega
def ab_gI (th : Nat → Bool) (mk : Nat → Option Nat) (g : Nat → Nat) : Prop := ∀ x, x < 40 → th x = true → g x < 40 ∧ th (g x) = true ∧ mk (g x) = mk x
theorem ab_gI_evn {th : Nat → Bool} {mk : Nat → Option Nat} {g : Nat → Nat} {a b : Nat} (h : ab_gI th mk g) (ha : a < 40) (hb : b < 40) (hat : th a = true) (hbt : th b = true) (hm : mk a = mk b) : ab_gI th mk (ab_evn g a b) := by
  intro x hx hxt
  obtain ⟨a1, a2, a3⟩ := h a ha hat
  obtain ⟨b1, b2, b3⟩ := h b hb hbt
  have hmin : min (g a) (g b) < 40 ∧ th (min (g a) (g b)) = true ∧ mk (min (g a) (g b)) = mk a := by
    by_cases hab : g a ≤ g b
    · rw [Nat.min_eq_left hab]; exact ⟨a1, a2, a3⟩
    · rw [Nat.min_eq_right (by omega)]; exact ⟨b1, b2, b3.trans hm.symm⟩
  unfold ab_evn
  split
  · rename_i q
    refine ⟨hmin.1, hmin.2.1, hmin.2.2.trans ?_⟩
    rcases q with q | q
    · rw [q]
    · rw [q]; exact hm
  · exact h x hx hxt
theorem ab_mke_keep {th : Nat → Bool} {mk : Nat → Option Nat} {q : Nat × Nat} {x y : Nat} (hx : th x = true) (hy : th y = true) (h : mk x = mk y) : ab_mke th mk q x = ab_mke th mk q y := by
  unfold ab_mke
  rw [h]
  by_cases hc : mk y = mk q.1
  · rw [if_pos ⟨hx, hc⟩, if_pos ⟨hy, hc⟩]
  · rw [if_neg (fun z => hc z.2), if_neg (fun z => hc z.2)]
theorem ab_fold_keep {th : Nat → Bool} {x y : Nat} (hx : th x = true) (hy : th y = true) : ∀ (ps : List (Nat × Nat)) (mk : Nat → Option Nat), mk x = mk y → ps.foldl (ab_mke th) mk x = ps.foldl (ab_mke th) mk y
  | [], _, h => h
  | q :: ps, mk0, h => ab_fold_keep hx hy ps (ab_mke th mk0 q) (ab_mke_keep hx hy h)
theorem ab_mkp_al {th : Nat → Bool} {fo : Nat → Option ab_Ls} {ps : List (Nat × Nat)} {x y : Nat} (hx : th x = true) (hy : th y = true) (h : fo x = fo y) : ab_mkp th fo ps x = ab_mkp th fo ps y :=
  ab_fold_keep hx hy ps _ (by unfold ab_mk1; rw [h])
theorem ab_mkp_pr {th : Nat → Bool} : ∀ (ps : List (Nat × Nat)) (mk : Nat → Option Nat) (q : Nat × Nat), q ∈ ps → th q.1 = true → th q.2 = true → ps.foldl (ab_mke th) mk q.1 = ps.foldl (ab_mke th) mk q.2
  | [], _, _, h, _, _ => by cases h
  | p :: ps, mk0, q, h, h1, h2 => by
    rcases List.mem_cons.mp h with h | h
    · subst h
      refine ab_fold_keep h1 h2 ps (ab_mke th mk0 q) ?_
      unfold ab_mke
      rw [if_pos ⟨h1, rfl⟩]
      split <;> rfl
    · exact ab_mkp_pr ps (ab_mke th mk0 p) q h h1 h2
theorem ab_mkp_min {th : Nat → Bool} {fo : Nat → Option ab_Ls} {g : Nat → Nat} (h0 : ∀ x y, x < 40 → y < 40 → th x = true → th y = true → fo x = fo y → g x = g y) (ps : List (Nat × Nat)) (hps : ∀ q ∈ ps, ((q.1 < 40 ∧ th q.1 = true) ∧ (q.2 < 40 ∧ th q.2 = true)) ∧ g q.1 = g q.2) : ∀ x y, x < 40 → y < 40 → th x = true → th y = true → ab_mkp th fo ps x = ab_mkp th fo ps y → g x = g y := by
  have key : ∀ (ps : List (Nat × Nat)) (mk0 : Nat → Option Nat), (∀ q ∈ ps, ((q.1 < 40 ∧ th q.1 = true) ∧ (q.2 < 40 ∧ th q.2 = true)) ∧ g q.1 = g q.2) → (∀ x y, x < 40 → y < 40 → th x = true → th y = true → mk0 x = mk0 y → g x = g y) → ∀ x y, x < 40 → y < 40 → th x = true → th y = true → ps.foldl (ab_mke th) mk0 x = ps.foldl (ab_mke th) mk0 y → g x = g y := by
    intro ps
    induction ps with
    | nil => intro mk0 _ h; exact h
    | cons q ps ih =>
      intro mk0 hq h
      obtain ⟨⟨⟨q1, q1t⟩, q2, q2t⟩, qg⟩ := hq q List.mem_cons_self
      refine ih (ab_mke th mk0 q) (fun r hr => hq r (List.mem_cons_of_mem _ hr)) (fun x y hx hy hxt hyt he => ?_)
      unfold ab_mke at he
      by_cases c1 : mk0 x = mk0 q.1
      · rw [if_pos ⟨hxt, c1⟩] at he
        have gx := h x q.1 hx q1 hxt q1t c1
        by_cases c2 : mk0 y = mk0 q.1
        · have gy := h y q.1 hy q1 hyt q1t c2
          rw [gx, gy]
        · rw [if_neg (fun z => c2 z.2)] at he
          have gy := h q.2 y q2 hy q2t hyt he
          rw [gx, qg, gy]
      · rw [if_neg (fun z => c1 z.2)] at he
        by_cases c2 : mk0 y = mk0 q.1
        · rw [if_pos ⟨hyt, c2⟩] at he
          have gy := h y q.1 hy q1 hyt q1t c2
          have gx := h x q.2 hx q2 hxt q2t he
          rw [gx, gy, qg]
        · rw [if_neg (fun z => c2 z.2)] at he
          exact h x y hx hy hxt hyt he
  refine key ps (ab_mk1 th fo) hps (fun x y hx hy hxt hyt he => h0 x y hx hy hxt hyt ((ab_mk1_iff (fo := fo) hx hy hxt hyt).mp he))
end EvMsettle
