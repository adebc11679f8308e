/-! the model: a word in all its places -/
section EvMconc
variable {w : ev_W} {Q : ev_QT} {m : ev_Mem} {t : ev_H} {z : ab_Z}
theorem ab_ls_ext {a b : ab_Ls} (h : a.length = b.length) (h2 : ∀ k, k < b.length → a.getD k 0 = b.getD k 0) : a = b := by
  apply List.ext_getElem h
  intro i h3 h4
  have := h2 i h4
  rw [List.getD_eq_getElem?_getD, List.getD_eq_getElem?_getD, List.getElem?_eq_getElem h3, List.getElem?_eq_getElem h4] at this
  exact this
/-- isText -/
theorem ev_S200 {x : Nat} {l : ab_Ls} {b : Bool} (A : ev_all w) (hL : ab_ML m (zW z)) (hF : ab_MF m (zt z) (zf z) 40) (hok : ab_ok z) (hx : x < 40) (hxt : zt z x = true) (hX : ab_MX m l) (hl : l.length ≤ 16) (hb : b = true → l = []) (hQ : Q (.inl (some (.int (ab_bi (decide (zf z x = if b = true then none else some l)))))) m t) : ev_K w 200 [.ref 277, .int (Int32.ofNat x), .int (ab_bi b)] m t Q := by
  have hp : ev_prog[200]? = some ev_m200 := rfl
  obtain ⟨⟨f1, f2⟩, f3⟩ := hF x hx hxt
  have f1' : m 283 (Int32.ofNat x).toNatClampNeg = Int32.ofNat (ab_fz (zf z x)).length := by rw [ev_on (by omega)]; exact f1
  have i283 := ev_toI f1' (by omega)
  have i18 := ev_toI hX.1 (by omega)
  have key : (zf z x = if b = true then none else some l) ↔ (decide (zf z x = none) = b ∧ (ab_fz (zf z x)).length = l.length ∧ ∀ k, k < l.length → (ab_fz (zf z x)).getD k 0 = l.getD k 0) := by
    cases hfx : zf z x with
    | none =>
      cases b with
      | true =>
        rw [hb rfl]
        exact ⟨fun _ => ⟨rfl, rfl, fun k hk => absurd hk (Nat.not_lt_zero _)⟩, fun _ => rfl⟩
      | false => exact ⟨fun q => by simp at q, fun q => by simp at q⟩
    | some f =>
      cases b with
      | true => exact ⟨fun q => by simp at q, fun q => by simp at q⟩
      | false =>
        refine ⟨fun q => ?_, fun q => ?_⟩
        · have e : f = l := by simpa using q
          subst e
          exact ⟨rfl, rfl, fun _ _ => rfl⟩
        · have e : f = l := ab_ls_ext q.2.1 q.2.2
          rw [e]; rfl
  have h78 : ∀ (c : Bool) (o4 : Option Value), (c = true ↔ decide (zf z x = none) = b ∧ (ab_fz (zf z x)).length = l.length ∧ ∀ k, k < l.length → (ab_fz (zf z x)).getD k 0 = l.getD k 0) → ev_J w ev_m200 (ev_nd 200) Q 78 [ev_vr 277, ev_vn x, ev_vi (ab_bi b), ev_vi (ab_bi c), o4] [] m t := by
    intro c o4 hc
    refine ev_gK A hp [] 10 ?_
    cases c with
    | false =>
      rw [decide_eq_false (fun q => by have := hc.mpr (key.mp q); cases this)] at hQ
      exact ⟨rfl, hQ⟩
    | true =>
      rw [decide_eq_true (key.mpr (hc.mp rfl))] at hQ
      exact ⟨rfl, hQ⟩
  have loop := ev_lup (P := fun k => ∀ (kk : Int32) (c : Bool), kk = Int32.ofNat k → (c = true ↔ decide (zf z x = none) = b ∧ (ab_fz (zf z x)).length = l.length ∧ ∀ j, j < k → (ab_fz (zf z x)).getD j 0 = l.getD j 0) → ev_J w ev_m200 (ev_nd 200) Q 31 [ev_vr 277, ev_vn x, ev_vi (ab_bi b), ev_vi (ab_bi c), ev_vi kk] [] m t) l.length (by
    intro k hk ih kk c ekk hc
    subst ekk
    have ek := ev_ofNat_i (n := k) (by omega)
    refine ev_gK A hp [40, 78] 10 ?_
    refine And.intro (fun (h3 : (m 277 18).toInt ≤ (Int32.ofNat k).toInt) => ?_) (fun (h3 : (Int32.ofNat k).toInt < (m 277 18).toInt) => ?_)
    · have e : k = l.length := by omega
      subst e
      exact h78 c _ hc
    have hkl : k < l.length := by omega
    refine ev_gK A hp [44, 78] 10 ?_
    refine And.intro (fun h4 => h78 c _ ?_) (fun h4 => ?_)
    · have h5 := ab_bi_eq h4
      rw [h5] at hc ⊢
      exact ⟨fun q => (by cases q), fun q => hc.mpr ⟨q.1, q.2.1, fun j hj => q.2.2 j (by omega)⟩⟩
    obtain ⟨d1, d2, d3⟩ := hc.mp (ab_bi_neq h4)
    have e2 : (Int8.ofInt 12).toInt32 * Int32.ofNat x + Int32.ofNat k = Int32.ofNat (12 * x + k) := ev_lin (c := 12) (by omega) (by omega) (by omega)
    have c2 : m 282 ((Int8.ofInt 12).toInt32 * Int32.ofNat x + Int32.ofNat k).toNatClampNeg = (ab_fz (zf z x)).getD k 0 := by rw [ev_at e2 (by omega)]; exact f3 k (by omega)
    have c1 : m 291 (Int32.ofNat k).toNatClampNeg = l.getD k 0 := by rw [ev_on (by omega)]; exact hX.2 k hkl
    have h71 : ∀ b2 : Bool, (b2 = true ↔ (ab_fz (zf z x)).getD k 0 = l.getD k 0) → ev_J w ev_m200 (ev_nd 200) Q 71 [ev_vr 277, ev_vn x, ev_vi (ab_bi b), ev_vi (ab_bi c), ev_vn k] [.int (ab_bi b2)] m t := by
      intro b2 hb3
      refine ev_gK A hp [31] 10 ?_
      refine ih hkl _ b2 (ev_succ (by omega)) ?_
      rw [hb3]
      refine ⟨fun q => ⟨d1, d2, fun j hj => ?_⟩, fun q => q.2.2 k (by omega)⟩
      by_cases hjk : j = k
      · rw [hjk]; exact q
      · exact d3 j (by omega)
    refine ev_gK A hp [71] 40 ?_
    refine And.intro (ev_iin e2 (by omega) (by decide)) ?_
    refine And.intro (ev_oin (by omega) (by decide)) ?_
    refine And.intro (fun (h5 : ¬ (m 282 ((Int8.ofInt 12).toInt32 * Int32.ofNat x + Int32.ofNat k).toNatClampNeg).toInt = (m 291 (Int32.ofNat k).toNatClampNeg).toInt) => ?_) (fun (h5 : (m 282 ((Int8.ofInt 12).toInt32 * Int32.ofNat x + Int32.ofNat k).toNatClampNeg).toInt = (m 291 (Int32.ofNat k).toNatClampNeg).toInt) => ?_)
    · rw [c1, c2] at h5
      exact h71 false ⟨fun q => (by cases q), fun q => absurd (by rw [q]) h5⟩
    · rw [c1, c2] at h5
      exact h71 true ⟨fun _ => ev_eq_of h5, fun _ => rfl⟩)
  have h27 : ∀ c : Bool, (c = true ↔ decide (zf z x = none) = b ∧ (ab_fz (zf z x)).length = l.length) → ev_J w ev_m200 (ev_nd 200) Q 27 [ev_vr 277, ev_vn x, ev_vi (ab_bi b), none, none] [.int (ab_bi c)] m t := by
    intro c hc
    refine ev_gK A hp [31] 10 ?_
    exact loop 0 (by omega) _ c rfl ⟨fun q => ⟨(hc.mp q).1, (hc.mp q).2, fun j hj => absurd hj (Nat.not_lt_zero _)⟩, fun q => hc.mpr ⟨q.1, q.2.1⟩⟩
  refine ⟨Or.inr ⟨277, _, rfl, rfl⟩, ev_m200, rfl, ev_gK A hp [27] 20 ?_⟩
  refine ev_S149 (R := zR z) A hL hok.2.2.1 hx hxt ?_
  refine And.intro (fun (h : ¬ (ab_bi (decide (zf z x = none))).toInt = (ab_bi b).toInt) => h27 false ⟨fun q => (by cases q), fun q => absurd (by rw [q.1]) h⟩) (fun (h : (ab_bi (decide (zf z x = none))).toInt = (ab_bi b).toInt) => ?_)
  have hbb : decide (zf z x = none) = b := by
    generalize decide (zf z x = none) = c at h
    cases c <;> cases b <;> first | rfl | exact absurd h (by decide)
  refine And.intro (ev_oin hx (by decide)) ?_
  exact And.intro (fun (h2 : ¬ (m 283 (Int32.ofNat x).toNatClampNeg).toInt = (m 277 18).toInt) => h27 false ⟨fun q => (by cases q), fun q => by omega⟩) (fun (h2 : (m 283 (Int32.ofNat x).toNatClampNeg).toInt = (m 277 18).toInt) => h27 true ⟨fun _ => ⟨hbb, by omega⟩, fun _ => rfl⟩)
/-- the group of the last one alike -/
def ab_gl (al : Nat → Bool) (g : Nat → Nat) : Nat → Option Nat
  | 0 => none
  | k + 1 => if al k = true then some (g k) else ab_gl al g k
theorem ab_gl_none {al : Nat → Bool} {g : Nat → Nat} : ∀ n, (∀ k, k < n → al k = false) → ab_gl al g n = none
  | 0, _ => rfl
  | n + 1, h => by
    rw [ab_gl, if_neg (by rw [h n (by omega)]; exact Bool.false_ne_true)]
    exact ab_gl_none n (fun k hk => h k (by omega))
theorem ab_gl_some {al : Nat → Bool} {g : Nat → Nat} : ∀ n, (∃ k, k < n ∧ al k = true) → ∃ k, k < n ∧ al k = true ∧ ab_gl al g n = some (g k)
  | 0, h => by obtain ⟨k, hk, _⟩ := h; omega
  | n + 1, h => by
    rw [ab_gl]
    by_cases hn : al n = true
    · exact ⟨n, by omega, hn, if_pos hn⟩
    · obtain ⟨k, hk, hak⟩ := h
      have hkn : k < n := by
        by_cases e : k = n
        · subst e; exact absurd hak hn
        · omega
      obtain ⟨j, h1, h2, h3⟩ := ab_gl_some (g := g) n ⟨k, hkn, hak⟩
      exact ⟨j, by omega, h2, by rw [if_neg hn]; exact h3⟩
/-- concord -/
theorem ev_S199 (A : ev_all w) (hs : ab_RepM m z) (hok : ab_ok z) (hQ : ab_PM m t true (ab_concord z) Q) : ev_K w 199 [.ref 277] m t Q := by
  have hp : ev_prog[199]? = some ev_m199 := rfl
  obtain ⟨⟨k1, k2⟩, ⟨k3, k4⟩, k5, -⟩ := id hok
  obtain ⟨c1, c2, c3, c4, c5, ⟨g, g1, g2, g3⟩, -⟩ := id hs
  have e40 : ((Int8.ofInt 40).toInt32).toInt = 40 := by decide
  have n10 : ¬ (10 : Int32) = 0 := by decide
  -- what is alike
  obtain ⟨al, hal⟩ : ∃ al : Nat → Bool, al = fun x => zt z x && decide (zf z x = ab_dfo z) := ⟨_, rfl⟩
  obtain ⟨cd, hcd⟩ : ∃ cd : Nat → Bool, cd = fun x => zt z x && decide (ab_gl al g 40 = some (g x)) := ⟨_, rfl⟩
  have glt : ∀ v n, ab_gl al g n = some v → n ≤ 40 → v < 40 := by
    intro v n
    induction n with
    | zero => intro h; cases h
    | succ n ih =>
      intro h hn
      rw [ab_gl] at h
      split at h
      · rename_i ha
        cases h
        rw [hal, Bool.and_eq_true] at ha
        exact g2 n (by omega) ha.1
      · exact ih h (by omega)
  have efds : ((List.range 40).filter cd).map (fun x => 100 * (x / 10) + x % 10) = ab_fds z := by
    unfold ab_fds
    cases hfind : (List.range 40).find? (fun x => zt z x && decide (zf z x = ab_dfo z)) with
    | none =>
      have hno : ∀ k, k < 40 → al k = false := by
        intro k hk
        have := List.find?_eq_none.mp hfind k (List.mem_range.mpr hk)
        rw [hal]
        exact Bool.eq_false_iff.mpr this
      have : (List.range 40).filter cd = [] := by
        rw [List.filter_eq_nil_iff]
        intro a ha
        rw [hcd]
        dsimp only
        rw [ab_gl_none 40 hno]
        simp
      rw [this]; rfl
    | some y =>
      have hy40 : y < 40 := List.mem_range.mp (List.mem_of_find?_eq_some hfind)
      have hya := List.find?_some hfind
      have hya2 : al y = true := by rw [hal]; exact hya
      rw [Bool.and_eq_true] at hya
      obtain ⟨y2, hy2, hy2a, hgl⟩ := ab_gl_some (g := g) 40 ⟨y, hy40, hya2⟩
      rw [hal, Bool.and_eq_true] at hy2a
      have hff : zf z y2 = zf z y := (of_decide_eq_true hy2a.2).trans (of_decide_eq_true hya.2).symm
      have hgg : g y2 = g y := (g3 y2 y hy2 hy40 hy2a.1 hya.1).mpr (decide_eq_true (ab_mkp_al hy2a.1 hya.1 hff))
      dsimp only
      refine congrArg (List.map _) (List.filter_congr (fun x hx => ?_))
      have hx40 := List.mem_range.mp hx
      rw [hcd]
      dsimp only
      rw [hgl, hgg]
      cases hxt : zt z x with
      | false => rfl
      | true =>
        rw [Bool.true_and, Bool.true_and]
        have h1 := g3 x y hx40 hy40 hxt hya.1
        cases hq : zq z x y with
        | true => exact decide_eq_true (by rw [h1.mpr hq])
        | false =>
          refine decide_eq_false (fun q => ?_)
          have q2 : g y = g x := by injection q
          have := h1.mp q2.symm
          rw [hq] at this
          cases this
  -- the form of the draft
  have ed : ab_dfo z = if decide (zD z = []) = true then none else some (ab_form (zR z) (zD z)) := by
    unfold ab_dfo
    by_cases h : zD z = []
    · rw [if_pos h, if_pos (decide_eq_true h)]
    · rw [if_neg h, if_neg (by rw [decide_eq_false h]; exact Bool.false_ne_true)]
  have hfl : (ab_form (zR z) (zD z)).length ≤ 16 := by
    have h2 := ab_br_len k4 (zD z) (zD z).length 0
    show (ab_br (zR z) (zD z) (zD z).length 0).length ≤ 16
    omega
  have hfe : decide (zD z = []) = true → ab_form (zR z) (zD z) = [] := fun h => by
    rw [of_decide_eq_true h]; rfl
  refine ⟨Or.inr ⟨277, _, rfl, rfl⟩, ev_m199, rfl, ev_gK A hp [] 7 ?_⟩
  show ev_J w ev_m199 (ev_nd 199) Q 11 [ev_vr 277, none, none] [.int (ev_up m 277 0 (Int32.ofNat 0) 277 2), .int (-1), .ref 277] (ev_up m 277 0 (Int32.ofNat 0)) t
  have u1 : ∀ c i, ¬ (c = 277 ∧ i = 0) → ev_up m 277 0 (Int32.ofNat 0) c i = m c i := fun c i h => if_neg h
  have u0 : ev_up m 277 0 (Int32.ofNat 0) 277 0 = Int32.ofNat 0 := ev_up_same _ _ _ _
  rw [u1 277 2 (by decide), c1.1]
  generalize ev_up m 277 0 (Int32.ofNat 0) = m1 at *
  refine ev_gK A hp [14] 10 ?_
  refine ev_S144 (x := none) (l := zD z) (rs := zR z) A (ab_MR_frt (fun c i hc => u1 c i (by omega)) c2) k4 k3 ⟨k1, fun k hk => by rw [u1 _ _ (by omega)]; exact c1.2 k hk⟩ (fun m2 f2 X2 => ?_)
  have v1 : ∀ c i, ¬ (c = 277 ∧ (i = 0 ∨ i = 18)) → c ≠ 291 → m2 c i = m c i := fun c i h h2 => by rw [f2 c i (by omega) h2]; exact u1 c i (by omega)
  have v0 : m2 277 0 = Int32.ofNat 0 := by rw [f2 _ _ (by omega) (by decide)]; exact u0
  have i2 : (m2 277 2).toInt = ((zD z).length : Int) := by rw [v1 _ _ (by omega) (by decide), c1.1]; exact ev_ofNat_i (by omega)
  have L2 : ab_ML m2 (zW z) := fun x hx ht => ⟨by rw [v1 _ _ (by omega) (by decide)]; exact (c4 x hx ht).1, fun k hk => by rw [v1 _ _ (by omega) (by decide)]; exact (c4 x hx ht).2 k hk⟩
  have F2 : ab_MF m2 (zt z) (zf z) 40 := fun x hx ht => ⟨⟨by rw [v1 _ _ (by omega) (by decide)]; exact (c5 x hx ht).1.1, (c5 x hx ht).1.2⟩, fun k hk => by rw [v1 _ _ (by omega) (by decide)]; exact (c5 x hx ht).2 k hk⟩
  have S2 : ab_MS m2 (zW z) := fun v hv => by rw [v1 _ _ (by omega) (by decide)]; exact c3 v hv
  have G2 : ab_MG m2 (zt z) g := fun x hx ht => by rw [v1 _ _ (by omega) (by decide)]; exact g1 x hx ht
  -- the finds
  have fl : ∀ k, (((List.range k).filter cd).map (fun x => 100 * (x / 10) + x % 10)).length ≤ k := by
    intro k
    rw [List.length_map]
    have h := List.length_filter_le cd (List.range k)
    rw [List.length_range] at h
    exact h
  have loop2 := ev_lup (P := fun k => ∀ (kk : Int32) (mk : ev_Mem), kk = Int32.ofNat k → (∀ c i, ¬ (c = 277 ∧ i = 40) → c ≠ 303 → mk c i = m2 c i) → mk 277 40 = Int32.ofNat (((List.range k).filter cd).map (fun x => 100 * (x / 10) + x % 10)).length → (∀ j, j < (((List.range k).filter cd).map (fun x => 100 * (x / 10) + x % 10)).length → mk 303 j = Int32.ofNat ((((List.range k).filter cd).map (fun x => 100 * (x / 10) + x % 10)).getD j 0)) → ev_J w ev_m199 (ev_nd 199) Q 76 [ev_vr 277, ev_vi (ab_oi (ab_gl al g 40)), ev_vi kk] [] mk t) 40 (by
    intro k hk ih kk mk ekk fk h40 h303
    subst ekk
    have ek := ev_ofNat_i (n := k) (by omega)
    refine ev_gK A hp [82, 141] 10 ?_
    refine And.intro (fun (h : ((Int8.ofInt 40).toInt32).toInt ≤ (Int32.ofNat k).toInt) => ?_) (fun (h : (Int32.ofNat k).toInt < ((Int8.ofInt 40).toInt32).toInt) => ?_)
    · have ek2 : k = 40 := by omega
      subst ek2
      rw [efds] at h40 h303
      refine ev_gK A hp [] 10 ?_
      show Q (.inl (some (.int (mk 277 40)))) mk t
      rw [h40]
      refine hQ mk _ (ab_RM_F hs (fun c i q1 q2 => ?_) ⟨h40, h303⟩) (fun c i hc => ?_) ?_ (fun _ => rfl)
      · rw [fk c i (fun q => q2 (Or.inl q)) (fun q => q2 (Or.inr q))]
        exact v1 c i (fun q => q1 (by unfold ab_sM; omega)) (fun q => q1 (by unfold ab_sM; omega))
      · rw [fk c i (by omega) (by omega)]; exact v1 c i (by omega) (by omega)
      · rw [fk _ _ (by omega) (by decide)]; exact v0
    have hk40 : k < 40 := by omega
    have hrs : (List.range (k + 1)).filter cd = (List.range k).filter cd ++ (if cd k = true then [k] else []) := by
      rw [List.range_succ, List.filter_append]
      refine congrArg (fun q => (List.range k).filter cd ++ q) ?_
      cases hb : cd k
      · rw [List.filter_cons_of_neg (by rw [hb]; decide)]; rfl
      · rw [List.filter_cons_of_pos hb]; rfl
    have hskip : cd k = false → ev_J w ev_m199 (ev_nd 199) Q 135 [ev_vr 277, ev_vi (ab_oi (ab_gl al g 40)), ev_vn k] [] mk t := by
      intro hb
      refine ev_gK A hp [76] 10 ?_
      rw [hb, if_neg Bool.false_ne_true, List.append_nil] at hrs
      exact ih hk40 _ mk (ev_succ (by omega)) fk (by rw [hrs]; exact h40) (by rw [hrs]; exact h303)
    have hcdk : cd k = (zt z k && decide (ab_gl al g 40 = some (g k))) := by rw [hcd]
    have Sk : ab_MS mk (zW z) := fun v hv => by rw [fk _ _ (by omega) (by decide)]; exact S2 v hv
    refine ev_gK A hp [90, 135] 10 ?_
    refine ev_S143 A Sk k5 hk40 ?_
    refine And.intro (fun h2 => hskip (by rw [hcdk, (ab_bi_eq h2 : zt z k = false)]; rfl)) (fun h2 => ?_)
    have hkt : zt z k = true := ab_bi_neq h2
    rw [hkt, Bool.true_and] at hcdk
    refine ev_gK A hp [94, 135] 10 ?_
    cases hG : ab_gl al g 40 with
    | none =>
      rw [hG] at hcdk hskip
      refine And.intro (fun _ => hskip (by rw [hcdk]; rfl)) (fun (h3 : 0 ≤ (-1 : Int32).toInt) => absurd h3 (by decide))
    | some v =>
      have hv40 := glt v 40 hG (Nat.le_refl _)
      rw [hG] at hcdk hskip ih
      have ev := ev_ofNat_i (n := v) (by omega)
      have hgk : mk 284 (Int32.ofNat k).toNatClampNeg = Int32.ofNat (g k) := by rw [ev_on (by omega), fk _ _ (by omega) (by decide)]; exact G2 k hk40 hkt
      have hgi := ev_toI hgk (by have := g2 k hk40 hkt; omega)
      refine And.intro (fun (h3 : (Int32.ofNat v).toInt < 0) => by omega) (fun _ => ?_)
      refine ev_gK A hp [104, 135] 20 ?_
      refine And.intro (ev_oin hk40 (by decide)) ?_
      refine And.intro (fun (h4 : ¬ (mk 284 (Int32.ofNat k).toNatClampNeg).toInt = (Int32.ofNat v).toInt) => hskip ?_) (fun (h4 : (mk 284 (Int32.ofNat k).toNatClampNeg).toInt = (Int32.ofNat v).toInt) => ?_)
      · rw [hcdk]
        refine decide_eq_false (fun q => ?_)
        have q2 : v = g k := by injection q
        omega
      · have hvg : v = g k := by omega
        have hc1 : cd k = true := by rw [hcdk]; exact decide_eq_true (by rw [hvg])
        rw [hc1, if_pos rfl] at hrs
        have hflk := fl k
        refine ev_gK A hp [] 8 ?_
        refine And.intro n10 ?_
        show ev_J w ev_m199 (ev_nd 199) Q 118 [ev_vr 277, ev_vn v, ev_vn k] [.int (Int32.ofNat k / 10), .int (Int32.ofNat 100), .int (mk 277 40), .ref 303] mk t
        rw [ev_d10 (by omega), h40]
        refine ev_gK A hp [] 4 ?_
        refine And.intro n10 ?_
        show ev_J w ev_m199 (ev_nd 199) Q 123 [ev_vr 277, ev_vn v, ev_vn k] [.int (Int32.ofNat k - Int32.ofNat k / 10 * 10), .int (Int32.ofNat 100 * Int32.ofNat (k / 10)), .int (Int32.ofNat (((List.range k).filter cd).map (fun x => 100 * (x / 10) + x % 10)).length), .ref 303] mk t
        rw [ev_r10 (by omega)]
        refine ev_gK A hp [] 1 ?_
        show ev_J w ev_m199 (ev_nd 199) Q 124 [ev_vr 277, ev_vn v, ev_vn k] [.int (Int32.ofNat 100 * Int32.ofNat (k / 10) + Int32.ofNat (k % 10)), .int (Int32.ofNat (((List.range k).filter cd).map (fun x => 100 * (x / 10) + x % 10)).length), .ref 303] mk t
        rw [ev_lin (by omega) (by omega) (by omega)]
        refine ev_gK A hp [76] 20 ?_
        refine And.intro (ev_oin (by omega) (by decide)) ?_
        have hrs2 : ((List.range (k + 1)).filter cd).map (fun x => 100 * (x / 10) + x % 10) = ((List.range k).filter cd).map (fun x => 100 * (x / 10) + x % 10) ++ [100 * (k / 10) + k % 10] := by rw [hrs, List.map_append]; rfl
        refine ih hk40 _ _ (ev_succ (by omega)) (fun c i z1 z2 => ?_) ?_ ?_
        · rw [show ev_up (ev_up mk 303 _ _) 277 40 _ c i = ev_up mk 303 _ _ c i from if_neg z1, ev_up_cell _ z2]
          exact fk c i z1 z2
        · rw [ev_up_same, ev_up_cell _ (by decide), h40, hrs2, List.length_append, List.length_singleton]
          exact ev_succ (by omega)
        · intro j hj
          rw [hrs2] at hj ⊢
          rw [List.length_append, List.length_singleton] at hj
          rw [ev_up_cell _ (by decide), ev_on (by omega)]
          by_cases hjl : j = (((List.range k).filter cd).map (fun x => 100 * (x / 10) + x % 10)).length
          · rw [hjl, ev_up_same, List.getD_eq_getElem?_getD, List.getElem?_append_right (Nat.le_refl _), Nat.sub_self]; rfl
          · rw [ev_up_idx _ _ hjl, List.getD_eq_getElem?_getD, List.getElem?_append_left (by omega), ← List.getD_eq_getElem?_getD]
            exact h303 j (by omega))
  have loop1 := ev_lup (P := fun k => ∀ (kk ll : Int32), kk = Int32.ofNat k → ll = ab_oi (ab_gl al g k) → ev_J w ev_m199 (ev_nd 199) Q 18 [ev_vr 277, ev_vi ll, ev_vi kk] [] m2 t) 40 (by
    intro k hk ih kk ll ekk ell
    subst ekk ell
    have ek := ev_ofNat_i (n := k) (by omega)
    refine ev_gK A hp [24, 69] 10 ?_
    refine And.intro (fun (h : ((Int8.ofInt 40).toInt32).toInt ≤ (Int32.ofNat k).toInt) => ?_) (fun (h : (Int32.ofNat k).toInt < ((Int8.ofInt 40).toInt32).toInt) => ?_)
    · have ek2 : k = 40 := by omega
      subst ek2
      refine ev_gK A hp [76] 10 ?_
      exact loop2 0 (by omega) _ _ rfl (fun c i z1 z2 => if_neg z1) (ev_up_same _ _ _ _) (fun j hj => absurd hj (Nat.not_lt_zero _))
    have hk40 : k < 40 := by omega
    have h62 : ∀ x : Int32, x = ab_oi (ab_gl al g (k + 1)) → ev_J w ev_m199 (ev_nd 199) Q 62 [ev_vr 277, ev_vi (ab_oi (ab_gl al g k)), ev_vn k] [.int x] m2 t := by
      intro x hx
      refine ev_gK A hp [18] 10 ?_
      exact ih hk40 _ _ (ev_succ (by omega)) hx
    have halk : al k = (zt z k && decide (zf z k = ab_dfo z)) := by rw [hal]
    refine ev_gK A hp [32, 62] 10 ?_
    refine ev_S143 A S2 k5 hk40 ?_
    refine And.intro (fun h2 => h62 _ (by rw [ab_gl, halk, (ab_bi_eq h2 : zt z k = false)]; rfl)) (fun h2 => ?_)
    have hkt : zt z k = true := ab_bi_neq h2
    rw [hkt, Bool.true_and] at halk
    have h46 : ∀ b : Bool, b = decide (zD z = []) → ev_J w ev_m199 (ev_nd 199) Q 46 [ev_vr 277, ev_vi (ab_oi (ab_gl al g k)), ev_vn k] [.int (ab_bi b), .int (Int32.ofNat k), .ref 277] m2 t := by
      intro b hb
      subst hb
      refine ev_gK A hp [62] 20 ?_
      refine ev_S200 A L2 F2 hok hk40 hkt X2 hfl hfe ?_
      rw [← ed]
      refine And.intro (fun h3 => h62 _ (by rw [ab_gl, halk, ab_bi_eq h3]; rfl)) (fun h3 => ?_)
      refine And.intro (ev_oin hk40 (by decide)) ?_
      refine h62 _ ?_
      rw [ab_gl, halk, ab_bi_neq h3, if_pos rfl, ev_on (by omega)]
      exact G2 k hk40 hkt
    refine ev_gK A hp [46] 20 ?_
    refine And.intro (fun (h3 : ¬ (m2 277 2).toInt = 0) => h46 false ?_) (fun (h3 : (m2 277 2).toInt = 0) => h46 true ?_)
    · refine (decide_eq_false (fun q => ?_)).symm
      rw [q] at i2
      exact h3 i2
    · exact (decide_eq_true (List.eq_nil_of_length_eq_zero (by omega))).symm)
  refine ev_gK A hp [18] 10 ?_
  exact loop1 0 (by omega) _ _ rfl rfl
end EvMconc
