/-! the model's reading: groups -/
section EvMgroups
variable {w : ev_W} {Q : ev_QT} {m m' : ev_Mem} {t : ev_H} {z : ab_Z}
theorem ev_g221 {s : Nat ⊕ Nat} {x1 x2 x3 x4 : Int32} {o5 o6 o7 : Option Value} {o : ab_Ls} (A : ev_all w) (hO : ab_MO m o) (hl : o.length ≤ 1920) (hs : ab_TS m o s) (hQ : ∀ m', ab_frx m m' → ab_TS m' o (ab_pss o (fun n => ab_is o 10 n) s) → Q (.inl (some (.int x3))) m' t) : ev_J w ev_m195 (ev_nd 195) Q 221 [ev_vr 277, ev_vi x1, ev_vi x2, ev_vi x3, ev_vi x4, o5, o6, o7] [] m t := by
  have hp : ev_prog[195]? = some ev_m195 := rfl
  have hk : ∀ m', ab_frx m m' → ab_TS m' o (ab_pss o (fun n => ab_is o 10 n) s) → ev_J w ev_m195 (ev_nd 195) Q 239 [ev_vr 277, ev_vi x1, ev_vi x2, ev_vi x3, ev_vi x4, o5, o6, o7] [] m' t := fun m' f T => ev_gK A hp [] 10 (hQ m' f T)
  refine ev_gK A hp [239] 20 ?_
  exact And.intro (fun (h : ¬ (m 277 32).toInt = (10 : Int32).toInt) => ev_S192 (b := false) (fun n => ab_is o 10 n) A hO hl hs (ab_cmp0 ab_p10 hs h) hk) (fun (h : (m 277 32).toInt = (10 : Int32).toInt) => ev_S192 (b := true) (fun n => ab_is o 10 n) A hO hl hs (ab_cmp1 ab_p10 hs h) hk)
theorem ev_g7f {e : Nat} {x1 x2 x3 x4 : Int32} {o5 o6 o7 : Option Value} {o : ab_Ls} (A : ev_all w) (hO : ab_MO m o) (hl : o.length ≤ 1920) (hs : ab_TS m o (.inl e)) (hQ : ∀ m' x, ab_frx m m' → ab_TS m' o (.inl e) → Q (.inl (some (.int x))) m' t) : ev_J w ev_m195 (ev_nd 195) Q 7 [ev_vr 277, ev_vi x1, ev_vi x2, ev_vi x3, ev_vi x4, o5, o6, o7] [] m t := by
  have hp : ev_prog[195]? = some ev_m195 := rfl
  have h := ev_g221 (s := .inl e) (x1 := x1) (x2 := x2) (x3 := x3) (x4 := x4) (o5 := o5) (o6 := o6) (o7 := o7) A hO hl hs (fun m' f T => hQ m' x3 f T)
  refine ev_gK A hp [221] 10 ?_
  refine And.intro (fun _ => h) (fun _ => ?_)
  exact And.intro (fun _ => h) (fun (q : (m 277 33).toInt = 0) => by rw [hs.2] at q; exact absurd q (by decide))
theorem ev_g168f {e : Nat} {x1 x2 x3 x4 x5 x6 x7 : Int32} {o : ab_Ls} (A : ev_all w) (hO : ab_MO m o) (hl : o.length ≤ 1920) (hs : ab_TS m o (.inl e)) (hQ : ∀ m' x, ab_frx m m' → ab_TS m' o (.inl e) → Q (.inl (some (.int x))) m' t) : ev_J w ev_m195 (ev_nd 195) Q 168 [ev_vr 277, ev_vi x1, ev_vi x2, ev_vi x3, ev_vi x4, ev_vi x5, ev_vi x6, ev_vi x7] [] m t := by
  have hp : ev_prog[195]? = some ev_m195 := rfl
  have h206 : ∀ y2 y3 b : Int32, ev_J w ev_m195 (ev_nd 195) Q 206 [ev_vr 277, ev_vi x1, ev_vi y2, ev_vi y3, ev_vi x4, ev_vi x5, ev_vi x6, ev_vi x7] [.int b] m t := by
    intro y2 y3 b
    refine ev_gK A hp [7] 10 ?_
    refine And.intro (fun _ => ev_g7f A hO hl hs hQ) (fun _ => ?_)
    exact ev_S192 (b := true) (s := .inl e) (fun _ => true) A hO hl hs (fun _ _ => rfl) (fun m' f T => ev_g7f A (ab_frx_O f hO) hl T (fun m2 x f2 T2 => hQ m2 x (ab_frx_tr f f2) T2))
  have h191 : ∀ y3 x : Int32, ev_J w ev_m195 (ev_nd 195) Q 191 [ev_vr 277, ev_vi x1, ev_vi x2, ev_vi y3, ev_vi x4, ev_vi x5, ev_vi x6, ev_vi x7] [.int x] m t := by
    intro y3 x
    refine ev_gK A hp [206] 10 ?_
    exact And.intro (fun _ => h206 _ _ _) (fun _ => h206 _ _ _)
  have h179 : ∀ x : Int32, ev_J w ev_m195 (ev_nd 195) Q 179 [ev_vr 277, ev_vi x1, ev_vi x2, ev_vi x3, ev_vi x4, ev_vi x5, ev_vi x6, ev_vi x7] [.int x] m t := by
    intro x
    refine ev_gK A hp [191] 10 ?_
    exact And.intro (fun _ => h191 _ _) (fun _ => h191 _ _)
  refine ev_gK A hp [179] 10 ?_
  exact And.intro (fun _ => h179 _) (fun _ => h179 _)
theorem ev_g106f {e : Nat} {x1 x2 x3 x4 x5 : Int32} {o6 o7 : Option Value} {o : ab_Ls} (A : ev_all w) (hO : ab_MO m o) (hl : o.length ≤ 1920) (hs : ab_TS m o (.inl e)) (hQ : ∀ m' x, ab_frx m m' → ab_TS m' o (.inl e) → Q (.inl (some (.int x))) m' t) : ev_J w ev_m195 (ev_nd 195) Q 106 [ev_vr 277, ev_vi x1, ev_vi x2, ev_vi x3, ev_vi x4, ev_vi x5, o6, o7] [] m t := by
  have hp : ev_prog[195]? = some ev_m195 := rfl
  refine ev_gK A hp [117, 168] 40 ?_
  refine And.intro (fun (q : (m 277 33).toInt = 0) => by rw [hs.2] at q; exact absurd q (by decide)) (fun _ => ?_)
  refine And.intro (fun _ => ?_) (fun (h : 0 ≤ (-1 : Int32).toInt) => absurd h (by decide))
  refine And.intro (fun _ => ?_) (fun (h : 0 ≤ (-1 : Int32).toInt) => absurd h (by decide))
  exact ev_S192 (b := false) (s := .inl e) (fun _ => true) A hO hl hs (fun n h => by cases h) (fun m' f T => ev_g168f A (ab_frx_O f hO) hl T (fun m2 x f2 T2 => hQ m2 x (ab_frx_tr f f2) T2))
/-- groups, gone wrong before -/
theorem ev_S195f {e : Nat} {x1 : Int32} {o : ab_Ls} (A : ev_all w) (hO : ab_MO m o) (hl : o.length ≤ 1920) (hs : ab_TS m o (.inl e)) (hQ : ∀ m' x, ab_frx m m' → ab_TS m' o (.inl e) → Q (.inl (some (.int x))) m' t) : ev_K w 195 [.ref 277, .int x1] m t Q := by
  have hp : ev_prog[195]? = some ev_m195 := rfl
  refine ⟨Or.inr ⟨277, _, rfl, rfl⟩, ev_m195, rfl, ev_gK A hp [7] 10 ?_⟩
  exact ev_g7f A hO hl hs hQ
theorem ab_MT_frx {T : ab_T} (h : ab_frx m m') (hT : ab_MT m T) : ab_MT m' T := ab_MT_cg (fun c i hc => h c i (by unfold ab_gT at hc; omega)) hT
/-- groups -/
theorem ev_S195 {v n : Nat} {o : ab_Ls} {T : ab_T} (A : ev_all w) (hT : ab_MT m T) (hok : ab_Tok T) (hO : ab_MO m o) (ho : ab_Ook o) (hs : ab_TS m o (.inr n)) (hv : v < 4)
    (h0 : ∀ e, ab_gs o T.2.2.2.1 v 5 n 0 none = .inl e → ∀ m' x, ab_frx m m' → ab_TS m' o (.inl e) → Q (.inl (some (.int x))) m' t)
    (h1 : ∀ n3 rp, ab_gs o T.2.2.2.1 v 5 n 0 none = .inr (n3, rp) → ∀ m', ab_frx m m' → ab_TS m' o (.inr n3) → Q (.inl (some (.int (ab_oi rp)))) m' t) : ev_K w 195 [.ref 277, .int (Int32.ofNat v)] m t Q := by
  have hp : ev_prog[195]? = some ev_m195 := rfl
  have hl := ho.1
  have loop : ∀ g n sn (rp : Option Nat) (mk : ev_Mem) (o5 o6 o7 : Option Value), sn < 16 → 5 ≤ ab_pop sn + g → ab_frx m mk → ab_TS mk o (.inr n) →
      (∀ e, ab_gs o T.2.2.2.1 v g n sn rp = .inl e → ∀ m' x, ab_frx m m' → ab_TS m' o (.inl e) → Q (.inl (some (.int x))) m' t) →
      (∀ n3 rp', ab_gs o T.2.2.2.1 v g n sn rp = .inr (n3, rp') → ∀ m', ab_frx m m' → ab_TS m' o (.inr n3) → Q (.inl (some (.int (ab_oi rp')))) m' t) →
      ev_J w ev_m195 (ev_nd 195) Q 7 [ev_vr 277, ev_vn v, ev_vn sn, ev_vi (ab_oi rp), ev_vi (ab_bi true), o5, o6, o7] [] mk t := by
    intro g
    induction g with
    | zero =>
      intro n sn rp mk o5 o6 o7 hsn hp5
      have := ab_pop_le sn
      omega
    | succ g ih =>
      intro n sn rp mk o5 o6 o7 hsn hp5 hf hs h0' h1'
      have Ok := ab_frx_O hf hO
      have h106 : ∀ (s3 : Nat ⊕ Nat) (m3 : ev_Mem) (x5 : Int32), s3 = ab_g3 o n → ab_frx m m3 → ab_TS m3 o s3 → (ab_is o 32 n = true → x5 = Int32.ofNat (n + 1)) → ev_J w ev_m195 (ev_nd 195) Q 106 [ev_vr 277, ev_vn v, ev_vn sn, ev_vi (ab_oi rp), ev_vi (ab_bi true), ev_vi x5, o6, o7] [] m3 t := by
        intro s3 m3 x5 hs3 f3 T3 hx5
        have O3 := ab_frx_O f3 hO
        cases s3 with
        | inl e =>
          have hgr := (ab_gr_s (js := T.2.2.2.1) (sn := sn)).1 e hs3.symm
          exact ev_g106f A O3 hl T3 (fun m' x f' T' => h0' e (by rw [ab_gs, hgr]) m' x (ab_frx_tr f3 f') T')
        | inr n3 =>
          obtain ⟨hi, hgr⟩ := (ab_gr_s (js := T.2.2.2.1) (sn := sn)).2 n3 hs3.symm
          have hx := hx5 hi
          subst hx
          refine ev_gK A hp [117] 10 ?_
          refine And.intro (fun _ => ?_) (fun (h : ¬ (m3 277 33).toInt = 0) => by rw [T3.2.2.2.2] at h; exact absurd rfl h)
          refine ev_gK A hp [122] 10 ?_
          refine ev_S196 A (ab_MT_frx f3 hT) hok O3 ho T3 hsn ?_
          cases hw : ab_wt o T.2.2.2.1 sn n3 with
          | none =>
            rw [hw] at hgr
            have hgs : ab_gs o T.2.2.2.1 v (g + 1) n sn rp = .inl n3 := by rw [ab_gs, hgr]
            show ev_J w ev_m195 (ev_nd 195) Q 122 [ev_vr 277, ev_vn v, ev_vn sn, ev_vi (ab_oi rp), ev_vi (ab_bi true), ev_vn (n + 1), o6, o7] [.int (-1)] m3 t
            refine ev_gK A hp [168] 40 ?_
            refine And.intro (fun _ => ?_) (fun (h : 0 ≤ (-1 : Int32).toInt) => absurd h (by decide))
            refine And.intro (fun _ => ?_) (fun (h : 0 ≤ (-1 : Int32).toInt) => absurd h (by decide))
            exact ev_S192 (b := false) (s := .inr n3) (fun _ => false) A O3 hl T3 (fun _ _ => rfl) (fun m' f T' => ev_g168f (e := n3) A (ab_frx_O f O3) hl T' (fun m2 x f2 T2 => h0' n3 hgs m2 x (ab_frx_tr f3 (ab_frx_tr f f2)) T2))
          | some q =>
            obtain ⟨d, h⟩ := q
            rw [hw] at hgr
            obtain ⟨hh16, hdis, hne, hnx⟩ := ab_wt_dis hok ho hw
            have h16 := ab_or16 hsn hh16
            have hpop := ab_pop_up hsn hh16 hne hdis
            have ei := ev_ofNat_i (n := sn ||| h) (by omega)
            obtain ⟨rp', hrp⟩ : ∃ r, (if h.testBit v = true then some (n + 1) else rp) = r := ⟨_, rfl⟩
            have hgs : ab_gs o T.2.2.2.1 v (g + 1) n sn rp = if ab_is o 10 (n3 + d) = true then .inr (n3 + d + 1, rp') else if ab_is o 59 (n3 + d) = true then ab_gs o T.2.2.2.1 v g (n3 + d + 1) (sn ||| h) rp' else .inl (n3 + d) := by
              rw [ab_gs, hgr]
              dsimp only
              rw [hrp]
            rw [hgs] at h0' h1'
            -- behind the fourth token
            have h206 : ∀ (m4 : ev_Mem) (x7 : Int32) (b : Bool), ab_frx m m4 → ab_TS m4 o (.inr (n3 + d)) → (b = ab_is o 59 (n3 + d)) → ev_J w ev_m195 (ev_nd 195) Q 206 [ev_vr 277, ev_vn v, ev_vn (sn ||| h), ev_vi (ab_oi rp'), ev_vi (ab_bi true), ev_vn (n + 1), ev_vn (sn ||| h), ev_vi x7] [.int (ab_bi b)] m4 t := by
              intro m4 x7 b f4 T4 hb
              have O4 := ab_frx_O f4 hO
              refine ev_gK A hp [7] 10 ?_
              refine And.intro (fun h2 => ?_) (fun h2 => ?_)
              · have hb2 := ab_bi_eq h2
                subst hb2
                show ev_J w ev_m195 (ev_nd 195) Q 7 [ev_vr 277, ev_vn v, ev_vn (sn ||| h), ev_vi (ab_oi rp'), ev_vi (ab_bi false), ev_vn (n + 1), ev_vn (sn ||| h), ev_vi x7] [] m4 t
                refine ev_gK A hp [221] 10 ?_
                refine And.intro (fun _ => ?_) (fun h3 => by have := ab_bi_neq (b := false) h3; cases this)
                refine ev_g221 (s := .inr (n3 + d)) A O4 hl T4 (fun m5 f5 T5 => ?_)
                cases h10 : ab_is o 10 (n3 + d) with
                | true =>
                  have e5 : ab_pss o (fun n => ab_is o 10 n) (.inr (n3 + d)) = .inr (n3 + d + 1) := by rw [ab_pss, if_pos h10, ab_nx_is ab_p10 h10]
                  rw [e5] at T5
                  exact h1' _ _ (if_pos h10) m5 (ab_frx_tr f4 f5) T5
                | false =>
                  have e5 : ab_pss o (fun n => ab_is o 10 n) (.inr (n3 + d)) = .inl (n3 + d) := by rw [ab_pss, if_neg (by rw [h10]; exact Bool.false_ne_true)]
                  rw [e5] at T5
                  refine h0' (n3 + d) ?_ m5 _ (ab_frx_tr f4 f5) T5
                  rw [if_neg (by rw [h10]; exact Bool.false_ne_true), if_neg (by rw [← hb]; exact Bool.false_ne_true)]
              · have hb2 := ab_bi_neq h2
                subst hb2
                have h59 := hb.symm
                have h10 : ¬ ab_is o 10 (n3 + d) = true := fun q => by
                  have q1 := (of_decide_eq_true q).2
                  have q2 := (of_decide_eq_true h59).2
                  rw [q1] at q2
                  exact absurd q2 (by decide)
                refine ev_S192 (b := true) (s := .inr (n3 + d)) (fun _ => true) A O4 hl T4 (fun _ _ => rfl) (fun m5 f5 T5 => ?_)
                have e5 : ab_pss o (fun _ => true) (.inr (n3 + d)) = .inr (n3 + d + 1) := by rw [ab_pss, if_pos rfl, ab_nx_is ab_p59 h59]
                rw [e5] at T5
                rw [if_neg h10, if_pos h59] at h0' h1'
                exact ih (n3 + d + 1) (sn ||| h) rp' m5 _ _ _ h16 (by omega) (ab_frx_tr f4 f5) T5 h0' h1'
            have h179 : ∀ (m4 : ev_Mem) (x7 y : Int32), ab_frx m m4 → ab_TS m4 o (.inr (n3 + d)) → y = ab_oi rp' → ev_J w ev_m195 (ev_nd 195) Q 179 [ev_vr 277, ev_vn v, ev_vn sn, ev_vi (ab_oi rp), ev_vi (ab_bi true), ev_vn (n + 1), ev_vn (sn ||| h), ev_vi x7] [.int y] m4 t := by
              intro m4 x7 y f4 T4 hy
              subst hy
              refine ev_gK A hp [206] 20 ?_
              refine And.intro (fun _ => ?_) (fun (h2 : (Int32.ofNat (sn ||| h)).toInt < 0) => by omega)
              exact And.intro (fun (h3 : ¬ (m4 277 32).toInt = (59 : Int32).toInt) => h206 m4 x7 false f4 T4 (ab_cmp0 ab_p59 T4 h3 _ rfl)) (fun (h3 : (m4 277 32).toInt = (59 : Int32).toInt) => h206 m4 x7 true f4 T4 (ab_cmp1 ab_p59 T4 h3 _ rfl))
            have h152 : ∀ b : Bool, b = h.testBit v → ev_J w ev_m195 (ev_nd 195) Q 152 [ev_vr 277, ev_vn v, ev_vn sn, ev_vi (ab_oi rp), ev_vi (ab_bi true), ev_vn (n + 1), ev_vn (sn ||| h), o7] [.int (ab_bi b)] m3 t := by
              intro b hb
              refine ev_gK A hp [168] 20 ?_
              refine And.intro (fun (h2 : (Int32.ofNat (sn ||| h)).toInt < 0) => by omega) (fun _ => ?_)
              refine ev_S192 (b := true) (s := .inr n3) (fun _ => true) A O3 hl T3 (fun _ _ => rfl) (fun m4 f4 T4 => ?_)
              have e4 : ab_pss o (fun _ => true) (.inr n3) = .inr (n3 + d) := by rw [ab_pss, if_pos rfl, hnx]
              rw [e4] at T4
              refine ev_gK A hp [179] 10 ?_
              refine And.intro (fun h2 => h179 m4 _ _ (ab_frx_tr f3 f4) T4 ?_) (fun h2 => h179 m4 _ _ (ab_frx_tr f3 f4) T4 ?_)
              · rw [← hrp, ← hb, ab_bi_eq h2]; rfl
              · rw [← hrp, ← hb, ab_bi_neq h2]; rfl
            show ev_J w ev_m195 (ev_nd 195) Q 122 [ev_vr 277, ev_vn v, ev_vn sn, ev_vi (ab_oi rp), ev_vi (ab_bi true), ev_vn (n + 1), o6, o7] [.int (Int32.ofNat (sn ||| h))] m3 t
            refine ev_gK A hp [129] 10 ?_
            refine And.intro (fun (h2 : (Int32.ofNat (sn ||| h)).toInt < 0) => by omega) (fun _ => ?_)
            refine ev_gK A hp [] 5 ?_
            show ev_J w ev_m195 (ev_nd 195) Q 135 [ev_vr 277, ev_vn v, ev_vn sn, ev_vi (ab_oi rp), ev_vi (ab_bi true), ev_vn (n + 1), ev_vn (sn ||| h), o7] [.int ((Int32.ofNat (sn ||| h) >>> (Int32.ofNat v &&& 31)) &&& 1)] m3 t
            rw [ev_bt h16 hv]
            have hor : (sn ||| h).testBit v = (sn.testBit v || h.testBit v) := Nat.testBit_or _ _ _
            refine ev_gK A hp [139, 152] 10 ?_
            refine And.intro (fun (h2 : ¬ (ab_bi ((sn ||| h).testBit v)).toInt = (1 : Int32).toInt) => h152 false ?_) (fun (h2 : (ab_bi ((sn ||| h).testBit v)).toInt = (1 : Int32).toInt) => ?_)
            · cases hb : h.testBit v with
              | false => rfl
              | true => rw [hor, hb, Bool.or_true] at h2; exact absurd rfl h2
            refine ev_gK A hp [] 5 ?_
            show ev_J w ev_m195 (ev_nd 195) Q 144 [ev_vr 277, ev_vn v, ev_vn sn, ev_vi (ab_oi rp), ev_vi (ab_bi true), ev_vn (n + 1), ev_vn (sn ||| h), o7] [.int ((Int32.ofNat sn >>> (Int32.ofNat v &&& 31)) &&& 1)] m3 t
            rw [ev_bt hsn hv]
            refine ev_gK A hp [152] 10 ?_
            refine And.intro (fun h3 => h152 false ?_) (fun h3 => h152 true ?_)
            · have h4 := ab_bi_ne h3
              cases hb : h.testBit v with
              | false => rfl
              | true => rw [hdis v hb] at h4; cases h4
            · have h4 := ab_bi_nne h3
              rw [hor, h4] at h2
              cases hb : h.testBit v with
              | true => rfl
              | false => rw [hb] at h2; exact absurd h2 (by decide)
      refine ev_gK A hp [19, 221] 10 ?_
      refine And.intro (fun h2 => by have := ab_bi_eq (b := true) h2; cases this) (fun _ => ?_)
      refine And.intro (fun (h : ¬ (mk 277 33).toInt = 0) => by rw [hs.2.2.2.2] at h; exact absurd rfl h) (fun _ => ?_)
      have k37 : ∀ m1, ab_frx mk m1 → ab_TS m1 o (ab_pss o (fun n => ab_is o 32 n) (.inr n)) → ev_J w ev_m195 (ev_nd 195) Q 37 [ev_vr 277, ev_vn v, ev_vn sn, ev_vi (ab_oi rp), ev_vi (ab_bi true), o5, o6, o7] [] m1 t := by
        intro m1 f1 T1
        have O1 := ab_frx_O f1 Ok
        have hx5 : ab_is o 32 n = true → m1 277 31 = Int32.ofNat (n + 1) := fun hi => by
          rw [ab_pss, if_pos hi, ab_nx_is ab_p32 hi] at T1
          exact T1.2.1
        have k88 : ∀ m2, ab_frx m1 m2 → ab_TS m2 o (ab_pss o (fun n => (ab_rr o n).isSome) (ab_pss o (fun n => ab_is o 32 n) (.inr n))) → ev_J w ev_m195 (ev_nd 195) Q 88 [ev_vr 277, ev_vn v, ev_vn sn, ev_vi (ab_oi rp), ev_vi (ab_bi true), ev_vi (m1 277 31), o6, o7] [] m2 t := by
          intro m2 f2 T2
          have O2 := ab_frx_O f2 O1
          have k106 : ∀ m3, ab_frx m2 m3 → ab_TS m3 o (ab_pss o (fun n => ab_is o 32 n) (ab_pss o (fun n => (ab_rr o n).isSome) (ab_pss o (fun n => ab_is o 32 n) (.inr n)))) → ev_J w ev_m195 (ev_nd 195) Q 106 [ev_vr 277, ev_vn v, ev_vn sn, ev_vi (ab_oi rp), ev_vi (ab_bi true), ev_vi (m1 277 31), o6, o7] [] m3 t := fun m3 f3 T3 => h106 _ m3 _ rfl (ab_frx_tr hf (ab_frx_tr f1 (ab_frx_tr f2 f3))) T3 hx5
          refine ev_gK A hp [106] 20 ?_
          exact And.intro (fun (h : ¬ (m2 277 32).toInt = (32 : Int32).toInt) => ev_S192 (b := false) (fun n => ab_is o 32 n) A O2 hl T2 (ab_cmp0 ab_p32 T2 h) k106) (fun (h : (m2 277 32).toInt = (32 : Int32).toInt) => ev_S192 (b := true) (fun n => ab_is o 32 n) A O2 hl T2 (ab_cmp1 ab_p32 T2 h) k106)
        obtain ⟨s1, hs1⟩ : ∃ s, ab_pss o (fun n => ab_is o 32 n) (.inr n) = s := ⟨_, rfl⟩
        rw [hs1] at T1 k88
        have yes : (m1 277 32 = -3 ∨ m1 277 32 = 45 ∨ m1 277 32 = 63 ∨ m1 277 32 = 46) → ∀ n, s1 = .inr n → true = (ab_rr o n).isSome := by
          intro hq n' hn
          subst hn
          rw [T1.2.2.2.1] at hq
          exact ((ab_rr_tk ho).mpr hq).symm
        have no : ¬ (m1 277 32 = -3 ∨ m1 277 32 = 45 ∨ m1 277 32 = 63 ∨ m1 277 32 = 46) → ∀ n, s1 = .inr n → false = (ab_rr o n).isSome := by
          intro hq n' hn
          subst hn
          rw [T1.2.2.2.1] at hq
          cases hr : (ab_rr o n').isSome with
          | false => rfl
          | true => exact absurd ((ab_rr_tk ho).mp hr) hq
        refine ev_gK A hp [88] 40 ?_
        refine And.intro (fun (h : (m1 277 32).toInt = (-3 : Int32).toInt) => ev_S192 (b := true) _ A O1 hl T1 (yes (Or.inl (ev_eq_of h))) k88) (fun (a1 : ¬ (m1 277 32).toInt = (-3 : Int32).toInt) => ?_)
        refine And.intro (fun (h : (m1 277 32).toInt = (45 : Int32).toInt) => ev_S192 (b := true) _ A O1 hl T1 (yes (Or.inr (Or.inl (ev_eq_of h)))) k88) (fun (a2 : ¬ (m1 277 32).toInt = (45 : Int32).toInt) => ?_)
        refine And.intro (fun (h : (m1 277 32).toInt = (63 : Int32).toInt) => ev_S192 (b := true) _ A O1 hl T1 (yes (Or.inr (Or.inr (Or.inl (ev_eq_of h))))) k88) (fun (a3 : ¬ (m1 277 32).toInt = (63 : Int32).toInt) => ?_)
        refine And.intro (fun (a4 : ¬ (m1 277 32).toInt = (46 : Int32).toInt) => ev_S192 (b := false) _ A O1 hl T1 (no (fun q => by
          rcases q with q | q | q | q
          · exact a1 (by rw [q])
          · exact a2 (by rw [q])
          · exact a3 (by rw [q])
          · exact a4 (by rw [q]))) k88) (fun (h : (m1 277 32).toInt = (46 : Int32).toInt) => ev_S192 (b := true) _ A O1 hl T1 (yes (Or.inr (Or.inr (Or.inr (ev_eq_of h))))) k88)
      refine ev_gK A hp [37] 20 ?_
      exact And.intro (fun (h : ¬ (mk 277 32).toInt = (32 : Int32).toInt) => ev_S192 (b := false) (fun n => ab_is o 32 n) A Ok hl hs (ab_cmp0 ab_p32 hs h) k37) (fun (h : (mk 277 32).toInt = (32 : Int32).toInt) => ev_S192 (b := true) (fun n => ab_is o 32 n) A Ok hl hs (ab_cmp1 ab_p32 hs h) k37)
  refine ⟨Or.inr ⟨277, _, rfl, rfl⟩, ev_m195, rfl, ev_gK A hp [7] 10 ?_⟩
  exact loop 5 n 0 none m _ _ _ (by omega) (by omega) ab_frx_rfl hs h0 h1
end EvMgroups
