/-! the model's reading: all of it -/
section EvMread
variable {w : ev_W} {Q : ev_QT} {m m' : ev_Mem} {t : ev_H} {z : ab_Z}
def ab_fra (m m' : ev_Mem) : Prop := ∀ c i, ¬ (c = 277 ∧ ((30 ≤ i ∧ i ≤ 33) ∨ i = 37)) → c ≠ 301 → c ≠ 302 → m' c i = m c i
theorem ab_fra_rfl : ab_fra m m := fun _ _ _ _ _ => rfl
theorem ab_fra_tr {a b c : ev_Mem} (h1 : ab_fra a b) (h2 : ab_fra b c) : ab_fra a c := fun k i q r s => (h2 k i q r s).trans (h1 k i q r s)
theorem ab_fra_x (h : ab_frx m m') : ab_fra m m' := fun c i q _ _ => h c i (by omega)
theorem ab_fra_k (h : ab_xk m m') : ab_fra m m' := fun c i q r s => h c i (by omega) r s
theorem ab_fra_O {o : ab_Ls} (h : ab_fra m m') (hO : ab_MO m o) : ab_MO m' o := ⟨by rw [h _ _ (by omega) (by decide) (by decide)]; exact hO.1, fun k hk => by rw [h _ _ (by omega) (by decide) (by decide)]; exact hO.2 k hk⟩
theorem ab_fra_E (h : ab_fra m m') (hE : ab_RE m z) : ab_RE m' z := ab_RE_cg (fun c i hc => h c i (by unfold ab_gT ab_gW at hc; omega) (by unfold ab_gT ab_gW at hc; omega) (by unfold ab_gT ab_gW at hc; omega)) hE
theorem ab_pl_nx {o : ab_Ls} {N pm n d q : Nat} (h : ab_pl o N pm n = some (d, q)) : ab_nx o n = n + d := by
  unfold ab_pl at h
  split at h
  · cases h
  · rename_i hh
    cases h
    exact ab_nx_d (by omega)
theorem ab_bl_cong {o : ab_Ls} {T : ab_T} {fo : Nat → Option ab_Ls} {R R' : Nat → Option Nat} : ∀ p, (∀ q, q < p → R' q = R q) → ab_bl o T fo R' p = ab_bl o T fo R p
  | 0, _ => rfl
  | p + 1, h => by
    rw [ab_bl, ab_bl, ab_bl_cong p (fun q hq => h q (by omega))]
    unfold ab_bl1
    rw [h p (by omega)]
def ab_e3 (o : ab_Ls) (T : ab_T) (fo : Nat → Option ab_Ls) (q n : Nat) : Nat ⊕ Nat := ab_pss o (fun n => ab_is o 93 n) (ab_pss o (fun n => (ab_lm fo (ab_lem T q) o n).isSome) (ab_pss o (fun n => ab_is o 32 n) (.inr n)))
theorem ab_en_s {o : ab_Ls} {T : ab_T} {fo : Nat → Option ab_Ls} {v pm n d q : Nat} (hpl : ab_pl o T.1 pm n = some (d, q)) : (∀ e, ab_e3 o T fo q (n + d) = .inl e → ab_en o T fo v pm n = .inl e) ∧ (∀ n3, ab_e3 o T fo q (n + d) = .inr n3 → ab_en o T fo v pm n = (match ab_gs o T.2.2.2.1 v 5 n3 0 none with
    | .inl e => .inl e
    | .inr (n4, rp) => .inr (n4, q, rp))) := by
  unfold ab_e3 ab_en
  rw [hpl]
  dsimp only
  cases h1 : ab_is o 32 (n + d) with
  | false => exact ⟨fun e he => by simp only [ab_pss, h1] at he; simpa using he, fun n3 he => by simp only [ab_pss, h1] at he; simp at he⟩
  | true =>
    have e1 := ab_nx_is ab_p32 h1
    cases h2 : ab_lm fo (ab_lem T q) o (n + d + 1) with
    | none => exact ⟨fun e he => by simp only [ab_pss, h1, if_true, e1, h2] at he; simpa using he, fun n3 he => by simp only [ab_pss, h1, if_true, e1, h2] at he; simp at he⟩
    | some n2 =>
      have e2 := ab_lm_nx h2
      cases h3 : ab_is o 93 n2 with
      | false => exact ⟨fun e he => by simp only [ab_pss, h1, if_true, e1, h2, Option.isSome_some, ← e2, h3] at he; simpa [h3] using he, fun n3 he => by simp only [ab_pss, h1, if_true, e1, h2, Option.isSome_some, ← e2, h3] at he; simp at he⟩
      | true =>
        have e3 := ab_nx_is ab_p93 h3
        refine ⟨fun e he => ?_, fun n3 he => ?_⟩
        · simp only [ab_pss, h1, if_true, e1, h2, Option.isSome_some, ← e2, h3] at he; cases he
        · simp only [ab_pss, h1, if_true, e1, h2, Option.isSome_some, ← e2, h3, e3] at he
          cases he
          simp only [if_true, h3]
          cases ab_gs o T.2.2.2.1 v 5 (n2 + 1) 0 none with
          | inl e => rfl
          | inr p => rfl
theorem ev_a8f {e : Nat} {x1 x2 x3 : Int32} {o4 o5 : Option Value} {o : ab_Ls} (A : ev_all w) (hs : ab_TS m o (.inl e)) (hQ : Q (.inl none) m t) : ev_J w ev_m187 (ev_nd 187) Q 8 [ev_vr 277, ev_vi x1, ev_vi x2, ev_vi x3, o4, o5] [] m t := by
  have hp : ev_prog[187]? = some ev_m187 := rfl
  have no : ∀ {P : Prop}, (m 277 33).toInt = 0 → P := fun q => by rw [hs.2] at q; exact absurd q (by decide)
  refine ev_gK A hp [15, 182] 10 ?_
  refine And.intro (fun _ => ?_) (fun (q : (m 277 33).toInt = 0) => no q)
  refine ev_gK A hp [197] 20 ?_
  refine And.intro (fun _ => hQ) (fun _ => ?_)
  exact And.intro (fun _ => hQ) (fun (q : (m 277 33).toInt = 0) => no q)
theorem ev_a143f {e : Nat} {x1 x2 x3 x4 x5 : Int32} {o : ab_Ls} (A : ev_all w) (hs : ab_TS m o (.inl e)) (hQ : Q (.inl none) m t) : ev_J w ev_m187 (ev_nd 187) Q 143 [ev_vr 277, ev_vi x1, ev_vi x2, ev_vi x3, ev_vi x4, ev_vi x5] [] m t := by
  have hp : ev_prog[187]? = some ev_m187 := rfl
  refine ev_gK A hp [150, 8] 10 ?_
  refine And.intro (fun _ => ev_a8f A hs hQ) (fun (q : (m 277 33).toInt = 0) => by rw [hs.2] at q; exact absurd q (by decide))
theorem ev_a136f {e : Nat} {x1 x2 x3 x4 : Int32} {o5 : Option Value} {o : ab_Ls} (A : ev_all w) (hO : ab_MO m o) (hl : o.length ≤ 1920) (hs : ab_TS m o (.inl e)) (hQ : ∀ m', ab_frx m m' → ab_TS m' o (.inl e) → Q (.inl none) m' t) : ev_J w ev_m187 (ev_nd 187) Q 136 [ev_vr 277, ev_vi x1, ev_vi x2, ev_vi x3, ev_vi x4, o5] [] m t := by
  have hp : ev_prog[187]? = some ev_m187 := rfl
  refine ev_gK A hp [143] 10 ?_
  exact ev_S195f A hO hl hs (fun m' x f T => ev_a143f A T (hQ m' f T))
theorem ev_a72 {q : Nat} {s : Nat ⊕ Nat} {x1 x2 x3 x4 : Int32} {o5 : Option Value} {o : ab_Ls} (A : ev_all w) (hE : ab_RE m z) (hok : ab_ok z) (hO : ab_MO m o) (ho : ab_Ook o) (hs : ab_TS m o s) (hq : ∀ n, s = .inr n → q < (zT z).1 ∧ x2 = Int32.ofNat q)
    (hk : ∀ m', ab_frx m m' → ab_TS m' o (ab_pss o (fun n => ab_is o 93 n) (ab_pss o (fun n => (ab_lm (zf z) (ab_lem (zT z) q) o n).isSome) (ab_pss o (fun n => ab_is o 32 n) s))) → ev_J w ev_m187 (ev_nd 187) Q 136 [ev_vr 277, ev_vi x1, ev_vi x2, ev_vi x3, ev_vi x4, o5] [] m' t) :
    ev_J w ev_m187 (ev_nd 187) Q 72 [ev_vr 277, ev_vi x1, ev_vi x2, ev_vi x3, ev_vi x4, o5] [] m t := by
  have hp : ev_prog[187]? = some ev_m187 := rfl
  have hl := ho.1
  have k90 : ∀ m1, ab_frx m m1 → ab_TS m1 o (ab_pss o (fun n => ab_is o 32 n) s) → ev_J w ev_m187 (ev_nd 187) Q 90 [ev_vr 277, ev_vi x1, ev_vi x2, ev_vi x3, ev_vi x4, o5] [] m1 t := by
    intro m1 f1 T1
    have O1 := ab_frx_O f1 hO
    have k118 : ∀ m2, ab_frx m1 m2 → ab_TS m2 o (ab_pss o (fun n => (ab_lm (zf z) (ab_lem (zT z) q) o n).isSome) (ab_pss o (fun n => ab_is o 32 n) s)) → ev_J w ev_m187 (ev_nd 187) Q 118 [ev_vr 277, ev_vi x1, ev_vi x2, ev_vi x3, ev_vi x4, o5] [] m2 t := by
      intro m2 f2 T2
      have O2 := ab_frx_O f2 O1
      refine ev_gK A hp [136] 20 ?_
      exact And.intro (fun (h : ¬ (m2 277 32).toInt = (93 : Int32).toInt) => ev_S192 (b := false) (fun n => ab_is o 93 n) A O2 hl T2 (ab_cmp0 ab_p93 T2 h) (fun m3 f3 T3 => hk m3 (ab_frx_tr f1 (ab_frx_tr f2 f3)) T3)) (fun (h : (m2 277 32).toInt = (93 : Int32).toInt) => ev_S192 (b := true) (fun n => ab_is o 93 n) A O2 hl T2 (ab_cmp1 ab_p93 T2 h) (fun m3 f3 T3 => hk m3 (ab_frx_tr f1 (ab_frx_tr f2 f3)) T3))
    cases s with
    | inl e =>
      refine ev_gK A hp [118] 20 ?_
      refine And.intro (fun _ => ?_) (fun (q : (m1 277 33).toInt = 0) => by rw [T1.2] at q; exact absurd q (by decide))
      exact ev_S192 (b := false) (s := .inl e) _ A O1 hl T1 (fun n h => by cases h) k118
    | inr n =>
      obtain ⟨hqT, hx2⟩ := hq n rfl
      subst hx2
      cases h32 : ab_is o 32 n with
      | false =>
        have e1 : ab_pss o (fun n => ab_is o 32 n) (.inr n) = .inl n := by rw [ab_pss, if_neg (by rw [h32]; exact Bool.false_ne_true)]
        rw [e1] at T1 k118
        refine ev_gK A hp [118] 20 ?_
        refine And.intro (fun _ => ?_) (fun (q : (m1 277 33).toInt = 0) => by rw [T1.2] at q; exact absurd q (by decide))
        exact ev_S192 (b := false) (s := .inl n) _ A O1 hl T1 (fun n h => by cases h) k118
      | true =>
        have e1 : ab_pss o (fun n => ab_is o 32 n) (.inr n) = .inr (n + 1) := by rw [ab_pss, if_pos h32, ab_nx_is ab_p32 h32]
        rw [e1] at T1 k118
        have E1 := ab_frx_E f1 hE
        refine ev_gK A hp [118] 30 ?_
        refine And.intro (fun (h : ¬ (m1 277 33).toInt = 0) => by rw [T1.2.2.2.2] at h; exact absurd rfl h) (fun _ => ?_)
        refine ev_S177 A E1.1 hok hqT ?_
        refine ev_S194 A E1 hok (ab_lem_okz hok) O1 ho T1 ?_
        refine And.intro (fun h => ?_) (fun h => ?_)
        · have hb := ab_bi_eq h
          exact ev_S192 (b := false) (s := .inr (n + 1)) _ A O1 hl T1 (fun n' h' => by cases h'; exact hb.symm) k118
        · have hb := ab_bi_neq h
          exact ev_S192 (b := true) (s := .inr (n + 1)) _ A O1 hl T1 (fun n' h' => by cases h'; exact hb.symm) k118
  refine ev_gK A hp [90] 20 ?_
  exact And.intro (fun (h : ¬ (m 277 32).toInt = (32 : Int32).toInt) => ev_S192 (b := false) (fun n => ab_is o 32 n) A hO hl hs (ab_cmp0 ab_p32 hs h) k90) (fun (h : (m 277 32).toInt = (32 : Int32).toInt) => ev_S192 (b := true) (fun n => ab_is o 32 n) A hO hl hs (ab_cmp1 ab_p32 hs h) k90)
/-- readAll -/
theorem ev_S187 {v : Nat} {o : ab_Ls} (A : ev_all w) (hE : ab_RE m z) (hok : ab_ok z) (hO : ab_MO m o) (ho : ab_Ook o) (hv : v < 4) (h30 : m 277 30 = Int32.ofNat 0) (h33 : m 277 33 = 0) (hB : ab_MFr m [])
    (h0 : ∀ e, ab_es o (zT z) (zf z) v 25 0 0 (fun _ => none) = .inl e → ∀ m', ab_fra m m' → ab_TS m' o (.inl e) → Q (.inl none) m' t)
    (h1 : ∀ R, ab_es o (zT z) (zf z) v 25 0 0 (fun _ => none) = .inr R → ∀ m', ab_fra m m' → m' 277 33 = 0 → ab_MFr m' (ab_bl o (zT z) (zf z) R (zT z).1) → Q (.inl none) m' t) : ev_K w 187 [.ref 277, .int (Int32.ofNat v)] m t Q := by
  have hp : ev_prog[187]? = some ev_m187 := rfl
  have hl := ho.1
  have hTok := hok.2.2.2.2.1.1
  have kT := hTok.1
  -- one place's word kept
  have kept : ∀ (R : Nat → Option Nat) (p : Nat), R p = none → ab_bl o (zT z) (zf z) R (p + 1) = ab_bl o (zT z) (zf z) R p ++ ab_kw (zf z) (ab_lem (zT z) p) := by
    intro R p hR
    rw [ab_bl]
    unfold ab_bl1
    rw [hR]
    cases ab_lem (zT z) p with
    | none => rfl
    | some y => rfl
  have loop : ∀ e n pm (R : Nat → Option Nat) (mk : ev_Mem) (x3 : Int32) (o4 o5 : Option Value), 25 ≤ e + pm → pm ≤ (zT z).1 → ab_fra m mk → ab_TS mk o (.inr n) → ab_MFr mk (ab_bl o (zT z) (zf z) R pm) → (∀ p, pm ≤ p → R p = none) → x3 = Int32.ofInt ((pm : Int) - 1) →
      (∀ q, ab_es o (zT z) (zf z) v e n pm R = .inl q → ∀ m', ab_fra m m' → ab_TS m' o (.inl q) → Q (.inl none) m' t) →
      (∀ R', ab_es o (zT z) (zf z) v e n pm R = .inr R' → ∀ m', ab_fra m m' → m' 277 33 = 0 → ab_MFr m' (ab_bl o (zT z) (zf z) R' (zT z).1) → Q (.inl none) m' t) →
      ev_J w ev_m187 (ev_nd 187) Q 8 [ev_vr 277, ev_vn v, ev_vn pm, ev_vi x3, o4, o5] [] mk t := by
    intro e
    induction e with
    | zero => intro n pm R mk x3 o4 o5 h25 hpm; omega
    | succ e ih =>
      intro n pm R mk x3 o4 o5 h25 hpm fk Tk Bk hR hx3 h0' h1'
      have Ok := ab_fra_O fk hO
      have Ek := ab_fra_E fk hE
      refine ev_gK A hp [15] 10 ?_
      refine And.intro (fun (h : ¬ (mk 277 33).toInt = 0) => by rw [Tk.2.2.2.2] at h; exact absurd rfl h) (fun _ => ?_)
      refine ev_gK A hp [23, 182] 10 ?_
      refine And.intro (fun (h : (mk 277 32).toInt = (-1 : Int32).toInt) => ?_) (fun (h : ¬ (mk 277 32).toInt = (-1 : Int32).toInt) => ?_)
      · -- the end of the sheet
        have hn : ¬ n < o.length := (ab_tk_e ho).mp (by rw [← Tk.2.2.2.1]; exact ev_eq_of h)
        have hes : ab_es o (zT z) (zf z) v (e + 1) n pm R = .inr R := by rw [ab_es, if_neg hn]
        have fin := ev_lup (P := fun p => pm ≤ p → ∀ (pp : Int32) (m2 : ev_Mem), pp = Int32.ofNat p → ab_fra m m2 → m2 277 33 = 0 → ab_MFr m2 (ab_bl o (zT z) (zf z) R p) → ev_J w ev_m187 (ev_nd 187) Q 182 [ev_vr 277, ev_vn v, ev_vi pp, ev_vi x3, o4, o5] [] m2 t) (zT z).1 (by
          intro p hp1 ihp hpmp pp m2 epp f2 z2 B2
          subst epp
          have ep := ev_ofNat_i (n := p) (by omega)
          have E2 := ab_fra_E f2 hE
          have e22 := ev_toI E2.1.1 (by omega)
          have hbl := ab_bl_len o (zT z) (zf z) R p
          refine ev_gK A hp [190] 10 ?_
          refine And.intro (fun (h2 : (m2 277 22).toInt ≤ (Int32.ofNat p).toInt) => ?_) (fun (h2 : (Int32.ofNat p).toInt < (m2 277 22).toInt) => ?_)
          · have e1 : p = (zT z).1 := by omega
            subst e1
            exact h1' R hes m2 f2 z2 B2
          · have hpT : p < (zT z).1 := by omega
            refine ev_gK A hp [182] 20 ?_
            refine And.intro (fun (h3 : ¬ (m2 277 33).toInt = 0) => by rw [z2] at h3; exact absurd rfl h3) (fun _ => ?_)
            refine ev_S177 A E2.1 hok hpT ?_
            refine ev_S193 A E2 hok (ab_lem_okz hok) B2 (by omega) (fun m3 f3 B3 => ?_)
            refine ihp hpT (by omega) _ m3 (ev_succ (by omega)) (ab_fra_tr f2 (ab_fra_k f3)) ?_ ?_
            · rw [f3 _ _ (by omega) (by decide) (by decide)]; exact z2
            · rw [kept R p (hR p hpmp)]; exact B3)
        exact fin pm hpm (Nat.le_refl _) _ mk rfl fk Tk.2.2.2.2 Bk
      · have hn : n < o.length := by
          apply Decidable.byContradiction
          intro q
          exact h (by rw [Tk.2.2.2.1, (ab_tk_e ho).mpr q])
        have hes : ab_es o (zT z) (zf z) v (e + 1) n pm R = (match ab_en o (zT z) (zf z) v pm n with
            | .inl q => .inl q
            | .inr (n3, q, rp) => ab_es o (zT z) (zf z) v e n3 (q + 1) (ab_upo R q rp)) := by
          rw [ab_es, if_pos hn]
          cases ab_en o (zT z) (zf z) v pm n with
          | inl q => rfl
          | inr p => rfl
        refine ev_gK A hp [30] 10 ?_
        refine ev_S191 A Ek.1 kT Ok ho Tk hx3 (by omega) ?_
        cases hpl : ab_pl o (zT z).1 pm n with
        | none =>
          have hen : ab_en o (zT z) (zf z) v pm n = .inl n := by unfold ab_en; rw [hpl]
          rw [hen] at hes
          show ev_J w ev_m187 (ev_nd 187) Q 30 [ev_vr 277, ev_vn v, ev_vn pm, ev_vi x3, ev_vi (-1), o5] [] mk t
          have epm := ev_ofNat_i (n := pm) (by omega)
          refine ev_gK A hp [44] 20 ?_
          refine And.intro (fun _ => ?_) (fun (h2 : 0 ≤ (-1 : Int32).toInt) => absurd h2 (by decide))
          refine ev_S192 (b := false) (s := .inr n) (fun _ => false) A Ok hl Tk (fun _ _ => rfl) (fun m2 f2 T2 => ?_)
          have T2' : ab_TS m2 o (.inl n) := T2
          refine ev_gK A hp [72] 10 ?_
          refine And.intro (fun _ => ?_) (fun (h2 : (Int32.ofNat pm).toInt < (-1 : Int32).toInt) => by
            have i1 : (-1 : Int32).toInt = -1 := by decide
            omega)
          have O2 := ab_frx_O f2 Ok
          refine ev_a72 (q := 0) (s := .inl n) A (ab_frx_E f2 Ek) hok O2 ho T2' (fun n' h' => by cases h') (fun m3 f3 T3 => ?_)
          exact ev_a136f A (ab_frx_O f3 O2) hl T3 (fun m4 f4 T4 => h0' n hes m4 (ab_fra_tr fk (ab_fra_x (ab_frx_tr f2 (ab_frx_tr f3 f4)))) T4)
        | some dq =>
          obtain ⟨d, q⟩ := dq
          obtain ⟨p1, p2, p3, p4⟩ := ab_pl_some hpl
          have hnx := ab_pl_nx hpl
          have eq1 := ev_ofNat_i (n := q) (by omega)
          obtain ⟨en0, en1⟩ := ab_en_s (fo := zf z) (v := v) hpl
          show ev_J w ev_m187 (ev_nd 187) Q 30 [ev_vr 277, ev_vn v, ev_vn pm, ev_vi x3, ev_vn q, o5] [] mk t
          -- behind the number
          have h72 : ∀ m2, ab_fra m m2 → ab_TS m2 o (.inr (n + d)) → ab_MFr m2 (ab_bl o (zT z) (zf z) R q) → ev_J w ev_m187 (ev_nd 187) Q 72 [ev_vr 277, ev_vn v, ev_vn q, ev_vi x3, ev_vn q, o5] [] m2 t := by
            intro m2 f2 T2 B2
            have O2 := ab_fra_O f2 hO
            have E2 := ab_fra_E f2 hE
            refine ev_a72 (q := q) A E2 hok O2 ho T2 (fun _ _ => ⟨p4, rfl⟩) (fun m3 f3 T3 => ?_)
            have f13 := ab_fra_tr f2 (ab_fra_x f3)
            have O3 := ab_fra_O f13 hO
            have E3 := ab_fra_E f13 hE
            have B3 := ab_MFr_frx f3 B2
            have T3' : ab_TS m3 o (ab_e3 o (zT z) (zf z) q (n + d)) := T3
            cases h3 : ab_e3 o (zT z) (zf z) q (n + d) with
            | inl e3 =>
              rw [h3] at T3'
              rw [en0 e3 h3] at hes
              exact ev_a136f A O3 hl T3' (fun m4 f4 T4 => h0' e3 hes m4 (ab_fra_tr f13 (ab_fra_x f4)) T4)
            | inr n3 =>
              rw [h3] at T3'
              rw [en1 n3 h3] at hes
              refine ev_gK A hp [143] 10 ?_
              refine ev_S195 A E3.1 hTok O3 ho T3' hv (fun e4 hg m4 x f4 T4 => ?_) (fun n4 rp hg m4 f4 T4 => ?_)
              · rw [hg] at hes
                exact ev_a143f A T4 (h0' e4 hes m4 (ab_fra_tr f13 (ab_fra_x f4)) T4)
              · rw [hg] at hes
                have hes2 : ab_es o (zT z) (zf z) v (e + 1) n pm R = ab_es o (zT z) (zf z) v e n4 (q + 1) (ab_upo R q rp) := hes
                rw [hes2] at h0' h1'
                have f14 := ab_fra_tr f13 (ab_fra_x f4)
                have O4 := ab_fra_O f14 hO
                have E4 := ab_fra_E f14 hE
                have B4 := ab_MFr_frx f4 B3
                have hbl := ab_bl_len o (zT z) (zf z) R q
                have hrp : ∀ f, rp = some f → f < o.length := ab_gs_rp _ _ _ _ _ _ hg (fun f hf => by cases hf)
                have hcg : ab_bl o (zT z) (zf z) (ab_upo R q rp) q = ab_bl o (zT z) (zf z) R q := ab_bl_cong q (fun p hp => if_neg (by omega))
                have hup : ab_upo R q rp q = rp := if_pos rfl
                have h173 : ∀ m5, ab_xk m4 m5 → ab_MFr m5 (ab_bl o (zT z) (zf z) (ab_upo R q rp) (q + 1)) → ev_J w ev_m187 (ev_nd 187) Q 173 [ev_vr 277, ev_vn v, ev_vn q, ev_vi x3, ev_vn q, ev_vi (ab_oi rp)] [] m5 t := by
                  intro m5 f5 B5
                  refine ev_gK A hp [8] 10 ?_
                  have eqs : Int32.ofNat q + 1 = Int32.ofNat (q + 1) := ev_succ (by omega)
                  show ev_J w ev_m187 (ev_nd 187) Q 8 [ev_vr 277, ev_vn v, ev_vi (Int32.ofNat q + 1), ev_vn q, ev_vn q, ev_vi (ab_oi rp)] [] m5 t
                  rw [eqs]
                  refine ih n4 (q + 1) (ab_upo R q rp) m5 _ _ _ (by omega) (by omega) (ab_fra_tr f14 (ab_fra_k f5)) (ab_xk_TS f5 T4) B5 (fun p hp => ?_) ?_ h0' h1'
                  · rw [ab_upo, if_neg (by omega)]
                    exact hR p (by omega)
                  · rw [(by omega : ((q + 1 : Nat) : Int) - 1 = (q : Int))]
                    rfl
                refine ev_gK A hp [150] 10 ?_
                refine And.intro (fun (h5 : ¬ (m4 277 33).toInt = 0) => by rw [T4.2.2.2.2] at h5; exact absurd rfl h5) (fun _ => ?_)
                refine ev_gK A hp [155, 167] 10 ?_
                cases rp with
                | none =>
                  refine And.intro (fun (h6 : 0 ≤ (-1 : Int32).toInt) => absurd h6 (by decide)) (fun _ => ?_)
                  refine ev_gK A hp [173] 20 ?_
                  refine ev_S177 A E4.1 hok p4 ?_
                  refine ev_S193 A E4 hok (ab_lem_okz hok) B4 (by omega) (fun m5 f5 B5 => h173 m5 f5 ?_)
                  rw [kept _ q hup, hcg]
                  exact B5
                | some f =>
                  have hf := hrp f rfl
                  have ef := ev_ofNat_i (n := f) (by omega)
                  refine And.intro (fun _ => ?_) (fun (h6 : (Int32.ofNat f).toInt < 0) => by omega)
                  refine ev_gK A hp [173] 20 ?_
                  refine ev_S197 A O4 ho hf B4 (by omega) (fun m5 f5 B5 => h173 m5 f5 ?_)
                  have e1 : ab_bl o (zT z) (zf z) (ab_upo R q (some f)) (q + 1) = ab_bl o (zT z) (zf z) R q ++ ab_bu1 o f := by
                    rw [ab_bl, hcg]
                    unfold ab_bl1
                    rw [hup]
                  rw [e1]
                  exact B5
          -- the places before the number
          have pre := ev_lup (P := fun p => pm ≤ p → ∀ (pp : Int32) (m2 : ev_Mem), pp = Int32.ofNat p → ab_fra m m2 → ab_TS m2 o (.inr (n + d)) → ab_MFr m2 (ab_bl o (zT z) (zf z) R p) → ev_J w ev_m187 (ev_nd 187) Q 44 [ev_vr 277, ev_vn v, ev_vi pp, ev_vi x3, ev_vn q, o5] [] m2 t) q (by
            intro p hp1 ihp hpmp pp m2 epp f2 T2 B2
            subst epp
            have ep := ev_ofNat_i (n := p) (by omega)
            have E2 := ab_fra_E f2 hE
            have hbl := ab_bl_len o (zT z) (zf z) R p
            refine ev_gK A hp [50, 72] 10 ?_
            refine And.intro (fun (h2 : (Int32.ofNat q).toInt ≤ (Int32.ofNat p).toInt) => ?_) (fun (h2 : (Int32.ofNat p).toInt < (Int32.ofNat q).toInt) => ?_)
            · have e1 : p = q := by omega
              subst e1
              exact h72 m2 f2 T2 B2
            · have hpq : p < q := by omega
              refine ev_gK A hp [44] 20 ?_
              refine And.intro (fun (h3 : ¬ (m2 277 33).toInt = 0) => by rw [T2.2.2.2.2] at h3; exact absurd rfl h3) (fun _ => ?_)
              refine ev_S177 A E2.1 hok (by omega) ?_
              refine ev_S193 A E2 hok (ab_lem_okz hok) B2 (by omega) (fun m3 f3 B3 => ?_)
              refine ihp hpq (by omega) _ m3 (ev_succ (by omega)) (ab_fra_tr f2 (ab_fra_k f3)) (ab_xk_TS f3 T2) ?_
              rw [kept R p (hR p hpmp)]; exact B3)
          refine ev_gK A hp [44] 20 ?_
          refine And.intro (fun (h2 : (Int32.ofNat q).toInt < 0) => by omega) (fun _ => ?_)
          refine ev_S192 (b := true) (s := .inr n) (fun _ => true) A Ok hl Tk (fun _ _ => rfl) (fun m2 f2 T2 => ?_)
          have e2 : ab_pss o (fun _ => true) (.inr n) = .inr (n + d) := by rw [ab_pss, if_pos rfl, hnx]
          rw [e2] at T2
          exact pre pm p3 (Nat.le_refl _) _ m2 rfl (ab_fra_tr fk (ab_fra_x f2)) T2 (ab_MFr_frx f2 Bk)
  refine ⟨Or.inr ⟨277, _, rfl, rfl⟩, ev_m187, rfl, ev_gK A hp [8] 20 ?_⟩
  refine ev_S188 (n := 0) A hO hl h30 (Nat.zero_le _) h33 (fun m1 f1 T1 => ?_)
  exact loop 25 0 0 (fun _ => none) m1 _ _ _ (by omega) (Nat.zero_le _) (ab_fra_x f1) T1 (ab_MFr_frx f1 hB) (fun _ _ => rfl) rfl h0 h1
/-- rebuild -/
theorem ev_S186 {x : Int32} (A : ev_all w) (hs : ab_RepM m z) (hok : ab_ok z) (hQ : ab_PM m t true (ab_rebuild z x) Q) : ev_K w 186 [.ref 277, .int x] m t Q := by
  have hp : ev_prog[186]? = some ev_m186 := rfl
  have c8 := hs.2.2.2.2.2.2.2.1
  have hE : ab_RE m z := ⟨c8, hs.2.2.2.1, hs.2.2.2.2.1⟩
  have hO : ab_MO m (zO z) := hs.2.2.2.2.2.2.2.2.1
  have ho := hok.2.2.2.2.2.1
  have thr : ∀ cc : Nat, ¬ cc = 0 → cc < 10 → ab_rebuild z x = (cc, 0, z) → ev_J w ev_m186 (ev_nd 186) Q 25 [ev_vr 277, ev_vi x, none] [.int (Int32.ofNat cc), .ref 277] m t := by
    intro cc hcc hc10 e
    rw [e] at hQ
    have ecc := ev_ofNat_i (n := cc) (by omega)
    refine ev_gK A hp [37] 10 ?_
    refine And.intro (fun (h : (ev_up m 277 0 (Int32.ofNat cc) 277 0).toInt ≤ 0) => by rw [ev_up_same] at h; omega) (fun _ => ?_)
    exact hQ _ 0 (ab_RM_th hs _) (fun c i hc => ab_up0 _ _ (by omega)) (ev_up_same _ _ _ _) (fun q => absurd q hcc)
  refine ⟨Or.inr ⟨277, _, rfl, rfl⟩, ev_m186, rfl, ev_gK A hp [12, 25] 20 ?_⟩
  refine ev_S140 A ?_
  cases hwi : ab_wi x with
  | none =>
    refine And.intro (fun h => absurd (h : ¬ (0 : Int32).toInt = 0) (fun q => q rfl)) (fun _ => thr 1 (by decide) (by decide) (by unfold ab_rebuild; rw [hwi]))
  | some v =>
    obtain ⟨hv4, rfl⟩ := ab_wi_some hwi
    refine And.intro (fun _ => ?_) (fun h => absurd (h : (1 : Int32).toInt = 0) ev_ne10)
    refine ev_gK A hp [25] 10 ?_
    refine ev_S141 A c8.2.2.2.1 hok.2.2.2.2.1.1.2.2.2.1 ?_
    have hrb : ab_rebuild z (Int32.ofNat v) = if zj z v = true then (match ab_es (zO z) (zT z) (zf z) v 25 0 0 (fun _ => none) with
        | .inl e => (0, Int32.ofInt (-100 - (e : Int)), z)
        | .inr R => (0, Int32.ofNat (ab_bl (zO z) (zT z) (zf z) R (zT z).1).length, (zD z, zR z, zW z, zP z, zT z, zO z, ab_bl (zO z) (zT z) (zf z) R (zT z).1, z.2.2.2.2.2.2.2))) else (2, 0, z) := by
      unfold ab_rebuild
      rw [hwi]
      dsimp only
      split
      · cases ab_es (zO z) (zT z) (zf z) v 25 0 0 (fun _ => none) with
        | inl e => rfl
        | inr R => rfl
      · rfl
    refine And.intro (fun h => ?_) (fun h => ?_)
    case refine_2 =>
      have hj : zj z v = false := ab_bi_nne h
      exact thr 2 (by decide) (by decide) (by rw [hrb, if_neg (by rw [hj]; exact Bool.false_ne_true)])
    have hj : zj z v = true := ab_bi_ne h
    rw [hrb, if_pos hj] at hQ
    show ev_J w ev_m186 (ev_nd 186) Q 25 [ev_vr 277, ev_vn v, none] [.int (Int32.ofNat 0), .ref 277] m t
    refine ev_gK A hp [37] 10 ?_
    refine And.intro (fun _ => ?_) (fun (h : 0 < (ev_up m 277 0 (Int32.ofNat 0) 277 0).toInt) => by rw [ev_up_same] at h; exact absurd h (by decide))
    refine ev_gK A hp [52] 20 ?_
    refine And.intro (Or.inl rfl) ?_
    show ev_J w ev_m186 (ev_nd 186) Q 52 [ev_vr 277, ev_vn v, none] [] (ev_up (ev_up (ev_up (ev_up m 277 0 (Int32.ofNat 0)) 277 30 (Int32.ofNat 0)) 277 33 (Int32.ofNat 0)) 277 37 (Int32.ofNat 0)) t
    have q1 : ∀ c i, ¬ (c = 277 ∧ (i = 0 ∨ i = 30 ∨ i = 33 ∨ i = 37)) → ev_up (ev_up (ev_up (ev_up m 277 0 (Int32.ofNat 0)) 277 30 (Int32.ofNat 0)) 277 33 (Int32.ofNat 0)) 277 37 (Int32.ofNat 0) c i = m c i := fun c i hc => by
      unfold ev_up
      rw [if_neg (by omega), if_neg (by omega), if_neg (by omega), if_neg (by omega)]
    have q0 : ∀ i, (i = 0 ∨ i = 30 ∨ i = 33 ∨ i = 37) → ev_up (ev_up (ev_up (ev_up m 277 0 (Int32.ofNat 0)) 277 30 (Int32.ofNat 0)) 277 33 (Int32.ofNat 0)) 277 37 (Int32.ofNat 0) 277 i = Int32.ofNat 0 := fun i hi => by
      rcases hi with rfl | rfl | rfl | rfl <;> rfl
    generalize ev_up (ev_up (ev_up (ev_up m 277 0 (Int32.ofNat 0)) 277 30 (Int32.ofNat 0)) 277 33 (Int32.ofNat 0)) 277 37 (Int32.ofNat 0) = m1 at *
    have E1 : ab_RE m1 z := ab_RE_cg (fun c i hc => q1 c i (by unfold ab_gT ab_gW at hc; omega)) hE
    have O1 : ab_MO m1 (zO z) := ⟨by rw [q1 _ _ (by omega)]; exact hO.1, fun k hk => by rw [q1 _ _ (by omega)]; exact hO.2 k hk⟩
    refine ev_gK A hp [57] 10 ?_
    refine ev_S187 A E1 hok O1 ho hv4 (q0 30 (by omega)) (q0 33 (by omega)) ⟨q0 37 (by omega), fun i hi => absurd hi (Nat.not_lt_zero _)⟩ (fun e he m2 f2 T2 => ?_) (fun R he m2 f2 z2 B2 => ?_)
    · rw [he] at hQ
      have hle := ab_es_le 25 0 0 (fun _ => none) (Nat.zero_le _) e he
      have hlen := ho.1
      refine ev_gK A hp [72] 20 ?_
      refine And.intro (fun (h2 : (m2 277 33).toInt = 0) => by rw [T2.2] at h2; exact absurd h2 (by decide)) (fun _ => ?_)
      show Q (.inl (some (.int ((Int8.ofInt (-100)).toInt32 - m2 277 31)))) m2 t
      have ev : (Int8.ofInt (-100)).toInt32 - m2 277 31 = Int32.ofInt (-100 - (e : Int)) := by
        have i100 : ((Int8.ofInt (-100)).toInt32).toInt = -100 := by decide
        apply ev_eq_of
        rw [T2.1, ev_sub_i (by rw [i100, ev_ofNat_i (by omega)]; omega) (by rw [i100, ev_ofNat_i (by omega)]; omega), i100, ev_ofNat_i (by omega), ev_ofInt_i (by omega) (by omega)]
      rw [ev]
      refine hQ m2 _ (ab_RM_0 hs (fun c i hc => ?_)) (fun c i hc => ?_) ?_ (fun _ => rfl)
      · rw [f2 c i (fun q => hc (by unfold ab_sM; omega)) (fun q => hc (by unfold ab_sM; omega)) (fun q => hc (by unfold ab_sM; omega))]
        exact q1 c i (fun q => hc (by unfold ab_sM; omega))
      · rw [f2 c i (by omega) (by omega) (by omega)]; exact q1 c i (by omega)
      · rw [f2 _ _ (by omega) (by decide) (by decide)]; exact q0 0 (by omega)
    · rw [he] at hQ
      dsimp only at hQ
      have hbl := ab_bl_len (zO z) (zT z) (zf z) R (zT z).1
      have kT := hok.2.2.2.2.1.1.1
      generalize ab_bl (zO z) (zT z) (zf z) R (zT z).1 = bl at *
      have i24 : ((Int8.ofInt 24).toInt32).toInt = 24 := by decide
      have i288 : (Int32.ofNat 288).toInt = 288 := by decide
      refine ev_gK A hp [72] 20 ?_
      refine And.intro (fun _ => ?_) (fun (h2 : ¬ (m2 277 33).toInt = 0) => by rw [z2] at h2; exact absurd rfl h2)
      refine ev_gK A hp [82] 20 ?_
      show ev_J w ev_m186 (ev_nd 186) Q 82 [ev_vr 277, ev_vn v, ev_vn 0] [] (ev_up m2 277 34 (m2 277 37)) t
      have g1 : ∀ c i, ¬ (c = 277 ∧ i = 34) → ev_up m2 277 34 (m2 277 37) c i = m2 c i := fun c i hc => if_neg hc
      have g2 : ev_up m2 277 34 (m2 277 37) 277 34 = Int32.ofNat bl.length := by rw [ev_up_same]; exact B2.1
      generalize ev_up m2 277 34 (m2 277 37) = m3 at *
      have loop2 : ∀ m4 : ev_Mem, (∀ c i, c ≠ 300 → m4 c i = m3 c i) → (∀ j, j < 288 → m4 300 j = m3 302 j) → ev_J w ev_m186 (ev_nd 186) Q 109 [ev_vr 277, ev_vn v, ev_vn 0] [] m4 t := by
        intro m4 r1 r2
        have lp := ev_lup (P := fun k => ∀ (kk : Int32) (mk : ev_Mem), kk = Int32.ofNat k → (∀ c i, c ≠ 299 → mk c i = m4 c i) → (∀ j, j < k → mk 299 j = m4 301 j) → ev_J w ev_m186 (ev_nd 186) Q 109 [ev_vr 277, ev_vn v, ev_vi kk] [] mk t) 24 (by
          intro k hk ih kk mk ekk s1 s2
          subst ekk
          have ek := ev_ofNat_i (n := k) (by omega)
          refine ev_gK A hp [109] 30 ?_
          refine And.intro (fun (h2 : ((Int8.ofInt 24).toInt32).toInt ≤ (Int32.ofNat k).toInt) => ?_) (fun (h2 : (Int32.ofNat k).toInt < ((Int8.ofInt 24).toInt32).toInt) => ?_)
          · have e : k = 24 := by omega
            subst e
            show Q (.inl (some (.int (mk 277 34)))) mk t
            have e34 : mk 277 34 = Int32.ofNat bl.length := by rw [s1 _ _ (by decide), r1 _ _ (by decide)]; exact g2
            rw [e34]
            refine hQ mk _ (ab_RM_B hs (fun c i hc1 hc2 => ?_) ⟨e34, fun i hi => ⟨?_, fun j hj => ?_⟩⟩) (fun c i hc => ?_) ?_ (fun _ => rfl)
            · rw [s1 c i (fun q => hc2 (by omega)), r1 c i (fun q => hc2 (by omega)), g1 c i (fun q => hc2 (by omega)), f2 c i (fun q => hc1 (by unfold ab_sM; omega)) (fun q => hc1 (by unfold ab_sM; omega)) (fun q => hc1 (by unfold ab_sM; omega))]
              exact q1 c i (fun q => hc1 (by unfold ab_sM; omega))
            · rw [s2 i (by omega), r1 _ _ (by decide), g1 _ _ (by omega)]
              exact (B2.2 i hi).1
            · have h12 := (B2.2 i hi).2.1
              rw [s1 _ _ (by decide), r2 _ (by omega), g1 _ _ (by omega)]
              exact (B2.2 i hi).2.2 j hj
            · rw [s1 c i (by omega), r1 c i (by omega), g1 c i (by omega), f2 c i (by omega) (by omega) (by omega)]
              exact q1 c i (by omega)
            · rw [s1 _ _ (by decide), r1 _ _ (by decide), g1 _ _ (by omega), f2 _ _ (by omega) (by decide) (by decide)]
              exact q0 0 (by omega)
          · refine And.intro (ev_oin (by omega) (by decide)) ?_
            refine And.intro (ev_oin (by omega) (by decide)) ?_
            refine ih (by omega) _ _ (ev_succ (by omega)) (fun c i hc => ?_) (fun j hj => ?_)
            · rw [ev_up_cell _ hc]; exact s1 c i hc
            · rw [ev_on (by omega)]
              by_cases hjk : j = k
              · rw [hjk, ev_up_same]; exact s1 _ _ (by decide)
              · rw [ev_up_idx _ _ hjk]; exact s2 j (by omega))
        exact lp 0 (by omega) _ m4 rfl (fun _ _ _ => rfl) (fun j hj => absurd hj (Nat.not_lt_zero _))
      have loop1 := ev_lup (P := fun k => ∀ (kk : Int32) (mk : ev_Mem), kk = Int32.ofNat k → (∀ c i, c ≠ 300 → mk c i = m3 c i) → (∀ j, j < k → mk 300 j = m3 302 j) → ev_J w ev_m186 (ev_nd 186) Q 82 [ev_vr 277, ev_vn v, ev_vi kk] [] mk t) 288 (by
        intro k hk ih kk mk ekk s1 s2
        subst ekk
        have ek := ev_ofNat_i (n := k) (by omega)
        refine ev_gK A hp [82, 109] 30 ?_
        refine And.intro (fun (h2 : (Int32.ofNat 288).toInt ≤ (Int32.ofNat k).toInt) => ?_) (fun (h2 : (Int32.ofNat k).toInt < (Int32.ofNat 288).toInt) => ?_)
        · have e : k = 288 := by omega
          subst e
          exact loop2 mk s1 s2
        · refine And.intro (ev_oin (by omega) (by decide)) ?_
          refine And.intro (ev_oin (by omega) (by decide)) ?_
          refine ih (by omega) _ _ (ev_succ (by omega)) (fun c i hc => ?_) (fun j hj => ?_)
          · rw [ev_up_cell _ hc]; exact s1 c i hc
          · rw [ev_on (by omega)]
            by_cases hjk : j = k
            · rw [hjk, ev_up_same]; exact s1 _ _ (by decide)
            · rw [ev_up_idx _ _ hjk]; exact s2 j (by omega))
      exact loop1 0 (by omega) _ m3 rfl (fun _ _ _ => rfl) (fun j hj => absurd hj (Nat.not_lt_zero _))
end EvMread
