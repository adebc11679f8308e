/-! the model: settle -/
section EvMsettle2
variable {w : ev_W} {Q : ev_QT} {m : ev_Mem} {t : ev_H}
def ab_MP (m : ev_Mem) (ps : List (Nat × Nat)) : Prop := m 277 14 = Int32.ofNat ps.length ∧ ∀ e, e < ps.length → m 289 e = Int32.ofNat (ps.getD e (0, 0)).1 ∧ m 290 e = Int32.ofNat (ps.getD e (0, 0)).2
def ab_frg (m m' : ev_Mem) : Prop := ∀ c i, ¬ (c = 277 ∧ i = 18) → ¬ (282 ≤ c ∧ c ≤ 284) → c ≠ 291 → m' c i = m c i
theorem ab_fz_form (R : List (ab_Ls × ab_Ls)) (W : Nat → List ab_Ls) (x : Nat) : ab_fz (ab_fo R W x) = ab_form R (ab_sp W x) := by
  unfold ab_fo
  split
  · rename_i h; rw [h]; rfl
  · rfl
/-- how the passes go on -/
def ab_ps (th : Nat → Bool) (mk : Nat → Option Nat) (g0 g : Nat → Nat) (more : Bool) : Prop := ab_gI th mk g ∧ (more = true → ab_su g 40 < ab_su g0 40) ∧ (more = false → g = g0)
theorem ab_ps_evn {th : Nat → Bool} {mk : Nat → Option Nat} {g0 g : Nat → Nat} {more : Bool} {a b : Nat} (h : ab_ps th mk g0 g more) (ha : a < 40) (hb : b < 40) (hat : th a = true) (hbt : th b = true) (hm : mk a = mk b) : ab_ps th mk g0 (ab_evn g a b) (decide (¬ g a = g b) || more) := by
  obtain ⟨h1, h2, h3⟩ := h
  refine ⟨ab_gI_evn h1 ha hb hat hbt hm, fun q => ?_, fun q => ?_⟩
  · have hle := ab_su_le (ab_evn_le g a b) 40
    by_cases hab : g a = g b
    · rw [decide_eq_false (fun z => z hab), Bool.false_or] at q
      have := h2 q
      omega
    · have hlt := ab_evn_lt ha hb hab
      cases hmo : more with
      | true => have := h2 hmo; omega
      | false => rw [h3 hmo] at hlt ⊢; exact hlt
  · by_cases hab : g a = g b
    · rw [decide_eq_false (fun z => z hab), Bool.false_or] at q
      rw [ab_evn_eq hab]; exact h3 q
    · rw [decide_eq_true hab, Bool.true_or] at q; cases q
theorem ev_S142 {R : List (ab_Ls × ab_Ls)} {W : Nat → List ab_Ls} {P : List (Nat × Nat)} (A : ev_all w) (hS : ab_MS m W) (hW : ab_Wok W) (hL : ab_ML m W) (hR : ab_MR m R) (hRo : ab_Rok R) (hR8 : R.length ≤ 8) (hP : ab_MP m P) (hP6 : P.length ≤ 6) (hPs : ∀ q ∈ P, (q.1 < 40 ∧ ab_there W q.1 = true) ∧ (q.2 < 40 ∧ ab_there W q.2 = true))
    (hQ : ∀ m', ab_frg m m' → ab_MF m' (ab_there W) (ab_fo R W) 40 → (∃ g, ab_MG m' (ab_there W) g ∧ (∀ x, x < 40 → ab_there W x = true → g x < 40) ∧ ∀ x y, x < 40 → y < 40 → ab_there W x = true → ab_there W y = true → (g x = g y ↔ ab_mkp (ab_there W) (ab_fo R W) P x = ab_mkp (ab_there W) (ab_fo R W) P y)) → Q (.inl none) m' t) : ev_K w 142 [.ref 277] m t Q := by
  have hp : ev_prog[142]? = some ev_m142 := rfl
  have e40 : ((Int8.ofInt 40).toInt32).toInt = 40 := by decide
  have msf : ∀ mk, ab_frg m mk → ab_MS mk W := fun mk fk v hv => by rw [fk _ _ (by omega) (by omega) (by decide)]; exact hS v hv
  have mlf : ∀ mk, ab_frg m mk → ab_ML mk W := fun mk fk x hx ht => ⟨by rw [fk _ _ (by omega) (by omega) (by decide)]; exact (hL x hx ht).1, fun k hk => by rw [fk _ _ (by omega) (by omega) (by decide)]; exact (hL x hx ht).2 k hk⟩
  have mpf : ∀ mk, ab_frg m mk → ab_MP mk P := fun mk fk => ⟨by rw [fk _ _ (by omega) (by omega) (by decide)]; exact hP.1, fun e he => ⟨by rw [fk _ _ (by omega) (by omega) (by decide)]; exact (hP.2 e he).1, by rw [fk _ _ (by omega) (by omega) (by decide)]; exact (hP.2 e he).2⟩⟩
  obtain ⟨th, hth⟩ : ∃ th, ab_there W = th := ⟨_, rfl⟩
  obtain ⟨fo, hfo⟩ : ∃ fo, ab_fo R W = fo := ⟨_, rfl⟩
  obtain ⟨mk, hmk⟩ : ∃ mk, ab_mkp th fo P = mk := ⟨_, rfl⟩
  rw [hth, hfo] at hQ
  rw [hmk] at hQ
  rw [hth] at hPs
  -- the passes
  have pass : ∀ (s : Nat) (g0 : Nat → Nat) (m0 : ev_Mem) (o2 o3 : Option Value), ab_su g0 40 = s → ab_frg m m0 → ab_MF m0 th fo 40 → ab_MG m0 th g0 → ab_gI th mk g0 → ev_J w ev_m142 (ev_nd 142) Q 89 [ev_vr 277, ev_vi 1, o2, o3] [] m0 t := by
    intro s
    induction s using Nat.strongRecOn with
    | _ s ihs =>
      intro g0 m0 o2 o3 hs f0 F0 G0 I0
      -- back at the head
      have h85 : ∀ (more : Bool) (g : Nat → Nat) (m1 : ev_Mem) (o2 o3 : Option Value), ab_frg m m1 → ab_MF m1 th fo 40 → ab_MG m1 th g → ab_ps th mk g0 g more → (more = false → (∀ a b, b < a → a < 40 → th a = true → th b = true → fo a = fo b → g0 a = g0 b) ∧ ∀ q ∈ P, g0 q.1 = g0 q.2) → ev_J w ev_m142 (ev_nd 142) Q 85 [ev_vr 277, ev_vi (ab_bi more), o2, o3] [] m1 t := by
        intro more g m1 o2 o3 f1 F1 G1 P1 hall
        refine ev_gK A hp [89] 10 ?_
        refine And.intro (fun h => ?_) (fun h => ?_)
        · have hm := ab_bi_eq h
          obtain ⟨c1, c2⟩ := hall hm
          have hgg := P1.2.2 hm
          subst hgg
          refine hQ m1 f1 F1 ⟨g, G1, fun x hx ht => (P1.1 x hx ht).1, fun x y hx hy hxt hyt => ⟨fun q => ?_, fun q => ?_⟩⟩
          · have a1 := (P1.1 x hx hxt).2.2
            have a2 := (P1.1 y hy hyt).2.2
            rw [← a1, ← a2, q]
          · rw [← hmk] at q
            refine ab_mkp_min (fun x y hx hy hxt hyt hf => ?_) P (fun r hr => ⟨hPs r hr, c2 r hr⟩) x y hx hy hxt hyt q
            rcases Nat.lt_trichotomy x y with z | z | z
            · exact (c1 y x z hy hyt hxt hf.symm).symm
            · rw [z]
            · exact c1 x y z hx hxt hyt hf
        · have hm := ab_bi_neq h
          rw [hm]
          exact ihs (ab_su g 40) (by rw [← hs]; exact P1.2.1 hm) g m1 _ _ rfl f1 F1 G1 P1.1
      -- the pairs
      have pairs := ev_lup (P := fun e => ∀ (ee mm : Int32) (more : Bool) (g : Nat → Nat) (m1 : ev_Mem) (o3 : Option Value), ee = Int32.ofNat e → mm = ab_bi more → ab_frg m m1 → ab_MF m1 th fo 40 → ab_MG m1 th g → ab_ps th mk g0 g more → (more = false → (∀ a b, b < a → a < 40 → th a = true → th b = true → fo a = fo b → g0 a = g0 b) ∧ ∀ e', e' < e → g0 (P.getD e' (0, 0)).1 = g0 (P.getD e' (0, 0)).2) → ev_J w ev_m142 (ev_nd 142) Q 164 [ev_vr 277, ev_vi mm, ev_vi ee, o3] [] m1 t) P.length (by
        intro e he ih ee mm more g m1 o3 eee emm f1 F1 G1 P1 hall
        subst eee emm
        have ee := ev_ofNat_i (n := e) (by omega)
        have P1m := mpf m1 f1
        have e14 := ev_toI P1m.1 (by omega)
        refine ev_gK A hp [85, 172] 10 ?_
        refine And.intro (fun (h : (m1 277 14).toInt ≤ (Int32.ofNat e).toInt) => ?_) (fun (h : (Int32.ofNat e).toInt < (m1 277 14).toInt) => ?_)
        · refine h85 more g m1 _ _ f1 F1 G1 P1 (fun hm => ⟨(hall hm).1, fun q hq => ?_⟩)
          obtain ⟨i, hi, hiq⟩ := List.getElem_of_mem hq
          have h2 := (hall hm).2 i (by omega)
          rw [List.getD_eq_getElem?_getD, List.getElem?_eq_getElem hi] at h2
          rw [← hiq]; exact h2
        · have hel : e < P.length := by omega
          have hmem : P.getD e (0, 0) ∈ P := by
            rw [List.getD_eq_getElem?_getD, List.getElem?_eq_getElem hel]
            exact List.getElem_mem hel
          obtain ⟨⟨q1, q1t⟩, q2, q2t⟩ := hPs _ hmem
          obtain ⟨d1, d2⟩ := P1m.2 e hel
          have hmq : mk (P.getD e (0, 0)).1 = mk (P.getD e (0, 0)).2 := by rw [← hmk]; exact ab_mkp_pr P _ _ hmem q1t q2t
          refine ev_gK A hp [] 9 ?_
          refine And.intro (ev_oin (by omega) (by decide)) ?_
          refine And.intro (ev_oin (by omega) (by decide)) ?_
          show ev_J w ev_m142 (ev_nd 142) Q 185 [ev_vr 277, ev_vi (ab_bi more), ev_vn e, o3] [.int (m1 290 (Int32.ofNat e).toNatClampNeg), .int (m1 289 (Int32.ofNat e).toNatClampNeg), .ref 277] m1 t
          rw [ev_on (by omega), d1, d2]
          have P2 := ab_ps_evn P1 q1 q2 q1t q2t hmq
          refine ev_gK A hp [200] 10 ?_
          refine ev_S150 A G1 q1 q2 q1t q2t (P1.1 _ q1 q1t).1 (P1.1 _ q2 q2t).1 (fun m2 f2 G2 => ?_)
          have f12 : ab_frg m m2 := fun c i z1 z2 z3 => by rw [f2 c i (by omega)]; exact f1 c i z1 z2 z3
          have F2 : ab_MF m2 th fo 40 := fun x hx ht => ⟨⟨by rw [f2 _ _ (by decide)]; exact (F1 x hx ht).1.1, (F1 x hx ht).1.2⟩, fun k hk => by rw [f2 _ _ (by decide)]; exact (F1 x hx ht).2 k hk⟩
          have h200 : ∀ b : Bool, b = (decide (¬ g (P.getD e (0, 0)).1 = g (P.getD e (0, 0)).2) || more) → ev_J w ev_m142 (ev_nd 142) Q 200 [ev_vr 277, ev_vi (ab_bi more), ev_vn e, o3] [.int (ab_bi b)] m2 t := by
            intro b hb
            refine ev_gK A hp [164] 10 ?_
            refine ih hel _ _ b _ m2 _ (ev_succ (by omega)) rfl f12 F2 G2 (by rw [hb]; exact P2) (fun hbf => ?_)
            rw [hbf] at hb
            have hb2 := hb.symm
            rw [Bool.or_eq_false_iff] at hb2
            have hgeq : g (P.getD e (0, 0)).1 = g (P.getD e (0, 0)).2 := Decidable.not_not.mp (of_decide_eq_false hb2.1)
            refine ⟨(hall hb2.2).1, fun e' he' => ?_⟩
            by_cases hee : e' = e
            · rw [hee, ← P1.2.2 hb2.2]; exact hgeq
            · exact (hall hb2.2).2 e' (by omega)
          refine And.intro (fun h2 => h200 true (by rw [ab_bi_ne h2]; rfl)) (fun h2 => ?_)
          have h3 := ab_bi_nne h2
          refine And.intro (fun h4 => ?_) (fun h4 => ?_)
          · exact h200 false (by rw [h3, ab_bi_eq h4]; rfl)
          · exact h200 true (by rw [h3, ab_bi_neq h4]; rfl))
      -- the alike
      have chk : ∀ a b : Nat, Prop := fun a b => ∀ a' b', (a' < a ∨ (a' = a ∧ b' < b)) → b' < a' → a' < 40 → th a' = true → th b' = true → fo a' = fo b' → g0 a' = g0 b'
      have inner : ∀ a, a < 40 → th a = true → (∀ (mm : Int32) (more : Bool) (g : Nat → Nat) (m1 : ev_Mem) (o3 : Option Value), mm = ab_bi more → ab_frg m m1 → ab_MF m1 th fo 40 → ab_MG m1 th g → ab_ps th mk g0 g more → (more = false → ∀ a' b', a' ≤ a → b' < a' → a' < 40 → th a' = true → th b' = true → fo a' = fo b' → g0 a' = g0 b') → ev_J w ev_m142 (ev_nd 142) Q 156 [ev_vr 277, ev_vi mm, ev_vn a, o3] [] m1 t) →
          ∀ b, b ≤ a → ∀ (bb mm : Int32) (more : Bool) (g : Nat → Nat) (m1 : ev_Mem), bb = Int32.ofNat b → mm = ab_bi more → ab_frg m m1 → ab_MF m1 th fo 40 → ab_MG m1 th g → ab_ps th mk g0 g more → (more = false → ∀ a' b', (a' < a ∨ (a' = a ∧ b' < b)) → b' < a' → a' < 40 → th a' = true → th b' = true → fo a' = fo b' → g0 a' = g0 b') → ev_J w ev_m142 (ev_nd 142) Q 101 [ev_vr 277, ev_vi mm, ev_vn a, ev_vi bb] [] m1 t := by
        intro a ha hat kont
        refine ev_lup (P := fun b => ∀ (bb mm : Int32) (more : Bool) (g : Nat → Nat) (m1 : ev_Mem), bb = Int32.ofNat b → mm = ab_bi more → ab_frg m m1 → ab_MF m1 th fo 40 → ab_MG m1 th g → ab_ps th mk g0 g more → (more = false → ∀ a' b', (a' < a ∨ (a' = a ∧ b' < b)) → b' < a' → a' < 40 → th a' = true → th b' = true → fo a' = fo b' → g0 a' = g0 b') → ev_J w ev_m142 (ev_nd 142) Q 101 [ev_vr 277, ev_vi mm, ev_vn a, ev_vi bb] [] m1 t) a (fun b hb ih bb mm more g m1 ebb emm f1 F1 G1 P1 hall => ?_)
        subst ebb emm
        have ea := ev_ofNat_i (n := a) (by omega)
        have eb := ev_ofNat_i (n := b) (by omega)
        have S1 := msf m1 f1
        refine ev_gK A hp [106, 156] 10 ?_
        refine And.intro (fun (h : (Int32.ofNat a).toInt ≤ (Int32.ofNat b).toInt) => ?_) (fun (h : (Int32.ofNat b).toInt < (Int32.ofNat a).toInt) => ?_)
        · exact kont _ more g m1 _ rfl f1 F1 G1 P1 (fun hm a' b' z1 z2 => hall hm a' b' (by omega) z2)
        have hba : b < a := by omega
        have next : ∀ (b2 : Bool) (g2 : Nat → Nat) (m2 : ev_Mem), ab_frg m m2 → ab_MF m2 th fo 40 → ab_MG m2 th g2 → ab_ps th mk g0 g2 b2 → (b2 = false → ∀ a' b', (a' < a ∨ (a' = a ∧ b' < b + 1)) → b' < a' → a' < 40 → th a' = true → th b' = true → fo a' = fo b' → g0 a' = g0 b') → ev_J w ev_m142 (ev_nd 142) Q 149 [ev_vr 277, ev_vi (ab_bi more), ev_vn a, ev_vn b] [.int (ab_bi b2)] m2 t := by
          intro b2 g2 m2 f2 F2 G2 P2 hall2
          refine ev_gK A hp [101] 10 ?_
          exact ih hba _ _ b2 g2 m2 (ev_succ (by omega)) rfl f2 F2 G2 P2 hall2
        have skip : ¬ (th b = true ∧ fo a = fo b) → ev_J w ev_m142 (ev_nd 142) Q 140 [ev_vr 277, ev_vi (ab_bi more), ev_vn a, ev_vn b] [] m1 t := by
          intro hn
          have hs2 : more = false → ∀ a' b', (a' < a ∨ (a' = a ∧ b' < b + 1)) → b' < a' → a' < 40 → th a' = true → th b' = true → fo a' = fo b' → g0 a' = g0 b' := by
            intro hm a' b' z1 z2 z3 z4 z5 z6
            by_cases hc : a' = a ∧ b' = b
            · obtain ⟨rfl, rfl⟩ := hc
              exact absurd ⟨z5, z6⟩ hn
            · exact hall hm a' b' (by omega) z2 z3 z4 z5 z6
          refine ev_gK A hp [149] 10 ?_
          refine And.intro (fun h2 => ?_) (fun h2 => ?_)
          · have hm := ab_bi_eq h2
            have h3 := next more g m1 f1 F1 G1 P1 hs2
            rw [hm] at h3 ⊢
            exact h3
          · have hm := ab_bi_neq h2
            have h3 := next more g m1 f1 F1 G1 P1 hs2
            rw [hm] at h3 ⊢
            exact h3
        refine ev_gK A hp [114, 156] 10 ?_
        refine ev_S143 A S1 hW ha ?_
        rw [hth, hat]
        refine And.intro (fun h2 => absurd (h2 : (1 : Int32).toInt = 0) ev_ne10) (fun _ => ?_)
        refine ev_gK A hp [122, 140] 10 ?_
        refine ev_S143 A S1 hW (by omega) ?_
        rw [hth]
        refine And.intro (fun h2 => skip (fun q => by rw [ab_bi_eq h2] at q; cases q.1)) (fun h2 => ?_)
        have hbt := ab_bi_neq h2
        refine ev_gK A hp [131, 140] 10 ?_
        refine ev_S148 (R := R) A (mlf m1 f1) hW (by rw [hth, hfo]; exact F1) ha (by omega) (by rw [hth]; exact hat) (by rw [hth]; exact hbt) ?_
        rw [hfo]
        refine And.intro (fun h3 => skip (fun q => of_decide_eq_false (ab_bi_eq h3) q.2)) (fun h3 => ?_)
        have hab := of_decide_eq_true (ab_bi_neq h3)
        have hmq : mk a = mk b := by rw [← hmk]; exact ab_mkp_al hat hbt hab
        have P2 := ab_ps_evn P1 ha (by omega) hat hbt hmq
        refine ev_gK A hp [149] 10 ?_
        refine ev_S150 A G1 ha (by omega) hat hbt (P1.1 _ ha hat).1 (P1.1 b (by omega) hbt).1 (fun m2 f2 G2 => ?_)
        have f12 : ab_frg m m2 := fun c i z1 z2 z3 => by rw [f2 c i (by omega)]; exact f1 c i z1 z2 z3
        have F2 : ab_MF m2 th fo 40 := fun x hx ht => ⟨⟨by rw [f2 _ _ (by decide)]; exact (F1 x hx ht).1.1, (F1 x hx ht).1.2⟩, fun k hk => by rw [f2 _ _ (by decide)]; exact (F1 x hx ht).2 k hk⟩
        have h149 : ∀ b2 : Bool, b2 = (decide (¬ g a = g b) || more) → ev_J w ev_m142 (ev_nd 142) Q 149 [ev_vr 277, ev_vi (ab_bi more), ev_vn a, ev_vn b] [.int (ab_bi b2)] m2 t := by
          intro b2 hb2
          refine next b2 _ m2 f12 F2 G2 (by rw [hb2]; exact P2) (fun hbf a' b' z1 z2 z3 z4 z5 z6 => ?_)
          rw [hbf] at hb2
          have hb3 := hb2.symm
          rw [Bool.or_eq_false_iff] at hb3
          have hgeq : g a = g b := Decidable.not_not.mp (of_decide_eq_false hb3.1)
          by_cases hc : a' = a ∧ b' = b
          · obtain ⟨rfl, rfl⟩ := hc
            rw [← P1.2.2 hb3.2]; exact hgeq
          · exact hall hb3.2 a' b' (by omega) z2 z3 z4 z5 z6
        refine And.intro (fun h4 => h149 true (by rw [ab_bi_ne h4]; rfl)) (fun h4 => ?_)
        have h5 := ab_bi_nne h4
        refine And.intro (fun h6 => ?_) (fun h6 => ?_)
        · exact h149 false (by rw [h5, ab_bi_eq h6]; rfl)
        · exact h149 true (by rw [h5, ab_bi_neq h6]; rfl)
      have outer := ev_lup (P := fun a => ∀ (aa mm : Int32) (more : Bool) (g : Nat → Nat) (m1 : ev_Mem) (o3 : Option Value), aa = Int32.ofNat a → mm = ab_bi more → ab_frg m m1 → ab_MF m1 th fo 40 → ab_MG m1 th g → ab_ps th mk g0 g more → (more = false → ∀ a' b', a' < a → b' < a' → a' < 40 → th a' = true → th b' = true → fo a' = fo b' → g0 a' = g0 b') → ev_J w ev_m142 (ev_nd 142) Q 93 [ev_vr 277, ev_vi mm, ev_vi aa, o3] [] m1 t) 40 (by
        intro a ha ih aa mm more g m1 o3 eaa emm f1 F1 G1 P1 hall
        subst eaa emm
        have ea := ev_ofNat_i (n := a) (by omega)
        refine ev_gK A hp [101, 164] 10 ?_
        refine And.intro (fun (h : ((Int8.ofInt 40).toInt32).toInt ≤ (Int32.ofNat a).toInt) => ?_) (fun (h : (Int32.ofNat a).toInt < ((Int8.ofInt 40).toInt32).toInt) => ?_)
        · have e : a = 40 := by omega
          subst e
          exact pairs 0 (by omega) _ _ more g m1 _ rfl rfl f1 F1 G1 P1 (fun hm => ⟨fun a b z1 z2 z3 z4 z5 => hall hm a b z2 z1 z2 z3 z4 z5, fun e' he' => by omega⟩)
        · have ha40 : a < 40 := by omega
          have h156 : ∀ (mm : Int32) (more : Bool) (g : Nat → Nat) (m1 : ev_Mem) (o3 : Option Value), mm = ab_bi more → ab_frg m m1 → ab_MF m1 th fo 40 → ab_MG m1 th g → ab_ps th mk g0 g more → (more = false → ∀ a' b', a' ≤ a → b' < a' → a' < 40 → th a' = true → th b' = true → fo a' = fo b' → g0 a' = g0 b') → ev_J w ev_m142 (ev_nd 142) Q 156 [ev_vr 277, ev_vi mm, ev_vn a, o3] [] m1 t := by
            intro mm more g m1 o3 emm f1 F1 G1 P1 hall
            refine ev_gK A hp [93] 10 ?_
            exact ih ha40 _ _ more g m1 _ (ev_succ (by omega)) emm f1 F1 G1 P1 (fun hm a' b' z1 => hall hm a' b' (by omega))
          cases hat : th a with
          | true => exact inner a ha40 hat h156 0 (by omega) _ _ more g m1 rfl rfl f1 F1 G1 P1 (fun hm a' b' z1 => hall hm a' b' (by omega))
          | false =>
            have hdone : more = false → ∀ a' b', a' ≤ a → b' < a' → a' < 40 → th a' = true → th b' = true → fo a' = fo b' → g0 a' = g0 b' := by
              intro hm a' b' z1 z2 z3 z4
              by_cases hc : a' = a
              · rw [hc, hat] at z4; cases z4
              · exact hall hm a' b' (by omega) z2 z3 z4
            have e0 : (Int32.ofNat 0).toInt = 0 := by decide
            show ev_J w ev_m142 (ev_nd 142) Q 101 [ev_vr 277, ev_vi (ab_bi more), ev_vn a, ev_vn 0] [] m1 t
            refine ev_gK A hp [106, 156] 10 ?_
            refine And.intro (fun _ => h156 _ more g m1 _ rfl f1 F1 G1 P1 hdone) (fun _ => ?_)
            refine ev_gK A hp [156] 10 ?_
            refine ev_S143 A (msf m1 f1) hW ha40 ?_
            rw [hth, hat]
            exact And.intro (fun _ => h156 _ more g m1 _ rfl f1 F1 G1 P1 hdone) (fun h2 => absurd ev_eq00 h2))
      refine ev_gK A hp [93] 10 ?_
      exact outer 0 (by omega) _ _ false g0 m0 _ rfl rfl f0 F0 G0 ⟨I0, fun q => (by cases q), fun _ => rfl⟩ (fun _ a' b' z1 => by omega)
  -- the forms
  have forms := ev_lup (P := fun x => ∀ (xx : Int32) (m1 : ev_Mem) (o2 o3 : Option Value), xx = Int32.ofNat x → ab_frg m m1 → ab_MF m1 th fo x → (∀ y, y < x → th y = true → m1 284 y = Int32.ofNat y) → ev_J w ev_m142 (ev_nd 142) Q 2 [ev_vr 277, ev_vi xx, o2, o3] [] m1 t) 40 (by
    intro x hx ih xx m1 o2 o3 exx f1 F1 G1
    subst exx
    have ex := ev_ofNat_i (n := x) (by omega)
    refine ev_gK A hp [8, 89] 10 ?_
    refine And.intro (fun (h : ((Int8.ofInt 40).toInt32).toInt ≤ (Int32.ofNat x).toInt) => ?_) (fun (h : (Int32.ofNat x).toInt < ((Int8.ofInt 40).toInt32).toInt) => ?_)
    · have e : x = 40 := by omega
      subst e
      refine And.intro (fun h2 => absurd (h2 : (1 : Int32).toInt = 0) ev_ne10) (fun _ => ?_)
      exact pass _ (fun y => y) m1 _ _ rfl f1 F1 G1 (fun y hy hyt => ⟨hy, hyt, rfl⟩)
    have hx40 : x < 40 := by omega
    have next : ∀ (m2 : ev_Mem) (o2 : Option Value), ab_frg m m2 → ab_MF m2 th fo (x + 1) → (∀ y, y < x + 1 → th y = true → m2 284 y = Int32.ofNat y) → ev_J w ev_m142 (ev_nd 142) Q 77 [ev_vr 277, ev_vn x, o2, o3] [] m2 t := by
      intro m2 o2 f2 F2 G2
      refine ev_gK A hp [2] 10 ?_
      exact ih hx40 _ m2 _ _ (ev_succ (by omega)) f2 F2 G2
    show ev_J w ev_m142 (ev_nd 142) Q 8 [ev_vr 277, ev_vn x, o2, o3] [] m1 t
    refine ev_gK A hp [16, 77] 10 ?_
    refine ev_S143 A (msf m1 f1) hW hx40 ?_
    rw [hth]
    refine And.intro (fun h2 => ?_) (fun h2 => ?_)
    · have hf := ab_bi_eq h2
      refine next m1 _ f1 (fun y hy ht => ?_) (fun y hy ht => ?_)
      · by_cases hyx : y = x
        · rw [hyx, hf] at ht; cases ht
        · exact F1 y (by omega) ht
      · by_cases hyx : y = x
        · rw [hyx, hf] at ht; cases ht
        · exact G1 y (by omega) ht
    · have hxt := ab_bi_neq h2
      have hxt2 : ab_there W x = true := by rw [hth]; exact hxt
      obtain ⟨l1, l2⟩ := mlf m1 f1 x hx40 hxt2
      have h6 := (ab_sp_ok hW hx40 hxt2).1
      have hfl := ab_fo_len hRo hW hx40 hxt2
      have hfz : ab_fz (fo x) = ab_form R (ab_sp W x) := by rw [← hfo]; exact ab_fz_form R W x
      have hlen12 : (ab_form R (ab_sp W x)).length ≤ 12 := by
        have h7 := ab_br_len hRo (ab_sp W x) (ab_sp W x).length 0
        show (ab_br R (ab_sp W x) (ab_sp W x).length 0).length ≤ 12
        omega
      refine ev_gK A hp [] 6 ?_
      refine And.intro (ev_oin hx40 (by decide)) ?_
      show ev_J w ev_m142 (ev_nd 142) Q 24 [ev_vr 277, ev_vn x, o2, o3] [.int (m1 281 (Int32.ofNat x).toNatClampNeg), .int (Int32.ofNat x), .ref 277] m1 t
      rw [ev_on (by omega), l1]
      refine ev_gK A hp [] 1 ?_
      have R1 := ab_MR_frt (m' := m1) (fun c i hc => f1 c i (by omega) (by omega) (by omega)) hR
      refine ev_S144 (x := some x) A R1 hRo hR8 ⟨⟨hx40, h6⟩, l2⟩ (fun m2 f2 X2 => ?_)
      generalize hfm : ab_form R (ab_sp W x) = fm at *
      show ev_J w ev_m142 (ev_nd 142) Q 27 [ev_vr 277, ev_vn x, o2, o3] [] m2 t
      refine ev_gK A hp [39] 20 ?_
      refine And.intro (ev_oin hx40 (by decide)) ?_
      have inner := ev_lup (P := fun k => ∀ (kk : Int32) (m3 : ev_Mem), kk = Int32.ofNat k → (∀ c i, ¬ (c = 283 ∧ i = x) → ¬ (c = 282 ∧ 12 * x ≤ i ∧ i < 12 * x + 12) → m3 c i = m2 c i) → m3 283 x = Int32.ofNat fm.length → (∀ j, j < k → m3 282 (12 * x + j) = fm.getD j 0) → ev_J w ev_m142 (ev_nd 142) Q 39 [ev_vr 277, ev_vn x, ev_vi kk, o3] [] m3 t) fm.length (by
        intro k hk ihk kk m3 ekk f3 h283 h282
        subst ekk
        have ek := ev_ofNat_i (n := k) (by omega)
        have h18 : m3 277 18 = Int32.ofNat fm.length := by rw [f3 _ _ (by omega) (by omega)]; exact X2.1
        have e18 := ev_toI h18 (by omega)
        refine ev_gK A hp [47, 70] 10 ?_
        refine And.intro (fun (h : (m3 277 18).toInt ≤ (Int32.ofNat k).toInt) => ?_) (fun (h : (Int32.ofNat k).toInt < (m3 277 18).toInt) => ?_)
        · have e : k = fm.length := by omega
          subst e
          refine ev_gK A hp [77] 10 ?_
          refine And.intro (ev_oin hx40 (by decide)) ?_
          refine next _ _ (fun c i z1 z2 z3 => ?_) (fun y hy ht => ?_) (fun y hy ht => ?_)
          · rw [ev_up_cell _ (by omega), f3 c i (by omega) (by omega), f2 c i z1 z3]
            exact f1 c i z1 z2 z3
          · by_cases hyx : y = x
            · subst hyx
              rw [hfz]
              exact ⟨⟨by rw [ev_up_cell _ (by decide)]; exact h283, hlen12⟩, fun j hj => by rw [ev_up_cell _ (by decide)]; exact h282 j hj⟩
            · obtain ⟨⟨b1, b2⟩, b3⟩ := F1 y (by omega) ht
              refine ⟨⟨?_, b2⟩, fun j hj => ?_⟩
              · rw [ev_up_cell _ (by decide), f3 _ _ (by omega) (by omega), f2 _ _ (by omega) (by decide)]; exact b1
              · rw [ev_up_cell _ (by decide), f3 _ _ (by omega) (by omega), f2 _ _ (by omega) (by decide)]; exact b3 j hj
          · rw [ev_on (by omega)]
            by_cases hyx : y = x
            · rw [hyx, ev_up_same]
            · rw [ev_up_idx _ _ hyx, f3 _ _ (by omega) (by omega), f2 _ _ (by omega) (by decide)]
              exact G1 y (by omega) ht
        · have hkl : k < fm.length := by omega
          have ei : (Int8.ofInt 12).toInt32 * Int32.ofNat x + Int32.ofNat k = Int32.ofNat (12 * x + k) := ev_lin (c := 12) (by omega) (by omega) (by omega)
          refine ev_gK A hp [39] 20 ?_
          refine And.intro (ev_oin (by omega) (by decide)) ?_
          refine And.intro (ev_iin ei (by omega) (by decide)) ?_
          refine ihk hkl _ _ (ev_succ (by omega)) (fun c i z1 z2 => ?_) ?_ (fun j hj => ?_)
          · rw [ev_at ei (by omega)]
            unfold ev_up
            rw [if_neg (by omega)]
            exact f3 c i z1 z2
          · rw [ev_up_cell _ (by decide)]; exact h283
          · rw [ev_at ei (by omega)]
            by_cases hjk : j = k
            · rw [hjk, ev_up_same, ev_on (by omega), f3 _ _ (by omega) (by omega)]
              exact X2.2 k hkl
            · rw [ev_up_idx _ _ (by omega)]; exact h282 j (by omega))
      refine inner 0 (by omega) _ _ rfl (fun c i z1 z2 => ?_) ?_ (fun j hj => by omega)
      · rw [ev_on (by omega)]
        exact if_neg z1
      · rw [ev_on (by omega), ev_up_same]
        exact X2.1)
  refine ⟨Or.inr ⟨277, _, rfl, rfl⟩, ev_m142, rfl, ev_gK A hp [2] 10 ?_⟩
  exact forms 0 (by omega) _ m _ _ rfl (fun _ _ _ _ _ => rfl) (fun y hy => by omega) (fun y hy => by omega)
end EvMsettle2
