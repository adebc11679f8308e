/-! the model's reading: numbers, lemmas, sigla, what is kept -/
section EvMparse
variable {w : ev_W} {Q : ev_QT} {m : ev_Mem} {t : ev_H} {z : ab_Z}
/-- numberAbove -/
theorem ev_S191 {n pm : Nat} {o : ab_Ls} {T : ab_T} {x : Int32} (A : ev_all w) (hT : ab_MT m T) (hk : T.1 ≤ 24) (hO : ab_MO m o) (ho : ab_Ook o) (hs : ab_TS m o (.inr n)) (hx : x = Int32.ofInt ((pm : Int) - 1)) (hpm : pm ≤ 24) (hQ : Q (.inl (some (.int (ab_oi ((ab_pl o T.1 pm n).map (fun q => q.2)))))) m t) : ev_K w 191 [.ref 277, .int x] m t Q := by
  have hp : ev_prog[191]? = some ev_m191 := rfl
  obtain ⟨s0, s1, s2, s3, s4⟩ := hs
  have hlen := ho.1
  have t1 := ev_toI hT.1 (by omega)
  have i48 : ((Int8.ofInt 48).toInt32).toInt = 48 := by decide
  have xi : x.toInt = (pm : Int) - 1 := by rw [hx, ev_ofInt_i (by omega) (by omega)]
  refine ⟨Or.inr ⟨277, _, rfl, rfl⟩, ev_m191, rfl, ev_gK A hp [11] 10 ?_⟩
  refine And.intro (fun (h : (m 277 32).toInt = ((Int8.ofInt (-2)).toInt32).toInt) => ?_) (fun (h : ¬ (m 277 32).toInt = ((Int8.ofInt (-2)).toInt32).toInt) => ?_)
  case refine_2 =>
    have hd : ab_run o n 48 57 2 = 0 := by
      by_cases q : 0 < ab_run o n 48 57 2
      · exact absurd (by rw [s3, (ab_tk_d ho).mpr q]; rfl) h
      · omega
    have e : ab_pl o T.1 pm n = none := if_pos (Or.inl hd)
    rw [e] at hQ
    exact hQ
  have hd : 0 < ab_run o n 48 57 2 := (ab_tk_d ho).mp (by rw [← s3]; exact ev_eq_of h)
  have hnx := ab_nx_d hd
  have hrl := ab_run_le o 48 57 2 n
  have hri := ab_run_in o 48 57 2 n
  unfold ab_pl at hQ
  generalize ab_run o n 48 57 2 = d at *
  have hn : n < o.length := (hri 0 hd).1
  have sgn : ∀ k, k < d → (o.getD (n + k) 0 - Int32.ofNat 48 = Int32.ofNat (ab_dg o (n + k)) ∧ ab_dg o (n + k) ≤ 9) := by
    intro k hk
    obtain ⟨a, b, c⟩ := hri k hk
    refine ⟨ev_subN b (by omega), ?_⟩
    unfold ab_dg
    omega
  have c0 : m 298 (m 277 31).toNatClampNeg = o.getD n 0 := by rw [ev_at s1 (by omega)]; exact hO.2 n hn
  have e31 : m 277 31 + 1 = Int32.ofNat (n + 1) := by rw [s1]; exact ev_succ (by omega)
  have i30 : (m 277 30).toInt = ((n + d : Nat) : Int) := by rw [s2, hnx]; exact ev_ofNat_i (by omega)
  have i31 : (m 277 31 + 1).toInt = ((n + 1 : Nat) : Int) := by rw [e31]; exact ev_ofNat_i (by omega)
  have v0 : m 298 (m 277 31).toNatClampNeg - Int32.ofNat 48 = Int32.ofNat (ab_dg o n) := by rw [c0]; exact (sgn 0 hd).1
  have g0 : ab_dg o n ≤ 9 := (sgn 0 hd).2
  have h115 : ∀ b : Bool, (b = true ↔ ¬ (d = 0 ∨ (1 < d ∧ (o.getD n 0).toInt = 48) ∨ ab_pv o n d < pm ∨ T.1 ≤ ab_pv o n d)) → ev_J w ev_m191 (ev_nd 191) Q 115 [ev_vr 277, ev_vi x, ev_vn (ab_pv o n d), none] [.int (ab_bi b)] m t := by
    intro b hb
    refine ev_gK A hp [] 20 ?_
    refine And.intro (fun h2 => ?_) (fun h2 => ?_)
    · have h3 := ab_bi_eq h2
      rw [if_pos (by
        apply Decidable.byContradiction
        intro q
        rw [hb.mpr q] at h3
        cases h3)] at hQ
      exact hQ
    · have h3 := hb.mp (ab_bi_neq h2)
      rw [if_neg h3] at hQ
      exact hQ
  have h69 : ∀ v : Int32, v = Int32.ofNat (ab_pv o n d) → ab_pv o n d < 1000 → ev_J w ev_m191 (ev_nd 191) Q 69 [ev_vr 277, ev_vi x, none, none] [.int v] m t := by
    intro v hv hlt
    subst hv
    have ev := ev_ofNat_i (n := ab_pv o n d) (by omega)
    have no : ¬ ¬ (d = 0 ∨ (1 < d ∧ (o.getD n 0).toInt = 48) ∨ ab_pv o n d < pm ∨ T.1 ≤ ab_pv o n d) → ev_J w ev_m191 (ev_nd 191) Q 115 [ev_vr 277, ev_vi x, ev_vn (ab_pv o n d), none] [.int (ab_bi false)] m t := fun h => h115 false ⟨fun q => (by cases q), fun q => absurd q h⟩
    have yes : ¬ (d = 0 ∨ (1 < d ∧ (o.getD n 0).toInt = 48) ∨ ab_pv o n d < pm ∨ T.1 ≤ ab_pv o n d) → ev_J w ev_m191 (ev_nd 191) Q 115 [ev_vr 277, ev_vi x, ev_vn (ab_pv o n d), none] [.int (ab_bi true)] m t := fun h => h115 true ⟨fun _ => h, fun _ => rfl⟩
    refine ev_gK A hp [115] 40 ?_
    refine And.intro (fun (h2 : (Int32.ofNat (ab_pv o n d)).toInt ≤ x.toInt) => no (by omega)) (fun (h2 : x.toInt < (Int32.ofNat (ab_pv o n d)).toInt) => ?_)
    refine And.intro (fun (h3 : (m 277 22).toInt ≤ (Int32.ofNat (ab_pv o n d)).toInt) => no (by omega)) (fun (h3 : (Int32.ofNat (ab_pv o n d)).toInt < (m 277 22).toInt) => ?_)
    refine And.intro (fun (h4 : (m 277 30).toInt = (m 277 31 + 1).toInt) => yes (by omega)) (fun (h4 : ¬ (m 277 30).toInt = (m 277 31 + 1).toInt) => ?_)
    refine And.intro (ev_iin s1 (by omega) (by decide)) ?_
    refine And.intro (fun (h5 : (m 298 (m 277 31).toNatClampNeg).toInt = ((Int8.ofInt 48).toInt32).toInt) => no (by rw [c0] at h5; omega)) (fun (h5 : ¬ (m 298 (m 277 31).toNatClampNeg).toInt = ((Int8.ofInt 48).toInt32).toInt) => yes (by rw [c0] at h5; omega))
  refine ev_gK A hp [69] 40 ?_
  refine And.intro (fun (h2 : ¬ (m 277 30).toInt = (m 277 31 + 1).toInt) => ?_) (fun (h2 : (m 277 30).toInt = (m 277 31 + 1).toInt) => ?_)
  · have hd2 : d = 2 := by omega
    subst hd2
    have g1 := (sgn 1 (by omega)).2
    have hn1 : n + 1 < o.length := (hri 1 (by omega)).1
    have hr1 := (hri 1 (by omega)).2
    have c1 : m 298 (m 277 31 + 1).toNatClampNeg = Int32.ofNat (ab_dg o (n + 1) + 48) := by
      rw [ev_at e31 (by omega), hO.2 _ hn1]
      refine (ev_ofNat_toNat (by omega)).symm.trans ?_
      unfold ab_dg
      congr 1
      omega
    have ep : ab_pv o n 2 = 10 * ab_dg o n + ab_dg o (n + 1) := if_neg (by decide)
    have v1 : Int32.ofNat 10 * (m 298 (m 277 31).toNatClampNeg - Int32.ofNat 48) + m 298 (m 277 31 + 1).toNatClampNeg - Int32.ofNat 48 = Int32.ofNat (ab_pv o n 2) := by
      rw [v0, c1, ev_mulN (by decide) (by omega), ev_addN (by omega), ev_subNN (by omega) (by omega), ep]
      congr 1
    refine And.intro (ev_iin s1 (by omega) (by decide)) ?_
    refine And.intro (ev_iin e31 (by omega) (by decide)) ?_
    exact h69 _ v1 (by omega)
  · have hd1 : d = 1 := by omega
    subst hd1
    have ep : ab_pv o n 1 = ab_dg o n := if_pos rfl
    refine And.intro (ev_iin s1 (by omega) (by decide)) ?_
    exact h69 _ (Eq.trans v0 (by rw [ep])) (by omega)
/-- isLemma -/
theorem ev_S194 {n : Nat} {x : Option Nat} {o : ab_Ls} (A : ev_all w) (hE : ab_RE m z) (hok : ab_ok z) (hx : ab_okz z x) (hO : ab_MO m o) (ho : ab_Ook o) (hs : ab_TS m o (.inr n)) (hQ : Q (.inl (some (.int (ab_bi (ab_lm (zf z) x o n).isSome)))) m t) : ev_K w 194 [.ref 277, .int (ab_oi x)] m t Q := by
  have hp : ev_prog[194]? = some ev_m194 := rfl
  obtain ⟨s0, s1, s2, s3, s4⟩ := hs
  have hlen := ho.1
  have sig : ∀ (c cc : Int32), cc = c → ab_pn1 c → ab_lm (zf z) x o n = ab_si o c n → ev_J w ev_m194 (ev_nd 194) Q 49 [ev_vr 277, ev_vi (ab_oi x), none, none] [.int cc, .int (m 277 32)] m t := by
    intro c cc hcc hc hl
    subst hcc
    rw [hl] at hQ
    unfold ab_si at hQ
    refine ev_gK A hp [] 20 ?_
    refine And.intro (fun (h : ¬ (m 277 32).toInt = cc.toInt) => ?_) (fun (h : (m 277 32).toInt = cc.toInt) => ?_)
    · rw [if_neg (fun q => h (by rw [s3, (ab_tk_is hc).mpr q]))] at hQ
      exact ⟨rfl, hQ⟩
    · have q := (ab_tk_is (o := o) (n := n) hc).mp (by rw [← s3]; exact ev_eq_of h)
      rw [if_pos q] at hQ
      exact ⟨rfl, hQ⟩
  refine ⟨Or.inr ⟨277, _, rfl, rfl⟩, ev_m194, rfl, ev_gK A hp [4, 21] 10 ?_⟩
  cases x with
  | none =>
    refine And.intro (fun _ => ?_) (fun (h : 0 ≤ (-1 : Int32).toInt) => absurd h (by decide))
    refine ev_gK A hp [49] 10 ?_
    refine And.intro (fun (h : 0 ≤ (-1 : Int32).toInt) => absurd h (by decide)) (fun _ => ?_)
    exact sig 45 _ rfl ⟨by decide, by decide, by decide, by decide⟩ rfl
  | some y =>
    obtain ⟨hy, hyt⟩ := hx y rfl
    have ey := ev_ofNat_i (n := y) (by omega)
    obtain ⟨⟨f1, f2⟩, f3⟩ := hE.2.2 y hy hyt
    refine And.intro (fun (h : (Int32.ofNat y).toInt < 0) => by omega) (fun _ => ?_)
    refine ev_gK A hp [12, 21] 10 ?_
    refine ev_S149 (R := zR z) A hE.2.1 hok.2.2.1 hy hyt ?_
    refine And.intro (fun h => ?_) (fun h => ?_)
    · have hg : zf z y = none := of_decide_eq_true (ab_bi_ne h)
      refine ev_gK A hp [49] 20 ?_
      refine And.intro (fun _ => ?_) (fun (h : (Int32.ofNat y).toInt < 0) => by omega)
      refine ev_S149 (R := zR z) A hE.2.1 hok.2.2.1 hy hyt ?_
      refine And.intro (fun h2 => absurd hg (of_decide_eq_false (ab_bi_eq h2))) (fun _ => ?_)
      refine sig 63 _ rfl ⟨by decide, by decide, by decide, by decide⟩ ?_
      unfold ab_lm
      simp only [hg]
    · have hg : ¬ zf z y = none := of_decide_eq_false (ab_bi_nne h)
      cases hfy : zf z y with
      | none => exact absurd hfy hg
      | some l =>
        rw [hfy] at f1 f2 f3
        have f1' : m 283 (Int32.ofNat y).toNatClampNeg = Int32.ofNat l.length := by rw [ev_on (by omega)]; exact f1
        have hl12 : l.length ≤ 12 := f2
        have e1 := ev_toI f1' (by omega)
        refine ev_gK A hp [21, 58] 10 ?_
        refine And.intro (ev_oin hy (by decide)) ?_
        refine And.intro (fun (h2 : ¬ (m 283 (Int32.ofNat y).toNatClampNeg).toInt = 0) => ?_) (fun (h2 : (m 283 (Int32.ofNat y).toNatClampNeg).toInt = 0) => ?_)
        · have hl0 : 0 < l.length := by omega
          have hlm : ab_lm (zf z) (some y) o n = ab_lt o l n := by
            unfold ab_lm
            simp only [hfy]
            cases l with
            | nil => exact absurd hl0 (by decide)
            | cons c l => rfl
          rw [hlm] at hQ
          unfold ab_lt at hQ
          have hrl := ab_run_le o 97 122 12 n
          have hri := ab_run_in o 97 122 12 n
          have hre := ab_run_end o 97 122 12 n s0
          have hnb := ab_nx_b (o := o) (n := n)
          have h144 : ∀ (b : Bool) (o3 : Option Value), (b = true ↔ ab_run o n 97 122 12 = l.length ∧ ∀ k, k < l.length → o.getD (n + k) 0 = l.getD k 0) → ev_J w ev_m194 (ev_nd 194) Q 144 [ev_vr 277, ev_vn y, ev_vi (ab_bi b), o3] [] m t := by
            intro b o3 hb
            refine ev_gK A hp [] 10 ?_
            cases b with
            | false =>
              rw [if_neg (fun q => by have := hb.mpr q; cases this)] at hQ
              exact ⟨rfl, hQ⟩
            | true =>
              rw [if_pos (hb.mp rfl)] at hQ
              exact ⟨rfl, hQ⟩
          have loop := ev_lup (P := fun k => ∀ (kk : Int32) (b : Bool), kk = Int32.ofNat k → (b = true ↔ ab_run o n 97 122 12 = l.length ∧ ∀ j, j < k → o.getD (n + j) 0 = l.getD j 0) → ev_J w ev_m194 (ev_nd 194) Q 93 [ev_vr 277, ev_vn y, ev_vi (ab_bi b), ev_vi kk] [] m t) l.length (by
            intro k hk ih kk b ekk hb
            subst ekk
            have ek := ev_ofNat_i (n := k) (by omega)
            refine ev_gK A hp [103, 144] 10 ?_
            refine And.intro (ev_oin hy (by decide)) ?_
            refine And.intro (fun (h3 : (m 283 (Int32.ofNat y).toNatClampNeg).toInt ≤ (Int32.ofNat k).toInt) => ?_) (fun (h3 : (Int32.ofNat k).toInt < (m 283 (Int32.ofNat y).toNatClampNeg).toInt) => ?_)
            · have e : k = l.length := by omega
              subst e
              exact h144 b _ hb
            have hkl : k < l.length := by omega
            refine ev_gK A hp [107, 144] 10 ?_
            refine And.intro (fun h4 => h144 b _ ?_) (fun h4 => ?_)
            · have h5 := ab_bi_eq h4
              rw [h5] at hb ⊢
              exact ⟨fun q => (by cases q), fun q => hb.mpr ⟨q.1, fun j hj => q.2 j (by omega)⟩⟩
            have hb2 := hb.mp (ab_bi_neq h4)
            have e1 : m 277 31 + Int32.ofNat k = Int32.ofNat (n + k) := by rw [s1]; exact ev_addN (by omega)
            have e2 : (Int8.ofInt 12).toInt32 * Int32.ofNat y + Int32.ofNat k = Int32.ofNat (12 * y + k) := ev_lin (c := 12) (by omega) (by omega) (by omega)
            have hnk : n + k < o.length := by omega
            have c1 : m 298 (m 277 31 + Int32.ofNat k).toNatClampNeg = o.getD (n + k) 0 := by rw [ev_at e1 (by omega)]; exact hO.2 _ hnk
            have c2 : m 282 ((Int8.ofInt 12).toInt32 * Int32.ofNat y + Int32.ofNat k).toNatClampNeg = l.getD k 0 := by rw [ev_at e2 (by omega)]; exact f3 k hkl
            have h137 : ∀ b2 : Bool, (b2 = true ↔ o.getD (n + k) 0 = l.getD k 0) → ev_J w ev_m194 (ev_nd 194) Q 137 [ev_vr 277, ev_vn y, ev_vi (ab_bi b), ev_vn k] [.int (ab_bi b2)] m t := by
              intro b2 hb3
              refine ev_gK A hp [93] 10 ?_
              refine ih hkl _ b2 (ev_succ (by omega)) ?_
              rw [hb3]
              refine ⟨fun q => ⟨hb2.1, fun j hj => ?_⟩, fun q => q.2 k (by omega)⟩
              by_cases hjk : j = k
              · rw [hjk]; exact q
              · exact hb2.2 j (by omega)
            refine ev_gK A hp [137] 40 ?_
            refine And.intro (ev_iin e1 (by omega) (by decide)) ?_
            refine And.intro (ev_iin e2 (by omega) (by decide)) ?_
            refine And.intro (fun (h5 : ¬ (m 298 (m 277 31 + Int32.ofNat k).toNatClampNeg).toInt = (m 282 ((Int8.ofInt 12).toInt32 * Int32.ofNat y + Int32.ofNat k).toNatClampNeg).toInt) => ?_) (fun (h5 : (m 298 (m 277 31 + Int32.ofNat k).toNatClampNeg).toInt = (m 282 ((Int8.ofInt 12).toInt32 * Int32.ofNat y + Int32.ofNat k).toNatClampNeg).toInt) => ?_)
            · rw [c1, c2] at h5
              exact h137 false ⟨fun q => (by cases q), fun q => absurd (by rw [q]) h5⟩
            · rw [c1, c2] at h5
              exact h137 true ⟨fun _ => ev_eq_of h5, fun _ => rfl⟩)
          have h90 : ∀ b : Bool, (b = true ↔ ab_run o n 97 122 12 = l.length) → ev_J w ev_m194 (ev_nd 194) Q 90 [ev_vr 277, ev_vn y, none, none] [.int (ab_bi b)] m t := by
            intro b hb
            refine ev_gK A hp [93] 10 ?_
            exact loop 0 (by omega) _ b rfl ⟨fun q => ⟨hb.mp q, fun j hj => absurd hj (Nat.not_lt_zero _)⟩, fun q => hb.mpr q.1⟩
          refine ev_gK A hp [67, 90] 10 ?_
          refine And.intro (fun (h3 : ¬ (m 277 32).toInt = ((Int8.ofInt (-3)).toInt32).toInt) => h90 false ⟨fun q => (by cases q), fun q => ?_⟩) (fun (h3 : (m 277 32).toInt = ((Int8.ofInt (-3)).toInt32).toInt) => ?_)
          · exact absurd (by rw [s3, (ab_tk_l ho).mpr (by omega)]; rfl) h3
          have hr : 0 < ab_run o n 97 122 12 := (ab_tk_l ho).mp (by rw [← s3]; exact ev_eq_of h3)
          have hnx := ab_nx_l hr
          have e3 : (m 277 30 - m 277 31).toInt = ((ab_run o n 97 122 12 : Nat) : Int) := by
            rw [s2, s1, hnx, ev_subNN (by omega) (by omega), ev_ofNat_i (by omega)]
            omega
          refine ev_gK A hp [90] 20 ?_
          refine And.intro (ev_oin hy (by decide)) ?_
          refine And.intro (fun (h4 : ¬ (m 277 30 - m 277 31).toInt = (m 283 (Int32.ofNat y).toNatClampNeg).toInt) => h90 false ⟨fun q => (by cases q), fun q => by omega⟩) (fun (h4 : (m 277 30 - m 277 31).toInt = (m 283 (Int32.ofNat y).toNatClampNeg).toInt) => h90 true ⟨fun _ => by omega, fun _ => rfl⟩)
        · have e0 : l = [] := List.eq_nil_of_length_eq_zero (by omega)
          subst e0
          refine ev_gK A hp [49] 20 ?_
          refine And.intro (fun _ => ?_) (fun (h : (Int32.ofNat y).toInt < 0) => by omega)
          refine ev_S149 (R := zR z) A hE.2.1 hok.2.2.1 hy hyt ?_
          refine And.intro (fun _ => ?_) (fun h2 => absurd (of_decide_eq_true (ab_bi_neq h2)) hg)
          refine sig 46 _ rfl ⟨by decide, by decide, by decide, by decide⟩ ?_
          unfold ab_lm
          simp only [hfy]
theorem ab_lm_nx {fo : Nat → Option ab_Ls} {x : Option Nat} {o : ab_Ls} {n n' : Nat} (h : ab_lm fo x o n = some n') : n' = ab_nx o n := by
  have si : ∀ c : Int32, ab_pn1 c → ab_si o c n = some n' → n' = ab_nx o n := by
    intro c hc q
    unfold ab_si at q
    split at q
    · rename_i r
      cases q
      exact (ab_nx_is hc r).symm
    · cases q
  unfold ab_lm at h
  split at h
  · exact si 45 ⟨by decide, by decide, by decide, by decide⟩ h
  · split at h
    · exact si 63 ⟨by decide, by decide, by decide, by decide⟩ h
    · exact si 46 ⟨by decide, by decide, by decide, by decide⟩ h
    · unfold ab_lt at h
      split at h
      · rename_i r
        cases h
        rw [ab_nx_l (by rw [r.1, List.length_cons]; omega), r.1]
      · cases h
/-- siglaWith -/
theorem ev_S196 {n sn : Nat} {o : ab_Ls} {T : ab_T} (A : ev_all w) (hT : ab_MT m T) (hok : ab_Tok T) (hO : ab_MO m o) (ho : ab_Ook o) (hs : ab_TS m o (.inr n)) (hsn : sn < 16) (hQ : Q (.inl (some (.int (ab_oi ((ab_wt o T.2.2.2.1 sn n).map (fun q => sn ||| q.2)))))) m t) : ev_K w 196 [.ref 277, .int (Int32.ofNat sn)] m t Q := by
  have hp : ev_prog[196]? = some ev_m196 := rfl
  obtain ⟨s0, s1, s2, s3, s4⟩ := hs
  have hlen := ho.1
  have i4 := ev_i4
  have h114n : ∀ (x2 x3 x5 : Int32) (o6 : Option Value), ab_wt o T.2.2.2.1 sn n = none → ev_J w ev_m196 (ev_nd 196) Q 114 [ev_vr 277, ev_vn sn, ev_vi x2, ev_vi x3, ev_vi (ab_bi false), ev_vi x5, o6] [] m t := by
    intro x2 x3 x5 o6 hw
    rw [hw] at hQ
    refine ev_gK A hp [] 10 ?_
    exact And.intro (fun _ => hQ) (fun h => by have := ab_bi_neq h; cases this)
  refine ⟨Or.inr ⟨277, _, rfl, rfl⟩, ev_m196, rfl, ev_gK A hp [26] 20 ?_⟩
  refine And.intro (fun (h : ¬ (m 277 32).toInt = ((Int8.ofInt (-4)).toInt32).toInt) => ?_) (fun (h : (m 277 32).toInt = ((Int8.ofInt (-4)).toInt32).toInt) => ?_)
  · have hr : ab_run o n 65 90 4 = 0 := by
      by_cases q : 0 < ab_run o n 65 90 4
      · exact absurd (by rw [s3, (ab_tk_g ho).mpr q]; rfl) h
      · omega
    have hw : ab_wt o T.2.2.2.1 sn n = none := if_pos hr
    refine ev_gK A hp [114] 20 ?_
    refine And.intro (fun _ => h114n _ _ _ _ hw) (fun _ => ?_)
    exact And.intro (fun _ => h114n _ _ _ _ hw) (fun h2 => by have := ab_bi_neq (b := false) h2; cases this)
  have hr : 0 < ab_run o n 65 90 4 := (ab_tk_g ho).mp (by rw [← s3]; exact ev_eq_of h)
  have hnx := ab_nx_g hr
  have hrl := ab_run_le o 65 90 4 n
  have hri := ab_run_in o 65 90 4 n
  unfold ab_wt at hQ h114n
  rw [if_neg (by omega)] at hQ h114n
  obtain ⟨d, hd⟩ : ∃ d, ab_run o n 65 90 4 = d := ⟨_, rfl⟩
  rw [hd] at hr hnx hrl hri hQ h114n
  rw [hnx] at s2
  have i30 := ev_toI s2 (by omega)
  have loop := ev_lup (P := fun k => ∀ (lp h : Nat) (kk bb hh : Int32) (o6 : Option Value), kk = Int32.ofNat (n + k) → bb = Int32.ofInt ((lp : Int) - 1) → lp ≤ 100 → hh = Int32.ofNat (sn ||| h) → h < 16 → ab_wl o T.2.2.2.1 sn d n 0 0 = ab_wl o T.2.2.2.1 sn (d - k) (n + k) lp h → ev_J w ev_m196 (ev_nd 196) Q 26 [ev_vr 277, ev_vn sn, ev_vi hh, ev_vi bb, ev_vi (ab_bi true), ev_vi kk, o6] [] m t) d (by
    intro k hk ih lp h kk bb hh o6 ekk ebb hlp ehh hh16 hwl
    subst ekk ehh
    have ek := ev_ofNat_i (n := n + k) (by omega)
    have ib : bb.toInt = (lp : Int) - 1 := by rw [ebb, ev_ofInt_i (by omega) (by omega)]
    refine ev_gK A hp [35, 114] 20 ?_
    refine And.intro (fun (h2 : (m 277 30).toInt ≤ (Int32.ofNat (n + k)).toInt) => ?_) (fun (h2 : (Int32.ofNat (n + k)).toInt < (m 277 30).toInt) => ?_)
    · rw [(by omega : d - k = 0), ab_wl] at hwl
      rw [hwl] at hQ
      refine ev_gK A hp [] 10 ?_
      exact And.intro (fun h3 => by have := ab_bi_eq (b := true) h3; cases this) (fun _ => hQ)
    have hkd : k < d := by omega
    obtain ⟨r1, r2, r3⟩ := hri k hkd
    obtain ⟨j, hj⟩ : ∃ j, d - k = j + 1 := ⟨d - k - 1, by omega⟩
    rw [hj, ab_wl] at hwl
    have cv : m 298 (Int32.ofNat (n + k)).toNatClampNeg = o.getD (n + k) 0 := by rw [ev_on (by omega)]; exact hO.2 _ r1
    have ev : o.getD (n + k) 0 - Int32.ofNat 65 = Int32.ofNat (ab_wn o (n + k)) := ev_subN r2 (by omega)
    have hwn : ab_wn o (n + k) ≤ 25 := by unfold ab_wn; omega
    refine ev_gK A hp [40, 114] 20 ?_
    refine And.intro (fun h3 => by have := ab_bi_eq (b := true) h3; cases this) (fun _ => ?_)
    generalize ab_wn o (n + k) = u at *
    have eu := ev_ofNat_i (n := u) (by omega)
    refine ev_gK A hp [52] 20 ?_
    refine And.intro (ev_oin (by omega) (by decide)) ?_
    show ev_J w ev_m196 (ev_nd 196) Q 52 [ev_vr 277, ev_vn sn, ev_vi (Int32.ofNat (sn ||| h)), ev_vi bb, ev_vi (ab_bi true), ev_vn (n + k), ev_vi (m 298 (Int32.ofNat (n + k)).toNatClampNeg - Int32.ofNat 65)] [] m t
    rw [cv, ev]
    have no : ¬ (lp ≤ u ∧ ab_isJ T.2.2.2.1 (Int32.ofNat u) = true ∧ sn.testBit u = false) → ev_J w ev_m196 (ev_nd 196) Q 87 [ev_vr 277, ev_vn sn, ev_vi (Int32.ofNat (sn ||| h)), ev_vi bb, ev_vi (ab_bi true), ev_vn (n + k), ev_vn u] [.int (ab_bi false)] m t := by
      intro hc
      rw [if_neg hc] at hwl
      have hw : Option.map (fun h => (d, h)) (ab_wl o T.2.2.2.1 sn d n 0 0) = none := by rw [hwl]; rfl
      refine ev_gK A hp [26] 30 ?_
      refine And.intro (fun _ => ?_) (fun h3 => by have := ab_bi_neq (b := false) h3; cases this)
      refine ev_gK A hp [114] 20 ?_
      refine And.intro (fun _ => h114n _ _ _ _ hw) (fun _ => ?_)
      exact And.intro (fun _ => h114n _ _ _ _ hw) (fun h2 => by have := ab_bi_neq (b := false) h2; cases this)
    refine ev_gK A hp [64, 87] 20 ?_
    refine And.intro (fun (h3 : (Int32.ofInt 4).toInt ≤ (Int32.ofNat u).toInt) => no (fun q => by have := ab_isJ_lt hok (by omega) q.2.1; omega)) (fun (h3 : (Int32.ofNat u).toInt < (Int32.ofInt 4).toInt) => ?_)
    have hu4 : u < 4 := by omega
    refine And.intro (fun (h4 : (Int32.ofNat u).toInt ≤ bb.toInt) => no (by omega)) (fun (h4 : bb.toInt < (Int32.ofNat u).toInt) => ?_)
    refine ev_gK A hp [73, 87] 20 ?_
    refine ev_S141 A hT.2.2.2.1 hok.2.2.2.1 ?_
    refine And.intro (fun h5 => no (fun q => by have := ab_bi_eq h5; rw [q.2.1] at this; cases this)) (fun h5 => ?_)
    have hj1 := ab_bi_neq h5
    refine ev_gK A hp [] 5 ?_
    show ev_J w ev_m196 (ev_nd 196) Q 79 [ev_vr 277, ev_vn sn, ev_vi (Int32.ofNat (sn ||| h)), ev_vi bb, ev_vi (ab_bi true), ev_vn (n + k), ev_vn u] [.int ((Int32.ofNat sn >>> (Int32.ofNat u &&& 31)) &&& 1)] m t
    rw [ev_bt hsn hu4]
    refine ev_gK A hp [87] 20 ?_
    refine And.intro (fun h6 => no (fun q => by have := ab_bi_ne h6; rw [q.2.2] at this; cases this)) (fun h6 => ?_)
    have hb1 := ab_bi_nne h6
    rw [if_pos ⟨by omega, hj1, hb1⟩] at hwl
    have h16 := ab_or16 hh16 (ab_pw16 hu4)
    show ev_J w ev_m196 (ev_nd 196) Q 87 [ev_vr 277, ev_vn sn, ev_vi (Int32.ofNat (sn ||| h)), ev_vi bb, ev_vi (ab_bi true), ev_vn (n + k), ev_vn u] [.int (ab_bi true)] m t
    refine ev_gK A hp [26] 30 ?_
    refine And.intro (fun h7 => by have := ab_bi_eq (b := true) h7; cases this) (fun _ => ?_)
    have e8 : Int32.ofNat (sn ||| h) ||| ((1 : Int32) <<< (Int32.ofNat u &&& 31)) = Int32.ofNat (sn ||| (h ||| 2 ^ u)) := by rw [ev_bo (ab_or16 hsn hh16) hu4, Nat.or_assoc]
    refine ih hkd (u + 1) (h ||| 2 ^ u) _ _ _ _ ?_ ?_ (by omega) e8 h16 ?_
    · exact ev_succ (by omega)
    · rw [(by omega : ((u + 1 : Nat) : Int) - 1 = (u : Int))]
      rfl
    · rw [hwl, (by omega : d - (k + 1) = j), (by omega : n + (k + 1) = n + k + 1)])
  refine loop 0 (by omega) 0 0 _ _ _ _ ?_ rfl (by omega) ?_ (by omega) rfl
  · exact s1
  · rw [Nat.or_zero]
theorem ab_wl_dis {o : ab_Ls} {T : ab_T} {sn : Nat} (hok : ab_Tok T) (ho : ab_Ook o) : ∀ (d f lp h0 h : Nat), ab_wl o T.2.2.2.1 sn d f lp h0 = some h → h0 < 16 → (∀ v, h0.testBit v = true → sn.testBit v = false) → h < 16 ∧ (∀ v, h.testBit v = true → sn.testBit v = false) ∧ (0 < d ∨ h0 ≠ 0 → h ≠ 0)
  | 0, _, _, h0, h, hh, h1, h2 => by
    rw [ab_wl] at hh
    cases hh
    exact ⟨h1, h2, fun q => by omega⟩
  | d + 1, f, lp, h0, h, hh, h1, h2 => by
    rw [ab_wl] at hh
    split at hh
    · rename_i q
      have hw : ab_wn o f < 100000 := by
        have := ab_Ook_get ho f
        unfold ab_c16 at this
        unfold ab_wn
        omega
      have hu := ab_isJ_lt hok hw q.2.1
      have hne : h0 ||| 2 ^ ab_wn o f ≠ 0 := fun e => by
        have := congrArg (fun x => Nat.testBit x (ab_wn o f)) e
        simp only [Nat.testBit_or, Nat.testBit_two_pow_self, Bool.or_true, Nat.zero_testBit] at this
        cases this
      have ih := ab_wl_dis hok ho d _ _ _ _ hh (ab_or16 h1 (ab_pw16 hu)) (fun v hv => by
        rw [Nat.testBit_or, Bool.or_eq_true] at hv
        rcases hv with hv | hv
        · exact h2 v hv
        · rw [Nat.testBit_two_pow] at hv
          rw [← of_decide_eq_true hv]
          exact q.2.2)
      exact ⟨ih.1, ih.2.1, fun _ => ih.2.2 (Or.inr hne)⟩
    · cases hh
theorem ab_wt_dis {o : ab_Ls} {T : ab_T} {sn n d h : Nat} (hok : ab_Tok T) (ho : ab_Ook o) (hw : ab_wt o T.2.2.2.1 sn n = some (d, h)) : h < 16 ∧ (∀ v, h.testBit v = true → sn.testBit v = false) ∧ h ≠ 0 ∧ n + d = ab_nx o n := by
  unfold ab_wt at hw
  split at hw
  · cases hw
  · rename_i hr
    cases hq : ab_wl o T.2.2.2.1 sn (ab_run o n 65 90 4) n 0 0 with
    | none => rw [hq] at hw; cases hw
    | some h' =>
      rw [hq] at hw
      cases hw
      have := ab_wl_dis hok ho _ _ _ _ _ hq (by omega) (fun v hv => by rw [Nat.zero_testBit] at hv; cases hv)
      exact ⟨this.1, this.2.1, this.2.2 (Or.inl (by omega)), (ab_nx_g (by omega)).symm⟩
end EvMparse
