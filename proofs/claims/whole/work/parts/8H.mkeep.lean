/-! the model's reading: what is kept, groups -/
section EvMkeep
variable {w : ev_W} {Q : ev_QT} {m m' : ev_Mem} {t : ev_H} {z : ab_Z}
def ab_MFr (m : ev_Mem) (bl : List (Option ab_Ls)) : Prop := m 277 37 = Int32.ofNat bl.length ∧ ∀ i, i < bl.length → m 301 i = ab_fl (bl.getD i none) ∧ (ab_fz (bl.getD i none)).length ≤ 12 ∧ ∀ k, k < (ab_fz (bl.getD i none)).length → m 302 (12 * i + k) = (ab_fz (bl.getD i none)).getD k 0
def ab_xk (m m' : ev_Mem) : Prop := ∀ c i, ¬ (c = 277 ∧ i = 37) → c ≠ 301 → c ≠ 302 → m' c i = m c i
theorem ab_xk_rfl : ab_xk m m := fun _ _ _ _ _ => rfl
theorem ab_MFr_frx {bl : List (Option ab_Ls)} (h : ab_frx m m') (hB : ab_MFr m bl) : ab_MFr m' bl :=
  ⟨by rw [h _ _ (by omega)]; exact hB.1, fun i hi => ⟨by rw [h _ _ (by omega)]; exact (hB.2 i hi).1, (hB.2 i hi).2.1, fun k hk => by rw [h _ _ (by omega)]; exact (hB.2 i hi).2.2 k hk⟩⟩
theorem ab_xk_O {o : ab_Ls} (h : ab_xk m m') (hO : ab_MO m o) : ab_MO m' o := ⟨by rw [h _ _ (by omega) (by decide) (by decide)]; exact hO.1, fun k hk => by rw [h _ _ (by omega) (by decide) (by decide)]; exact hO.2 k hk⟩
theorem ab_xk_E (h : ab_xk m m') (hE : ab_RE m z) : ab_RE m' z := ab_RE_cg (fun c i hc => h c i (by unfold ab_gT ab_gW at hc; omega) (by unfold ab_gT ab_gW at hc; omega) (by unfold ab_gT ab_gW at hc; omega)) hE
theorem ab_xk_TS {o : ab_Ls} {s : Nat ⊕ Nat} (h : ab_xk m m') (hs : ab_TS m o s) : ab_TS m' o s := by
  have e : ∀ i, i ≠ 37 → m' 277 i = m 277 i := fun i hi => h _ _ (by omega) (by decide) (by decide)
  cases s with
  | inl e1 => exact ⟨by rw [e _ (by decide)]; exact hs.1, by rw [e _ (by decide)]; exact hs.2⟩
  | inr n => exact ⟨hs.1, by rw [e _ (by decide)]; exact hs.2.1, by rw [e _ (by decide)]; exact hs.2.2.1, by rw [e _ (by decide)]; exact hs.2.2.2.1, by rw [e _ (by decide)]; exact hs.2.2.2.2⟩
theorem ab_MFr_app {bl : List (Option ab_Ls)} {x : Option ab_Ls} (h : ab_MFr m bl) (h37 : m' 277 37 = Int32.ofNat (bl.length + 1)) (h301 : m' 301 bl.length = ab_fl x) (hx : (ab_fz x).length ≤ 12) (h302 : ∀ k, k < (ab_fz x).length → m' 302 (12 * bl.length + k) = (ab_fz x).getD k 0) (f1 : ∀ i, i < bl.length → m' 301 i = m 301 i) (f2 : ∀ j, j < 12 * bl.length → m' 302 j = m 302 j) : ab_MFr m' (bl ++ [x]) := by
  refine ⟨by rw [List.length_append, List.length_singleton]; exact h37, fun i hi => ?_⟩
  rw [List.length_append, List.length_singleton] at hi
  by_cases hib : i < bl.length
  · have e : (bl ++ [x]).getD i none = bl.getD i none := by rw [List.getD_eq_getElem?_getD, List.getElem?_append_left hib, ← List.getD_eq_getElem?_getD]
    rw [e]
    obtain ⟨a, b, c⟩ := h.2 i hib
    refine ⟨by rw [f1 i hib]; exact a, b, fun k hk => ?_⟩
    rw [f2 _ (by omega)]
    exact c k hk
  · have ei : i = bl.length := by omega
    subst ei
    have e : (bl ++ [x]).getD bl.length none = x := by rw [List.getD_eq_getElem?_getD, List.getElem?_append_right (Nat.le_refl _), Nat.sub_self]; rfl
    rw [e]
    exact ⟨h301, hx, h302⟩
def ab_kw (fo : Nat → Option ab_Ls) (x : Option Nat) : List (Option ab_Ls) := match x with
  | none => []
  | some y => [fo y]
/-- keepWord -/
theorem ev_S193 {x : Option Nat} {bl : List (Option ab_Ls)} (A : ev_all w) (hE : ab_RE m z) (hok : ab_ok z) (hx : ab_okz z x) (hB : ab_MFr m bl) (h24 : bl.length < 24) (hQ : ∀ m', ab_xk m m' → ab_MFr m' (bl ++ ab_kw (zf z) x) → Q (.inl none) m' t) : ev_K w 193 [.ref 277, .int (ab_oi x)] m t Q := by
  have hp : ev_prog[193]? = some ev_m193 := rfl
  refine ⟨Or.inr ⟨277, _, rfl, rfl⟩, ev_m193, rfl, ev_gK A hp [5] 10 ?_⟩
  cases x with
  | none =>
    simp only [ab_kw] at hQ
    rw [List.append_nil] at hQ
    exact And.intro (fun (h : 0 ≤ (-1 : Int32).toInt) => absurd h (by decide)) (fun _ => hQ m ab_xk_rfl hB)
  | some y =>
    simp only [ab_kw] at hQ
    obtain ⟨hy, hyt⟩ := hx y rfl
    have ey := ev_ofNat_i (n := y) (by omega)
    obtain ⟨⟨f1, f2⟩, f3⟩ := hE.2.2 y hy hyt
    obtain ⟨fy, hfy⟩ : ∃ f, zf z y = f := ⟨_, rfl⟩
    have hgap : decide (ab_fo (zR z) (zW z) y = none) = decide (fy = none) := by rw [← hfy]
    rw [hfy] at hQ f1 f2 f3
    have f1' : m 283 (Int32.ofNat y).toNatClampNeg = Int32.ofNat (ab_fz fy).length := by rw [ev_on (by omega)]; exact f1
    have h31 : ∀ val : Int32, val = ab_fl fy → ev_J w ev_m193 (ev_nd 193) Q 31 [ev_vr 277, ev_vn y, none] [.int val, .int (m 277 37), .ref 301] m t := by
      intro val hval
      refine ev_gK A hp [34] 10 ?_
      refine And.intro (ev_iin hB.1 (by omega) (by decide)) ?_
      show ev_J w ev_m193 (ev_nd 193) Q 34 [ev_vr 277, ev_vn y, ev_vn 0] [] (ev_up m 301 (m 277 37).toNatClampNeg val) t
      rw [ev_at hB.1 (by omega)]
      have g1 : ∀ c i, ¬ (c = 301 ∧ i = bl.length) → ev_up m 301 bl.length val c i = m c i := fun c i h => if_neg h
      have g2 : ev_up m 301 bl.length val 301 bl.length = ab_fl fy := by rw [ev_up_same]; exact hval
      generalize ev_up m 301 bl.length val = m1 at *
      have loop := ev_lup (P := fun k => ∀ (kk : Int32) (mk : ev_Mem), kk = Int32.ofNat k → (∀ c i, c ≠ 302 → mk c i = m1 c i) → (∀ j, j < 12 * bl.length → mk 302 j = m1 302 j) → (∀ j, j < k → mk 302 (12 * bl.length + j) = (ab_fz fy).getD j 0) → ev_J w ev_m193 (ev_nd 193) Q 34 [ev_vr 277, ev_vn y, ev_vi kk] [] mk t) (ab_fz fy).length (by
        intro k hk ih kk mk ekk q1 q2 q3
        subst ekk
        have ek := ev_ofNat_i (n := k) (by omega)
        have b1 : mk 283 (Int32.ofNat y).toNatClampNeg = Int32.ofNat (ab_fz fy).length := by rw [q1 _ _ (by decide), g1 _ _ (by omega)]; exact f1'
        have b1i := ev_toI b1 (by omega)
        have b37 : mk 277 37 = Int32.ofNat bl.length := by rw [q1 _ _ (by decide), g1 _ _ (by omega)]; exact hB.1
        refine ev_gK A hp [34] 40 ?_
        refine And.intro (ev_oin hy (by decide)) ?_
        refine And.intro (fun (h3 : (mk 283 (Int32.ofNat y).toNatClampNeg).toInt ≤ (Int32.ofNat k).toInt) => ?_) (fun (h3 : (Int32.ofNat k).toInt < (mk 283 (Int32.ofNat y).toNatClampNeg).toInt) => ?_)
        · have e : k = (ab_fz fy).length := by omega
          refine hQ _ (fun c i z1 z2 z3 => ?_) (ab_MFr_app hB ?_ ?_ f2 (fun j hj => ?_) (fun i hi => ?_) (fun j hj => ?_))
          · rw [show ev_up mk 277 37 _ c i = mk c i from if_neg z1, q1 c i z3]
            exact g1 c i (by omega)
          · rw [ev_up_same, b37]; exact ev_succ (by omega)
          · rw [ev_up_cell _ (by decide), q1 _ _ (by decide)]; exact g2
          · rw [ev_up_cell _ (by decide)]; exact q3 j (by omega)
          · rw [ev_up_cell _ (by decide), q1 _ _ (by decide)]; exact g1 _ _ (by omega)
          · rw [ev_up_cell _ (by decide), q2 j hj]; exact g1 _ _ (by omega)
        · have hkl : k < (ab_fz fy).length := by omega
          have e1 : (Int8.ofInt 12).toInt32 * mk 277 37 + Int32.ofNat k = Int32.ofNat (12 * bl.length + k) := by rw [b37]; exact ev_lin (c := 12) (by omega) (by omega) (by omega)
          have e2 : (Int8.ofInt 12).toInt32 * Int32.ofNat y + Int32.ofNat k = Int32.ofNat (12 * y + k) := ev_lin (c := 12) (by omega) (by omega) (by omega)
          have c2 : mk 282 ((Int8.ofInt 12).toInt32 * Int32.ofNat y + Int32.ofNat k).toNatClampNeg = (ab_fz fy).getD k 0 := by rw [ev_at e2 (by omega), q1 _ _ (by decide), g1 _ _ (by omega)]; exact f3 k hkl
          refine And.intro (ev_iin e2 (by omega) (by decide)) ?_
          refine And.intro (ev_iin e1 (by omega) (by decide)) ?_
          refine ih hkl _ _ (ev_succ (by omega)) (fun c i hc => ?_) (fun j hj => ?_) (fun j hj => ?_)
          · rw [ev_up_cell _ hc]; exact q1 c i hc
          · rw [ev_at e1 (by omega), ev_up_idx _ _ (by omega)]; exact q2 j hj
          · rw [ev_at e1 (by omega), c2]
            by_cases hjk : j = k
            · rw [hjk, ev_up_same]
            · rw [ev_up_idx _ _ (by omega)]; exact q3 j (by omega))
      exact loop 0 (by omega) _ m1 rfl (fun _ _ _ => rfl) (fun _ _ => rfl) (fun j hj => absurd hj (Nat.not_lt_zero _))
    refine And.intro (fun _ => ?_) (fun (h : (Int32.ofNat y).toInt < 0) => by omega)
    refine ev_gK A hp [31] 20 ?_
    refine ev_S149 (R := zR z) A hE.2.1 hok.2.2.1 hy hyt ?_
    rw [hgap]
    refine And.intro (fun h => ?_) (fun h => ?_)
    · have hn := of_decide_eq_false (ab_bi_eq h)
      refine And.intro (ev_oin hy (by decide)) ?_
      refine h31 _ (Eq.trans f1' ?_)
      cases fy with
      | none => exact absurd rfl hn
      | some l => rfl
    · have hn := of_decide_eq_true (ab_bi_neq h)
      refine h31 _ ?_
      rw [hn]; rfl
/-- keepText -/
theorem ev_S197 {f : Nat} {o : ab_Ls} {bl : List (Option ab_Ls)} (A : ev_all w) (hO : ab_MO m o) (ho : ab_Ook o) (hf : f < o.length) (hB : ab_MFr m bl) (h24 : bl.length < 24) (hQ : ∀ m', ab_xk m m' → ab_MFr m' (bl ++ ab_bu1 o f) → Q (.inl none) m' t) : ev_K w 197 [.ref 277, .int (Int32.ofNat f)] m t Q := by
  have hp : ev_prog[197]? = some ev_m197 := rfl
  have hlen := ho.1
  have i45 : ((Int8.ofInt 45).toInt32).toInt = 45 := by decide
  have i63 : ((Int8.ofInt 63).toInt32).toInt = 63 := by decide
  have i12 : ((Int8.ofInt 12).toInt32).toInt = 12 := by decide
  have nf : (Int32.ofNat f).toNatClampNeg = f := ev_on (by omega)
  have c0 : m 298 (Int32.ofNat f).toNatClampNeg = o.getD f 0 := by rw [nf]; exact hO.2 f hf
  unfold ab_bu1 at hQ
  refine ⟨Or.inr ⟨277, _, rfl, rfl⟩, ev_m197, rfl, ev_gK A hp [12] 10 ?_⟩
  refine And.intro (ev_oin (by omega) (by decide)) ?_
  refine And.intro (fun (h : ¬ (m 298 (Int32.ofNat f).toNatClampNeg).toInt = ((Int8.ofInt 45).toInt32).toInt) => ?_) (fun (h : (m 298 (Int32.ofNat f).toNatClampNeg).toInt = ((Int8.ofInt 45).toInt32).toInt) => ?_)
  case refine_2 =>
    rw [c0] at h
    rw [if_pos (by omega), List.append_nil] at hQ
    exact hQ m ab_xk_rfl hB
  rw [c0] at h
  rw [if_neg (by omega)] at hQ
  have hrl := ab_run_le o 97 122 12 f
  have hri := ab_run_in o 97 122 12 f
  have hre := ab_run_end o 97 122 12 f (by omega)
  obtain ⟨d, hd⟩ : ∃ d, ab_run o f 97 122 12 = d := ⟨_, rfl⟩
  rw [hd] at hrl hri hre hQ
  have h62 : ∀ (kk : Int32) (mk : ev_Mem), kk = Int32.ofNat d → (∀ c i, c ≠ 302 → mk c i = m c i) → (∀ j, j < 12 * bl.length → mk 302 j = m 302 j) → (∀ j, j < d → mk 302 (12 * bl.length + j) = o.getD (f + j) 0) → ev_J w ev_m197 (ev_nd 197) Q 62 [ev_vr 277, ev_vn f, ev_vi kk] [] mk t := by
    intro kk mk ekk q1 q2 q3
    subst ekk
    have b37 : mk 277 37 = Int32.ofNat bl.length := by rw [q1 _ _ (by decide)]; exact hB.1
    have b0 : mk 298 (Int32.ofNat f).toNatClampNeg = o.getD f 0 := by rw [q1 _ _ (by decide)]; exact c0
    have fin : ∀ (x : Option ab_Ls) (v : Int32), v = ab_fl x → (ab_fz x).length ≤ 12 → (∀ k, k < (ab_fz x).length → mk 302 (12 * bl.length + k) = (ab_fz x).getD k 0) → (∀ m', ab_xk m m' → ab_MFr m' (bl ++ [x]) → Q (.inl none) m' t) → ev_J w ev_m197 (ev_nd 197) Q 86 [ev_vr 277, ev_vn f, ev_vn d] [.int v, .int (mk 277 37), .ref 301] mk t := by
      intro x v hv hx1 hx2 hQ2
      refine ev_gK A hp [] 20 ?_
      refine And.intro (ev_iin b37 (by omega) (by decide)) ?_
      refine hQ2 _ (fun c i z1 z2 z3 => ?_) (ab_MFr_app hB ?_ ?_ hx1 (fun j hj => ?_) (fun i hi => ?_) (fun j hj => ?_))
      · rw [show ev_up (ev_up mk 301 (mk 277 37).toNatClampNeg v) 277 37 _ c i = ev_up mk 301 (mk 277 37).toNatClampNeg v c i from if_neg z1, ev_up_cell _ z2]
        exact q1 c i z3
      · rw [ev_up_same, ev_up_cell _ (by decide), b37]; exact ev_succ (by omega)
      · rw [ev_up_cell _ (by decide), ev_at b37 (by omega), ev_up_same]; exact hv
      · rw [ev_up_cell _ (by decide), ev_up_cell _ (by decide)]; exact hx2 j hj
      · rw [ev_up_cell _ (by decide), ev_at b37 (by omega), ev_up_idx _ _ (by omega)]; exact q1 _ _ (by decide)
      · rw [ev_up_cell _ (by decide), ev_up_cell _ (by decide)]; exact q2 j hj
    refine ev_gK A hp [86] 20 ?_
    refine And.intro (ev_oin (by omega) (by decide)) ?_
    refine And.intro (fun (h2 : ¬ (mk 298 (Int32.ofNat f).toNatClampNeg).toInt = ((Int8.ofInt 63).toInt32).toInt) => ?_) (fun (h2 : (mk 298 (Int32.ofNat f).toNatClampNeg).toInt = ((Int8.ofInt 63).toInt32).toInt) => ?_)
    · rw [b0] at h2
      rw [if_neg (by omega)] at hQ
      have hl : ((o.drop f).take d).length = d := by rw [List.length_take, List.length_drop]; omega
      refine fin (some ((o.drop f).take d)) _ ?_ ?_ (fun k hk => ?_) hQ
      · show Int32.ofNat d = Int32.ofNat ((o.drop f).take d).length
        rw [hl]
      · show ((o.drop f).take d).length ≤ 12
        omega
      · have hk2 : k < ((o.drop f).take d).length := hk
        show mk 302 (12 * bl.length + k) = ((o.drop f).take d).getD k 0
        rw [ab_getD_take (by omega), ab_getD_drop]
        exact q3 k (by omega)
    · rw [b0] at h2
      rw [if_pos (by omega)] at hQ
      exact fin none _ rfl (Nat.zero_le _) (fun k hk => absurd hk (Nat.not_lt_zero _)) hQ
  have loop := ev_lup (P := fun k => ∀ (kk : Int32) (mk : ev_Mem), kk = Int32.ofNat k → d = k + ab_run o (f + k) 97 122 (12 - k) → (∀ c i, c ≠ 302 → mk c i = m c i) → (∀ j, j < 12 * bl.length → mk 302 j = m 302 j) → (∀ j, j < k → mk 302 (12 * bl.length + j) = o.getD (f + j) 0) → ev_J w ev_m197 (ev_nd 197) Q 14 [ev_vr 277, ev_vn f, ev_vi kk] [] mk t) 12 (by
    intro k hk ih kk mk ekk hr q1 q2 q3
    subst ekk
    have ek := ev_ofNat_i (n := k) (by omega)
    have b37 : mk 277 37 = Int32.ofNat bl.length := by rw [q1 _ _ (by decide)]; exact hB.1
    have Ok : ab_MO mk o := ⟨by rw [q1 _ _ (by decide)]; exact hO.1, fun k hk => by rw [q1 _ _ (by decide)]; exact hO.2 k hk⟩
    have efk : Int32.ofNat f + Int32.ofNat k = Int32.ofNat (f + k) := ev_addN (by omega)
    refine ev_gK A hp [20, 62] 10 ?_
    refine And.intro (fun (h2 : ((Int8.ofInt 12).toInt32).toInt ≤ (Int32.ofNat k).toInt) => ?_) (fun (h2 : (Int32.ofNat k).toInt < ((Int8.ofInt 12).toInt32).toInt) => ?_)
    · rw [(by omega : 12 - k = 0), ab_run] at hr
      exact h62 _ mk (by rw [hr]; rfl) q1 q2 (fun j hj => q3 j (by omega))
    obtain ⟨j0, hj0⟩ : ∃ j, 12 - k = j + 1 := ⟨12 - k - 1, by omega⟩
    rw [hj0, ab_run] at hr
    refine ev_gK A hp [34, 62] 20 ?_
    refine ev_S190 (n := f + k) A efk Ok hlen (by omega) ?_
    refine And.intro (fun h3 => ?_) (fun h3 => ?_)
    · have h4 : ¬ (f + k < o.length ∧ 97 ≤ (o.getD (f + k) 0).toInt ∧ (o.getD (f + k) 0).toInt ≤ 122) := of_decide_eq_false (ab_bi_eq h3)
      rw [if_neg h4] at hr
      exact h62 _ mk (by rw [hr]; rfl) q1 q2 (fun j hj => q3 j (by omega))
    · have h4 : f + k < o.length ∧ 97 ≤ (o.getD (f + k) 0).toInt ∧ (o.getD (f + k) 0).toInt ≤ 122 := of_decide_eq_true (ab_bi_neq h3)
      rw [if_pos h4] at hr
      have e1 : (Int8.ofInt 12).toInt32 * mk 277 37 + Int32.ofNat k = Int32.ofNat (12 * bl.length + k) := by rw [b37]; exact ev_lin (c := 12) (by omega) (by omega) (by omega)
      have c2 : mk 298 (Int32.ofNat f + Int32.ofNat k).toNatClampNeg = o.getD (f + k) 0 := by rw [ev_at efk (by omega)]; exact Ok.2 _ h4.1
      refine ev_gK A hp [14] 40 ?_
      refine And.intro (ev_iin efk (by omega) (by decide)) ?_
      refine And.intro (ev_iin e1 (by omega) (by decide)) ?_
      refine ih (by omega) _ _ (ev_succ (by omega)) ?_ (fun c i hc => ?_) (fun j hj => ?_) (fun j hj => ?_)
      · rw [(by omega : 12 - (k + 1) = j0), (by omega : f + (k + 1) = f + k + 1)]; omega
      · rw [ev_up_cell _ hc]; exact q1 c i hc
      · rw [ev_at e1 (by omega), ev_up_idx _ _ (by omega)]; exact q2 j hj
      · rw [ev_at e1 (by omega), c2]
        by_cases hjk : j = k
        · rw [hjk, ev_up_same]
        · rw [ev_up_idx _ _ (by omega)]; exact q3 j (by omega))
  refine ev_gK A hp [14] 10 ?_
  exact loop 0 (by omega) _ m rfl (by rw [Nat.zero_add, ← hd]; rfl) (fun _ _ _ => rfl) (fun _ _ => rfl) (fun j hj => absurd hj (Nat.not_lt_zero _))
/-- a token against a sign -/
theorem ab_cmp1 {s : Nat ⊕ Nat} {o : ab_Ls} {c : Int32} (hc : ab_pn1 c) (hs : ab_TS m o s) (h : (m 277 32).toInt = c.toInt) : ∀ n, s = .inr n → true = ab_is o c n := by
  intro n hn
  subst hn
  exact ((ab_tk_is hc).mp (by rw [← hs.2.2.2.1]; exact ev_eq_of h)).symm
theorem ab_cmp0 {s : Nat ⊕ Nat} {o : ab_Ls} {c : Int32} (hc : ab_pn1 c) (hs : ab_TS m o s) (h : ¬ (m 277 32).toInt = c.toInt) : ∀ n, s = .inr n → false = ab_is o c n := by
  intro n hn
  subst hn
  cases hi : ab_is o c n with
  | false => rfl
  | true => exact absurd (by rw [hs.2.2.2.1, (ab_tk_is hc).mpr hi]) h
theorem ab_p32 : ab_pn1 32 := ⟨by decide, by decide, by decide, by decide⟩
theorem ab_p10 : ab_pn1 10 := ⟨by decide, by decide, by decide, by decide⟩
theorem ab_p59 : ab_pn1 59 := ⟨by decide, by decide, by decide, by decide⟩
theorem ab_p93 : ab_pn1 93 := ⟨by decide, by decide, by decide, by decide⟩
theorem ab_p45 : ab_pn1 45 := ⟨by decide, by decide, by decide, by decide⟩
theorem ab_p63 : ab_pn1 63 := ⟨by decide, by decide, by decide, by decide⟩
theorem ab_p46 : ab_pn1 46 := ⟨by decide, by decide, by decide, by decide⟩
theorem ab_rr_nx {o : ab_Ls} {n n' : Nat} (h : ab_rr o n = some n') : n' = ab_nx o n := by
  unfold ab_rr at h
  split at h
  · split at h
    · rename_i q
      cases h
      rw [Bool.or_eq_true, Bool.or_eq_true] at q
      rcases q with (q | q) | q
      · exact (ab_nx_is ab_p45 q).symm
      · exact (ab_nx_is ab_p63 q).symm
      · exact (ab_nx_is ab_p46 q).symm
    · cases h
  · cases h
    exact (ab_nx_l (by omega)).symm
theorem ab_rr_tk {o : ab_Ls} (ho : ab_Ook o) {n : Nat} : (ab_rr o n).isSome = true ↔ ab_tk o n = -3 ∨ ab_tk o n = 45 ∨ ab_tk o n = 63 ∨ ab_tk o n = 46 := by
  rw [ab_tk_l ho, ab_tk_is ab_p45, ab_tk_is ab_p63, ab_tk_is ab_p46]
  unfold ab_rr
  split
  · rename_i h0
    have h1 : ¬ 0 < ab_run o n 97 122 12 := by omega
    cases ab_is o 45 n <;> cases ab_is o 63 n <;> cases ab_is o 46 n <;> simp [h1]
  · rename_i h0
    have h1 : 0 < ab_run o n 97 122 12 := by omega
    simp [h1]
def ab_g3 (o : ab_Ls) (n : Nat) : Nat ⊕ Nat := ab_pss o (fun n => ab_is o 32 n) (ab_pss o (fun n => (ab_rr o n).isSome) (ab_pss o (fun n => ab_is o 32 n) (.inr n)))
theorem ab_gr_s {o : ab_Ls} {js : List Nat} {sn n : Nat} : (∀ e, ab_g3 o n = .inl e → ab_gr o js sn n = .inl e) ∧ (∀ n3, ab_g3 o n = .inr n3 → ab_is o 32 n = true ∧ ab_gr o js sn n = (match ab_wt o js sn n3 with
    | none => .inl n3
    | some (d, h) => .inr (n3 + d, h, n + 1))) := by
  unfold ab_g3 ab_gr
  cases h1 : ab_is o 32 n with
  | false => exact ⟨fun e he => by simp only [ab_pss, h1] at he; simpa using he, fun n3 he => by simp only [ab_pss, h1] at he; simp at he⟩
  | true =>
    have e1 := ab_nx_is ab_p32 h1
    cases h2 : ab_rr o (n + 1) with
    | none => exact ⟨fun e he => by simp only [ab_pss, h1, if_true, e1, h2] at he; simpa using he, fun n3 he => by simp only [ab_pss, h1, if_true, e1, h2] at he; simp at he⟩
    | some n2 =>
      have e2 := ab_rr_nx h2
      cases h3 : ab_is o 32 n2 with
      | false => exact ⟨fun e he => by simp only [ab_pss, h1, if_true, e1, h2, Option.isSome_some, ← e2, h3] at he; simpa [h3] using he, fun n3 he => by simp only [ab_pss, h1, if_true, e1, h2, Option.isSome_some, ← e2, h3] at he; simp at he⟩
      | true =>
        have e3 := ab_nx_is ab_p32 h3
        refine ⟨fun e he => ?_, fun n3 he => ⟨rfl, ?_⟩⟩
        · simp only [ab_pss, h1, if_true, e1, h2, Option.isSome_some, ← e2, h3] at he; cases he
        · simp only [ab_pss, h1, if_true, e1, h2, Option.isSome_some, ← e2, h3, e3] at he
          cases he
          simp only [if_true, h3]
          cases ab_wt o js sn (n2 + 1) with
          | none => rfl
          | some p => rfl
def ab_pop (s : Nat) : Nat := (s.testBit 0).toNat + (s.testBit 1).toNat + (s.testBit 2).toNat + (s.testBit 3).toNat
theorem ab_pop_le (s : Nat) : ab_pop s ≤ 4 := by
  unfold ab_pop
  have h : ∀ b : Bool, b.toNat ≤ 1 := fun b => by cases b <;> decide
  have h0 := h (s.testBit 0)
  have h1 := h (s.testBit 1)
  have h2 := h (s.testBit 2)
  have h3 := h (s.testBit 3)
  omega
theorem ab_pop_up {s h : Nat} (hs : s < 16) (hh : h < 16) (h0 : h ≠ 0) (hd : ∀ v, h.testBit v = true → s.testBit v = false) : ab_pop s < ab_pop (s ||| h) :=
  (by decide +kernel : ∀ s, s < 16 → ∀ h, h < 16 → h ≠ 0 → s &&& h = 0 → ab_pop s < ab_pop (s ||| h)) s hs h hh h0 (by
    apply Nat.eq_of_testBit_eq
    intro i
    rw [Nat.testBit_and, Nat.zero_testBit]
    cases hb : h.testBit i with
    | false => exact Bool.and_false _
    | true => rw [hd i hb]; rfl)
end EvMkeep
