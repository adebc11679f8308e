/-! the class's reader: entries, and what is built -/
section EvReader3
variable {w : ev_W} {Q : ev_QT} {m : ev_Mem} {t : ev_H}
def ab_gs (o : ab_Ls) (js : List Nat) (v : Nat) : Nat → Nat → Nat → Option Nat → Nat ⊕ (Nat × Option Nat)
  | 0, n, _, _ => .inl n
  | g + 1, n, sn, rp => match ab_gr o js sn n with
    | .inl e => .inl e
    | .inr (n4, h, a) => if ab_is o 10 n4 = true then .inr (n4 + 1, if h.testBit v = true then some a else rp) else if ab_is o 59 n4 = true then ab_gs o js v g (n4 + 1) (sn ||| h) (if h.testBit v = true then some a else rp) else .inl n4
def ab_en (o : ab_Ls) (T : ab_T) (fo : Nat → Option ab_Ls) (v pm n : Nat) : Nat ⊕ (Nat × Nat × Option Nat) := match ab_pl o T.1 pm n with
  | none => .inl n
  | some (d, q) => if ab_is o 32 (n + d) = true then (match ab_lm fo (ab_lem T q) o (n + d + 1) with
    | none => .inl (n + d + 1)
    | some n2 => if ab_is o 93 n2 = true then (match ab_gs o T.2.2.2.1 v 5 (n2 + 1) 0 none with
      | .inl e => .inl e
      | .inr (n3, rp) => .inr (n3, q, rp)) else .inl n2) else .inl (n + d)
def ab_upo (R : Nat → Option Nat) (q : Nat) (rp : Option Nat) : Nat → Option Nat := fun p => if p = q then rp else R p
theorem ab_upo_if (R : Nat → Option Nat) (q a : Nat) (rp : Option Nat) (b : Bool) : (if b = true then ab_up1 (ab_upo R q rp) q a else ab_upo R q rp) = ab_upo R q (if b = true then some a else rp) := by
  cases b with
  | false => rfl
  | true =>
    funext p
    show ab_up1 (ab_upo R q rp) q a p = ab_upo R q (some a) p
    unfold ab_up1 ab_upo
    by_cases h : p = q
    · rw [if_pos h, if_pos h]
    · rw [if_neg h, if_neg h, if_neg h]
theorem ab_pl_some {o : ab_Ls} {N pm n d q : Nat} (h : ab_pl o N pm n = some (d, q)) : n + d ≤ o.length ∧ 0 < d ∧ pm ≤ q ∧ q < N := by
  unfold ab_pl at h
  split at h
  · cases h
  · rename_i hc
    injection h with h
    injection h with h1 h2
    have := (ab_run_in o 48 57 2 n (ab_run o n 48 57 2 - 1) (by omega)).1
    omega
theorem ab_si_some {o : ab_Ls} {c : Int32} {n n' : Nat} (h : ab_si o c n = some n') : n' ≤ o.length ∧ n < n' := by
  unfold ab_si at h
  split at h
  · rename_i q
    cases h
    have := ab_is_lt q
    omega
  · cases h
theorem ab_lt_some {o l : ab_Ls} {n n' : Nat} (hl : 0 < l.length) (h : ab_lt o l n = some n') : n' ≤ o.length ∧ n < n' := by
  unfold ab_lt at h
  split at h
  · rename_i q
    cases h
    have := (ab_run_in o 97 122 12 n (l.length - 1) (by omega)).1
    omega
  · cases h
theorem ab_lm_some {fo : Nat → Option ab_Ls} {x : Option Nat} {o : ab_Ls} {n n' : Nat} (h : ab_lm fo x o n = some n') : n' ≤ o.length ∧ n < n' := by
  unfold ab_lm at h
  split at h
  · exact ab_si_some h
  · split at h
    · exact ab_si_some h
    · exact ab_si_some h
    · exact ab_lt_some (by rw [List.length_cons]; omega) h
/-- Reader.readEntry -/
theorem ev_S76 {n pm sn v : Nat} {R : Nat → Option Nat} {o : ab_Ls} {T : ab_T} {fo : Nat → Option ab_Ls} (A : ev_all w) (hE : ab_E m T fo) (hO : ab_O m o) (ho : ab_Ook o) (hS : ab_RS m n pm sn R v) (hn : n ≤ o.length) (hpm : pm ≤ 24) (hv : v < 4) (hR : ∀ p, pm ≤ p → R p = none)
    (h1 : ∀ n3 q rp, ab_en o T fo v pm n = .inr (n3, q, rp) → n3 ≤ o.length → pm ≤ q → q < T.1 → ∀ m' sn', ab_frd m m' → ab_RS m' n3 (q + 1) sn' (ab_upo R q rp) v → Q (.inl (some (.int 1))) m' t)
    (h0 : ∀ e, ab_en o T fo v pm n = .inl e → ∀ m', ab_frd m m' → m' 219 4 = Int32.ofNat e → Q (.inl (some (.int 0))) m' t) : ev_K w 76 [.ref 219, .ref 217, .ref 209, .ref 40] m t Q := by
  have hp : ev_prog[76]? = some ev_m76 := rfl
  have hlen := ho.1
  have k1 := hE.2.1.1
  have i4 := ev_i4
  have y1 : ∀ {P : Prop}, ((1 : Int32).toInt = 0) → P := fun h => absurd h ev_ne10
  unfold ab_en at h1 h0
  refine ⟨Or.inr ⟨219, _, rfl, rfl⟩, ev_m76, rfl, ev_gK A hp [21, 43] 20 ?_⟩
  refine ev_S77 A hE.1 hE.2.1 hO ho hS hn hpm (fun d q hpl m1 f1 S1 => ?_) (fun hpl => ?_)
  · simp only [hpl] at h1 h0
    obtain ⟨b1, b2, b3, b4⟩ := ab_pl_some hpl
    refine And.intro (fun h => y1 h) (fun _ => ?_)
    have O1 := ab_O_frd f1 hO
    refine ev_S78 (c := 32) A O1 ho S1 b1 (fun hi m2 f2 S2 => ?_) (fun hi => ?_)
    · rw [if_pos hi] at h1 h0
      refine And.intro (fun _ => ?_) (fun h => y1 h)
      have O2 := ab_O_frd f2 O1
      have f12 := ab_frd_tr f1 f2
      have hn2 : n + d + 1 ≤ o.length := ab_is_lt hi
      show ev_J w ev_m76 (ev_nd 76) Q 21 [ev_vr 219, ev_vr 217, ev_vr 209, ev_vr 40, none] [] m2 t
      refine ev_gK A hp [43] 20 ?_
      refine ev_S79 A (ab_E_frd f12 hE) O2 ho S2 hn2 b4 (fun n2 hlm m3 f3 S3 => ?_) (fun hlm => ?_)
      · simp only [hlm] at h1 h0
        refine And.intro (fun h => y1 h) (fun _ => ?_)
        have O3 := ab_O_frd f3 O2
        have hn3 := (ab_lm_some hlm).1
        refine ev_S78 (c := 93) A O3 ho S3 hn3 (fun hi2 m4 f4 S4 => ?_) (fun hi2 => ?_)
        · rw [if_pos hi2] at h1 h0
          refine And.intro (fun _ => ?_) (fun h => y1 h)
          have f14 := ab_frd_tr f12 (ab_frd_tr f3 f4)
          obtain ⟨G, hG⟩ : ∃ G, ab_gs o T.2.2.2.1 v 5 (n2 + 1) 0 none = G := ⟨_, rfl⟩
          rw [hG] at h1 h0
          have loop := ev_lup (P := fun k => ∀ (kk : Int32) (mk : ev_Mem) (n5 s5 : Nat) (rp : Option Nat), kk = Int32.ofNat k → ab_frd m mk → ab_RS mk n5 (q + 1) s5 (ab_upo R q rp) v → s5 < 16 → n5 ≤ o.length → G = ab_gs o T.2.2.2.1 v (5 - k) n5 s5 rp → ev_J w ev_m76 (ev_nd 76) Q 51 [ev_vr 219, ev_vr 217, ev_vr 209, ev_vr 40, ev_vi kk] [] mk t) 5 (by
            intro k hk ih kk mk n5 s5 rp ekk fk Sk h16 hn5 hgs
            subst ekk
            have ek := ev_ofNat_i (n := k) (by omega)
            refine ev_gK A hp [51, 68] 20 ?_
            refine And.intro (fun (h : (Int32.ofInt 4).toInt < (Int32.ofNat k).toInt) => ?_) (fun (h : (Int32.ofNat k).toInt ≤ (Int32.ofInt 4).toInt) => ?_)
            · rw [(by omega : 5 - k = 0), ab_gs] at hgs
              simp only [hgs] at h0
              exact ⟨rfl, h0 _ rfl mk fk Sk.2.1⟩
            · have hk5 : k < 5 := by omega
              obtain ⟨g, hg⟩ : ∃ g, 5 - k = g + 1 := ⟨5 - k - 1, by omega⟩
              rw [hg, ab_gs] at hgs
              have Ok := ab_O_frd fk hO
              have hEk := ab_E_frd fk hE
              refine ev_S81 A hEk.1 hEk.2.1 Ok ho Sk hn5 (by omega) h16 hv (fun n6 hh a hgr hh16 hn6 m6 f6 S6 => ?_) (fun e hgr m6 f6 z6 => ?_)
              · simp only [hgr] at hgs
                refine And.intro (fun _ => ?_) (fun h => y1 h)
                have f06 := ab_frd_tr fk f6
                have O6 := ab_O_frd f6 Ok
                rw [ab_upo_if] at S6
                show ev_J w ev_m76 (ev_nd 76) Q 68 [ev_vr 219, ev_vr 217, ev_vr 209, ev_vr 40, ev_vn k] [] m6 t
                refine ev_gK A hp [51] 20 ?_
                refine ev_S78 (c := 10) A O6 ho S6 hn6 (fun hj m7 f7 S7 => ?_) (fun hj => ?_)
                · refine And.intro (fun h => y1 h) (fun _ => ?_)
                  rw [if_pos hj] at hgs
                  simp only [hgs] at h1
                  exact ⟨rfl, h1 _ _ _ rfl (ab_is_lt hj) b3 b4 m7 _ (ab_frd_tr f06 f7) S7⟩
                · rw [if_neg (by rw [hj]; exact Bool.false_ne_true)] at hgs
                  refine And.intro (fun _ => ?_) (fun h => absurd ev_eq00 h)
                  refine ev_S78 (c := 59) A O6 ho S6 hn6 (fun hj2 m7 f7 S7 => ?_) (fun hj2 => ?_)
                  · refine And.intro (fun _ => ?_) (fun h => y1 h)
                    rw [if_pos hj2] at hgs
                    refine ih hk5 _ m7 _ _ _ (ev_succ (by omega)) (ab_frd_tr f06 f7) S7 (ab_or16 h16 hh16) (ab_is_lt hj2) ?_
                    rw [hgs, (by omega : 5 - (k + 1) = g)]
                  · refine And.intro (fun h => absurd ev_eq00 h) (fun _ => ?_)
                    rw [if_neg (by rw [hj2]; exact Bool.false_ne_true)] at hgs
                    simp only [hgs] at h0
                    exact ⟨rfl, h0 _ rfl m6 f06 S6.2.1⟩
              · simp only [hgr] at hgs
                simp only [hgs] at h0
                refine And.intro (fun h => absurd ev_eq00 h) (fun _ => ?_)
                exact ⟨rfl, h0 _ rfl m6 (ab_frd_tr fk f6) z6⟩)
          show ev_J w ev_m76 (ev_nd 76) Q 43 [ev_vr 219, ev_vr 217, ev_vr 209, ev_vr 40, none] [] m4 t
          refine ev_gK A hp [51] 20 ?_
          have eR : ab_upo R q none = R := by
            funext p
            unfold ab_upo
            by_cases hpq : p = q
            · rw [if_pos hpq, hR p (by omega)]
            · rw [if_neg hpq]
          refine loop 0 (by omega) _ _ (n2 + 1) 0 none rfl (ab_frd_tr f14 (ab_frd_up (by decide))) ?_ (by decide) (ab_is_lt hi2) hG.symm
          rw [eR]
          obtain ⟨a1, a2, a3, a4, a5⟩ := S4
          exact ⟨by rw [ev_up_idx _ _ (by decide)]; exact a1, by rw [ev_up_idx _ _ (by decide)]; exact a2, by rw [ev_up_idx _ _ (by decide)]; exact a3, ev_up_same _ _ _ _, fun p hp => by rw [ev_up_cell _ (by decide)]; exact a5 p hp⟩
        · rw [if_neg (by rw [hi2]; exact Bool.false_ne_true)] at h0
          refine And.intro (fun h => absurd ev_eq00 h) (fun _ => ?_)
          exact ⟨rfl, h0 _ rfl m3 (ab_frd_tr f12 f3) S3.2.1⟩
      · simp only [hlm] at h0
        refine And.intro (fun _ => ?_) (fun h => absurd ev_eq00 h)
        exact ⟨rfl, h0 _ rfl m2 f12 S2.2.1⟩
    · rw [if_neg (by rw [hi]; exact Bool.false_ne_true)] at h0
      refine And.intro (fun h => absurd ev_eq00 h) (fun _ => ?_)
      exact ⟨rfl, h0 _ rfl m1 f1 S1.2.1⟩
  · simp only [hpl] at h0
    refine And.intro (fun _ => ?_) (fun h => absurd ev_eq00 h)
    exact ⟨rfl, h0 _ rfl m ab_frd_rfl hS.2.1⟩
/-- what is built -/
def ab_B (m : ev_Mem) (bl : List (Option ab_Ls)) : Prop := m 219 1 = Int32.ofNat bl.length ∧ ∀ i, i < bl.length → ab_F m (221 + 2 * i) (bl.getD i none)
def ab_frb (m m' : ev_Mem) : Prop := ∀ c i, ¬ (219 ≤ c ∧ c ≤ 268) → m' c i = m c i
theorem ab_frb_tr {a b c : ev_Mem} (h1 : ab_frb a b) (h2 : ab_frb b c) : ab_frb a c := fun k i z => (h2 k i z).trans (h1 k i z)
def ab_bu1 (o : ab_Ls) (f : Nat) : List (Option ab_Ls) := if (o.getD f 0).toInt = 45 then [] else if (o.getD f 0).toInt = 63 then [none] else [some ((o.drop f).take (ab_run o f 97 122 12))]
theorem ab_B_app {m m' : ev_Mem} {bl : List (Option ab_Ls)} {x : Option ab_Ls} (hB : ab_B m bl) (h24 : bl.length < 24) (h1 : m' 219 1 = Int32.ofNat (bl.length + 1)) (hx : ab_F m' (221 + 2 * bl.length) x) (hf : ∀ c i, ¬ (c = 219 ∧ i = 1) → c ≠ 221 + 2 * bl.length → c ≠ 222 + 2 * bl.length → m' c i = m c i) : ab_B m' (bl ++ [x]) := by
  refine ⟨by rw [h1, List.length_append, List.length_singleton], fun i hi => ?_⟩
  rw [List.length_append, List.length_singleton] at hi
  rw [List.getD_eq_getElem?_getD]
  by_cases hil : i = bl.length
  · rw [hil, List.getElem?_append_right (Nat.le_refl _), Nat.sub_self]
    exact hx
  · rw [List.getElem?_append_left (by omega), ← List.getD_eq_getElem?_getD]
    exact ab_F_cong (fun j => hf _ _ (by omega) (by omega) (by omega)) (fun j => hf _ _ (by omega) (by omega) (by omega)) (hB.2 i (by omega))
/-- Reader.buildReading -/
theorem ev_S85 {f : Nat} {o : ab_Ls} {bl : List (Option ab_Ls)} (A : ev_all w) (hO : ab_O m o) (ho : ab_Ook o) (hf : f < o.length) (hB : ab_B m bl) (h24 : bl.length < 24) (hQ : ∀ m', ab_frb m m' → ab_B m' (bl ++ ab_bu1 o f) → Q (.inl none) m' t) : ev_K w 85 [.ref 219, .ref 217, .int (Int32.ofNat f)] m t Q := by
  have hp : ev_prog[85]? = some ev_m85 := rfl
  have hlen := ho.1
  have i45 : ((Int8.ofInt 45).toInt32).toInt = 45 := by decide
  have i63 : ((Int8.ofInt 63).toInt32).toInt = 63 := by decide
  have hri := ab_run_in o 97 122 12 f
  have hrl := ab_run_le o 97 122 12 f
  obtain ⟨d, hd⟩ : ∃ d, ab_run o f 97 122 12 = d := ⟨_, rfl⟩
  have hdd : ab_run o f (Int32.ofNat 97).toInt (Int32.ofNat 122).toInt 12 = d := hd
  unfold ab_bu1 at hQ
  rw [hd] at hQ hri hrl
  have ed := ev_ofNat_i (n := d) (by omega)
  have hx := ev_isLb24 h24
  refine ⟨Or.inr ⟨219, _, rfl, rfl⟩, ev_m85, rfl, ev_gK A hp [13] 10 ?_⟩
  refine ev_S70 A hO hlen ho.2 hf ?_
  refine And.intro (fun (h : ¬ (o.getD f 0).toInt = ((Int8.ofInt 45).toInt32).toInt) => ?_) (fun (h : (o.getD f 0).toInt = ((Int8.ofInt 45).toInt32).toInt) => ?_)
  · rw [if_neg (by omega)] at hQ
    show ev_J w ev_m85 (ev_nd 85) Q 13 [ev_vr 219, ev_vr 217, ev_vn f, ev_vi (o.getD f 0), none, none, none] [] m t
    refine ev_gK A hp [24] 10 ?_
    refine And.intro (ev_iin hB.1 h24 (by decide)) ?_
    show ev_J w ev_m85 (ev_nd 85) Q 24 [ev_vr 219, ev_vr 217, ev_vn f, ev_vi (o.getD f 0), ev_vr (221 + 2 * (m 219 1).toNatClampNeg), none, none] [] m t
    rw [ev_at hB.1 (by omega)]
    refine ev_gK A hp [] 6 ?_
    show ev_J w ev_m85 (ev_nd 85) Q 34 [ev_vr 219, ev_vr 217, ev_vn f, ev_vi (o.getD f 0), ev_vr (221 + 2 * bl.length), none, none] [] (ev_up m 219 1 (m 219 1 + 1)) t
    rw [hB.1, ev_succ (by omega)]
    refine ev_gK A hp [] 3 ?_
    refine ev_S7 A hx ?_
    -- the memory with one form begun
    have g1 : ∀ c i, ¬ (c = 219 ∧ i = 1) → c ≠ 221 + 2 * bl.length → ev_up (ev_up m 219 1 (Int32.ofNat (bl.length + 1))) (221 + 2 * bl.length) 1 (Int32.ofInt 0) c i = m c i := fun c i z1 z2 => by rw [ev_up_cell _ z2]; exact if_neg z1
    have g2 : ev_up (ev_up m 219 1 (Int32.ofNat (bl.length + 1))) (221 + 2 * bl.length) 1 (Int32.ofInt 0) 219 1 = Int32.ofNat (bl.length + 1) := by rw [ev_up_cell _ (by omega), ev_up_same]
    have g3 : ev_up (ev_up m 219 1 (Int32.ofNat (bl.length + 1))) (221 + 2 * bl.length) 1 (Int32.ofInt 0) (221 + 2 * bl.length) 1 = 0 := ev_up_same _ _ _ _
    show ev_J w ev_m85 (ev_nd 85) Q 40 [ev_vr 219, ev_vr 217, ev_vn f, ev_vi (o.getD f 0), ev_vr (221 + 2 * bl.length), none, none] [] (ev_up (ev_up m 219 1 (Int32.ofNat (bl.length + 1))) (221 + 2 * bl.length) 1 (Int32.ofInt 0)) t
    generalize ev_up (ev_up m 219 1 (Int32.ofNat (bl.length + 1))) (221 + 2 * bl.length) 1 (Int32.ofInt 0) = m1 at *
    have O1 : ab_O m1 o := ⟨by rw [g1 _ _ (by decide) (by omega)]; exact hO.1, fun k hk => by rw [g1 _ _ (by omega) (by omega)]; exact hO.2 k hk⟩
    refine ev_gK A hp [] 6 ?_
    show ev_K w 72 [.ref 217, .int (Int32.ofNat f), .int (Int32.ofNat 97), .int (Int32.ofNat 122), .int (Int32.ofNat 12)] m1 t _
    refine ev_S72 A O1 hlen (by omega) (by decide) ?_
    have hdf : f + d ≤ o.length := by
      rcases Nat.eq_zero_or_pos d with z | z
      · omega
      · have := (hri (d - 1) (by omega)).1; omega
    have h82 : ∀ (mk : ev_Mem) (kk : Int32), (∀ c i, ¬ (c = 219 ∧ i = 1) → c ≠ 221 + 2 * bl.length → c ≠ 222 + 2 * bl.length → mk c i = m c i) → mk 219 1 = Int32.ofNat (bl.length + 1) → ab_L mk (221 + 2 * bl.length) ((o.drop f).take d) → ev_J w ev_m85 (ev_nd 85) Q 82 [ev_vr 219, ev_vr 217, ev_vn f, ev_vi (o.getD f 0), ev_vr (221 + 2 * bl.length), ev_vn d, ev_vi kk] [] mk t := by
      intro mk kk f1 z1 hL
      refine ev_gK A hp [] 10 ?_
      refine And.intro (fun (h2 : ¬ (o.getD f 0).toInt = ((Int8.ofInt 63).toInt32).toInt) => ?_) (fun (h2 : (o.getD f 0).toInt = ((Int8.ofInt 63).toInt32).toInt) => ?_)
      · rw [if_neg (by omega)] at hQ
        exact hQ mk (fun c i z => f1 c i (by omega) (by omega) (by omega)) (ab_B_app hB h24 z1 hL f1)
      · rw [if_pos (by omega)] at hQ
        refine ev_S11 A hx ?_
        refine hQ _ (fun c i z => by rw [ev_up_cell _ (by omega)]; exact f1 c i (by omega) (by omega) (by omega)) (ab_B_app hB h24 (by rw [ev_up_cell _ (by omega)]; exact z1) ?_ (fun c i z1 z2 z3 => by rw [ev_up_cell _ z2]; exact f1 c i z1 z2 z3))
        show (ev_up mk (221 + 2 * bl.length) 1 (-1) (221 + 2 * bl.length) 1).toInt = -1
        rw [ev_up_same]; rfl
    have loop := ev_lup (P := fun k => ∀ (kk : Int32) (mk : ev_Mem), kk = Int32.ofNat k → (∀ c i, ¬ (c = 219 ∧ i = 1) → c ≠ 221 + 2 * bl.length → c ≠ 222 + 2 * bl.length → mk c i = m c i) → mk 219 1 = Int32.ofNat (bl.length + 1) → ab_L mk (221 + 2 * bl.length) ((o.drop f).take k) → ev_J w ev_m85 (ev_nd 85) Q 56 [ev_vr 219, ev_vr 217, ev_vn f, ev_vi (o.getD f 0), ev_vr (221 + 2 * bl.length), ev_vn d, ev_vi kk] [] mk t) d (by
      intro k hk ih kk mk ekk f1 z1 hL
      subst ekk
      have ek := ev_ofNat_i (n := k) (by omega)
      have hkl : ((o.drop f).take k).length = k := by rw [List.length_take, List.length_drop]; omega
      refine ev_gK A hp [63, 82] 10 ?_
      refine And.intro (fun (h : (Int32.ofNat d).toInt ≤ (Int32.ofNat k).toInt) => ?_) (fun (h : (Int32.ofNat k).toInt < (Int32.ofNat d).toInt) => ?_)
      · have e : k = d := by omega
        subst e
        exact h82 mk _ f1 z1 hL
      · have hkd : k < d := by omega
        obtain ⟨r1, r2, r3⟩ := hri k hkd
        have Ok : ab_O mk o := ⟨by rw [f1 _ _ (by decide) (by omega) (by omega)]; exact hO.1, fun k hk => by rw [f1 _ _ (by omega) (by omega) (by omega)]; exact hO.2 k hk⟩
        refine ev_gK A hp [] 5 ?_
        show ev_J w ev_m85 (ev_nd 85) Q 70 [ev_vr 219, ev_vr 217, ev_vn f, ev_vi (o.getD f 0), ev_vr (221 + 2 * bl.length), ev_vn d, ev_vn k] [.int (Int32.ofNat f + Int32.ofNat k), .ref 217, .ref (221 + 2 * bl.length)] mk t
        rw [ev_addN (by omega)]
        refine ev_gK A hp [56] 20 ?_
        refine ev_S70 A Ok hlen ho.2 r1 ?_
        refine ev_S9 A hx (by decide) ?_
        have hL1 := hL.1
        rw [hkl] at hL1
        have hlk : mk (221 + 2 * bl.length) 1 = Int32.ofNat k := by apply ev_eq_of; rw [hL1, ek]
        have e9 : ev_addL mk (221 + 2 * bl.length) 12 (o.getD (f + k) 0) = ev_up (ev_up mk (221 + 2 * bl.length + 1) k (o.getD (f + k) 0)) (221 + 2 * bl.length) 1 (Int32.ofNat (k + 1)) := by
          unfold ev_addL
          rw [if_pos ⟨by omega, by omega⟩, hlk, ev_on (by omega), ev_succ (by omega), ev_ch_nar (ab_c16_ch ⟨by omega, by omega⟩)]
        rw [e9]
        refine ih hkd _ _ (ev_succ (by omega)) (fun c i z1 z2 z3 => by rw [ev_up_cell _ z2, ev_up_cell _ (by omega)]; exact f1 c i z1 z2 z3) (by rw [ev_up_cell _ (by omega), ev_up_cell _ (by omega)]; exact z1) ⟨?_, fun j hj => ?_⟩
        · rw [ev_up_same, ev_ofNat_i (by omega), List.length_take, List.length_drop]; omega
        · rw [List.length_take, List.length_drop] at hj
          rw [ev_up_cell _ (by omega), Nat.zero_add]
          have hg : ∀ j, j < k + 1 → ((o.drop f).take (k + 1)).getD j 0 = o.getD (f + j) 0 := fun j hj => by rw [ab_getD_take hj, ab_getD_drop]
          rw [hg j (by omega)]
          by_cases hjk : j = k
          · rw [hjk, ev_up_same]
          · rw [ev_up_idx _ _ hjk]
            have h3 := hL.2 j (by rw [hkl]; omega)
            rw [Nat.zero_add, ab_getD_take (by omega), ab_getD_drop] at h3
            exact h3)
    refine ev_gK A hp [56] 10 ?_
    rw [hdd]
    refine loop 0 (by omega) _ m1 rfl (fun c i z1 z2 _ => g1 c i z1 z2) g2 ⟨?_, fun j hj => ?_⟩
    · rw [g3, List.take_zero]; rfl
    · rw [List.take_zero] at hj; exact absurd hj (Nat.not_lt_zero _)
  · rw [if_pos (by omega), List.append_nil] at hQ
    exact hQ m (fun _ _ _ => rfl) hB
def ab_bl1 (o : ab_Ls) (T : ab_T) (fo : Nat → Option ab_Ls) (R : Nat → Option Nat) (p : Nat) : List (Option ab_Ls) := match R p with
  | some f => ab_bu1 o f
  | none => match ab_lem T p with
    | none => []
    | some x => [fo x]
def ab_bl (o : ab_Ls) (T : ab_T) (fo : Nat → Option ab_Ls) (R : Nat → Option Nat) : Nat → List (Option ab_Ls)
  | 0 => []
  | p + 1 => ab_bl o T fo R p ++ ab_bl1 o T fo R p
theorem ab_bu1_len (o : ab_Ls) (f : Nat) : (ab_bu1 o f).length ≤ 1 := by
  unfold ab_bu1
  split
  · exact Nat.zero_le _
  · split <;> exact Nat.le_refl _
theorem ab_bl1_len (o : ab_Ls) (T : ab_T) (fo : Nat → Option ab_Ls) (R : Nat → Option Nat) (p : Nat) : (ab_bl1 o T fo R p).length ≤ 1 := by
  unfold ab_bl1
  split
  · exact ab_bu1_len _ _
  · split
    · exact Nat.zero_le _
    · exact Nat.le_refl _
theorem ab_bl_len (o : ab_Ls) (T : ab_T) (fo : Nat → Option ab_Ls) (R : Nat → Option Nat) : ∀ p, (ab_bl o T fo R p).length ≤ p
  | 0 => Nat.le_refl _
  | p + 1 => by
    have h1 := ab_bl_len o T fo R p
    have h2 := ab_bl1_len o T fo R p
    rw [ab_bl, List.length_append]
    omega
/-- Reader.buildAll -/
theorem ev_S84 {o : ab_Ls} {T : ab_T} {fo : Nat → Option ab_Ls} {R : Nat → Option Nat} (A : ev_all w) (hE : ab_E m T fo) (hO : ab_O m o) (ho : ab_Ook o) (hR : ∀ p, p < 24 → m 269 p = ab_oi (R p)) (hRl : ∀ p f, R p = some f → f < o.length) (hQ : ∀ m', ab_frb m m' → ab_B m' (ab_bl o T fo R T.1) → Q (.inl none) m' t) : ev_K w 84 [.ref 219, .ref 217, .ref 209, .ref 40] m t Q := by
  have hp : ev_prog[84]? = some ev_m84 := rfl
  have hlen := ho.1
  have k1 := hE.2.1.1
  have em1 := ev_im1
  have loop := ev_lup (P := fun p => ∀ (pp : Int32) (mk : ev_Mem) (o5 : Option Value), pp = Int32.ofNat p → ab_frb m mk → ab_B mk (ab_bl o T fo R p) → ev_J w ev_m84 (ev_nd 84) Q 8 [ev_vr 219, ev_vr 217, ev_vr 209, ev_vr 40, ev_vi pp, o5] [] mk t) T.1 (by
    intro p hpT ih pp mk o5 epp hf hB
    subst epp
    have ep := ev_ofNat_i (n := p) (by omega)
    have hEk : ab_E mk T fo := ab_E_cong (fun c i _ z => hf c i (by omega)) hE
    have Ok : ab_O mk o := ⟨by rw [hf _ _ (by decide)]; exact hO.1, fun k hk => by rw [hf _ _ (by decide)]; exact hO.2 k hk⟩
    have t1 := hEk.1.1
    have hbl := ab_bl_len o T fo R p
    refine ev_gK A hp [25] 10 ?_
    refine ev_S36 A ?_
    refine And.intro (fun (h : (mk 209 2).toInt ≤ (Int32.ofNat p).toInt) => ?_) (fun (h : (Int32.ofNat p).toInt < (mk 209 2).toInt) => ?_)
    · have e : p = T.1 := by omega
      rw [e] at hB
      exact hQ mk hf hB
    · have hpl : p < T.1 := by omega
      have h85 : ∀ (x5 : Int32) (m2 : ev_Mem), ab_frb m m2 → ab_B m2 (ab_bl o T fo R p ++ ab_bl1 o T fo R p) → ev_J w ev_m84 (ev_nd 84) Q 85 [ev_vr 219, ev_vr 217, ev_vr 209, ev_vr 40, ev_vn p, ev_vi x5] [] m2 t := by
        intro x5 m2 f2 B2
        refine ev_gK A hp [8] 10 ?_
        exact ih hpl _ m2 _ (ev_succ (by omega)) f2 B2
      refine ev_S37 A hEk.1 hEk.2.1 hpl ?_
      have e269 : mk 269 (Int32.ofNat p).toNatClampNeg = ab_oi (R p) := by rw [ev_on (by omega), hf _ _ (by decide)]; exact hR p (by omega)
      show ev_J w ev_m84 (ev_nd 84) Q 25 [ev_vr 219, ev_vr 217, ev_vr 209, ev_vr 40, ev_vn p, ev_vi (ab_oi (ab_lem T p))] [] mk t
      refine ev_gK A hp [36, 51] 10 ?_
      refine And.intro (ev_oin (by omega) (by decide)) ?_
      have hRb : ∀ f, R p = some f → f < 100000 := fun f hf2 => by have := hRl p f hf2; omega
      refine And.intro (fun (h2 : (mk 269 (Int32.ofNat p).toNatClampNeg).toInt = (Int32.ofInt (-1)).toInt) => ?_) (fun (h2 : ¬ (mk 269 (Int32.ofNat p).toNatClampNeg).toInt = (Int32.ofInt (-1)).toInt) => ?_)
      · rw [e269, em1] at h2
        have hRn := (ab_oi_m1 hRb).mp h2
        show ev_J w ev_m84 (ev_nd 84) Q 51 [ev_vr 219, ev_vr 217, ev_vr 209, ev_vr 40, ev_vn p, ev_vi (ab_oi (ab_lem T p))] [] mk t
        cases hx : ab_lem T p with
        | none =>
          have e1 : ab_bl1 o T fo R p = [] := by unfold ab_bl1; rw [hRn, hx]
          refine ev_gK A hp [85] 10 ?_
          refine And.intro (fun _ => h85 _ mk hf (by rw [e1, List.append_nil]; exact hB)) (fun (h3 : ¬ (-1 : Int32).toInt = (-1 : Int32).toInt) => absurd rfl h3)
        | some y =>
          obtain ⟨hy, hyt⟩ := ab_lem_ok hEk hpl y hx
          have ey := ev_ofNat_i (n := y) (by omega)
          have e1 : ab_bl1 o T fo R p = [fo y] := by unfold ab_bl1; rw [hRn, hx]
          obtain ⟨hF, hol⟩ := hEk.2.2.1 y hy hyt
          have hFl := ab_F_len hF
          have h24 : (ab_bl o T fo R p).length < 24 := by omega
          refine ev_gK A hp [57] 10 ?_
          refine And.intro (fun (h3 : (Int32.ofNat y).toInt = (Int32.ofInt (-1)).toInt) => by omega) (fun _ => ?_)
          refine ev_gK A hp [] 5 ?_
          refine And.intro (ev_iin hB.1 h24 (by decide)) ?_
          show ev_J w ev_m84 (ev_nd 84) Q 66 [ev_vr 219, ev_vr 217, ev_vr 209, ev_vr 40, ev_vn p, ev_vn y] [.ref (221 + 2 * (mk 219 1).toNatClampNeg)] mk t
          rw [ev_at hB.1 (by omega)]
          refine ev_gK A hp [75] 10 ?_
          refine ev_S22 A hy ?_
          refine ev_S13 A (ev_isLb24 h24) (ev_isLf hy) (by omega) (by decide) (by decide) hFl.1 (by omega) (by omega) (fun k hk => ?_) (fun m2 y1 y2 y3 => ?_)
          · cases hfy : fo y with
            | none => rw [hfy] at hF; have hF2 : (mk (45 + 4 * y) 1).toInt = -1 := hF; omega
            | some l =>
              rw [hfy] at hF
              have hL : ab_L mk (45 + 4 * y) l := hF
              have hL1 := hL.1
              have h5 := ab_row_ch hL.2 (hEk.2.2.2.2.1 y l hy hyt hfy) (k := k) (by omega)
              rwa [Nat.zero_add] at h5
          · show ev_J w ev_m84 (ev_nd 84) Q 75 [ev_vr 219, ev_vr 217, ev_vr 209, ev_vr 40, ev_vn p, ev_vn y] [] m2 t
            refine ev_gK A hp [85] 10 ?_
            have hF2 : ab_F m2 (221 + 2 * (ab_bl o T fo R p).length) (fo y) := by
              cases hfy : fo y with
              | none => rw [hfy] at hF; exact y1.trans hF
              | some l =>
                rw [hfy] at hF
                have hL : ab_L mk (45 + 4 * y) l := hF
                have hL1 := hL.1
                exact ⟨y1.trans hL1, fun k hk => by rw [Nat.zero_add, y2 k (by omega)]; have := hL.2 k hk; rwa [Nat.zero_add] at this⟩
            have ec : m2 219 1 = Int32.ofNat (ab_bl o T fo R p).length := by rw [y3 _ _ (by omega) (by omega)]; exact hB.1
            refine h85 _ _ (fun c i z => by rw [ev_up_cell _ (by omega), y3 c i (by omega) (by omega)]; exact hf c i z) ?_
            rw [e1]
            refine ab_B_app hB h24 ?_ (ab_F_cong (fun j => ev_up_cell _ (by omega) _ _ _) (fun j => ev_up_cell _ (by omega) _ _ _) hF2) (fun c i z1 z2 z3 => ?_)
            · rw [ev_up_same, ec]; exact ev_succ (by omega)
            · exact (if_neg z1).trans (y3 c i z2 (by omega))
      · rw [e269, em1] at h2
        cases hR2 : R p with
        | none => rw [hR2] at h2; exact absurd rfl h2
        | some f =>
          have e1 : ab_bl1 o T fo R p = ab_bu1 o f := by unfold ab_bl1; rw [hR2]
          rw [hR2] at e269
          refine ev_gK A hp [] 6 ?_
          refine And.intro (ev_oin (by omega) (by decide)) ?_
          show ev_J w ev_m84 (ev_nd 84) Q 45 [ev_vr 219, ev_vr 217, ev_vr 209, ev_vr 40, ev_vn p, ev_vi (ab_oi (ab_lem T p))] [.int (mk 269 (Int32.ofNat p).toNatClampNeg), .ref 217, .ref 219] mk t
          rw [e269]
          refine ev_gK A hp [85] 10 ?_
          refine ev_S85 A Ok ho (hRl p f hR2) hB (by omega) (fun m2 f2 B2 => ?_)
          exact h85 _ m2 (ab_frb_tr hf f2) (by rw [e1]; exact B2))
  refine ⟨Or.inr ⟨219, _, rfl, rfl⟩, ev_m84, rfl, ev_gK A hp [8] 20 ?_⟩
  exact loop 0 (by omega) _ _ _ rfl (fun c i z => ev_up_cell _ (by omega) _ _ _) ⟨ev_up_same _ _ _ _, fun i hi => absurd hi (Nat.not_lt_zero _)⟩
end EvReader3
