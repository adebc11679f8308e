/-! the class's reader: all of a sheet -/
section EvReader4
variable {w : ev_W} {Q : ev_QT} {m : ev_Mem} {t : ev_H}
def ab_es (o : ab_Ls) (T : ab_T) (fo : Nat → Option ab_Ls) (v : Nat) : Nat → Nat → Nat → (Nat → Option Nat) → Nat ⊕ (Nat → Option Nat)
  | 0, _, _, R => .inr R
  | e + 1, n, pm, R => if n < o.length then (match ab_en o T fo v pm n with
    | .inl q => .inl q
    | .inr (n3, q, rp) => ab_es o T fo v e n3 (q + 1) (ab_upo R q rp)) else .inr R
theorem ev_exN (x : Int32) : ∃ n, x = Int32.ofNat n := by
  have e : ∀ u : UInt32, u.toInt32 = Int32.ofNat u.toNat := by
    intro u
    have h : UInt32.ofNat u.toNat = u := UInt32.ofNat_toNat
    exact (congrArg UInt32.toInt32 h).symm.trans rfl
  exact ⟨x.toUInt32.toNat, (Int32.toInt32_toUInt32 x).symm.trans (e _)⟩
theorem ab_gr_a {o : ab_Ls} {js : List Nat} {sn n n4 h a : Nat} (hg : ab_gr o js sn n = .inr (n4, h, a)) : a < o.length := by
  unfold ab_gr at hg
  split at hg
  · split at hg
    · cases hg
    · rename_i n2 hr
      split at hg
      · split at hg
        · cases hg
        · cases hg
          have := ab_rr_le hr
          omega
      · cases hg
  · cases hg
theorem ab_gs_rp {o : ab_Ls} {js : List Nat} {v : Nat} : ∀ (g n sn : Nat) (rp : Option Nat) (n3 : Nat) (rp' : Option Nat), ab_gs o js v g n sn rp = .inr (n3, rp') → (∀ f, rp = some f → f < o.length) → ∀ f, rp' = some f → f < o.length
  | 0, _, _, _, _, _, h, _, _, _ => by rw [ab_gs] at h; cases h
  | g + 1, n, sn, rp, n3, rp', h, hrp, f, hf => by
    rw [ab_gs] at h
    split at h
    · cases h
    · rename_i n4 hh a hgr
      have ha := ab_gr_a hgr
      have hnew : ∀ f, (if hh.testBit v = true then some a else rp) = some f → f < o.length := by
        intro f hf
        split at hf
        · cases hf; exact ha
        · exact hrp f hf
      split at h
      · injection h with h
        injection h with h1 h2
        rw [← h2] at hf
        exact hnew f hf
      · split at h
        · exact ab_gs_rp g _ _ _ _ _ h hnew f hf
        · cases h
theorem ab_en_rp {o : ab_Ls} {T : ab_T} {fo : Nat → Option ab_Ls} {v pm n n3 q : Nat} {rp : Option Nat} (h : ab_en o T fo v pm n = .inr (n3, q, rp)) : ∀ f, rp = some f → f < o.length := by
  unfold ab_en at h
  split at h
  · cases h
  · split at h
    · split at h
      · cases h
      · split at h
        · split at h
          · cases h
          · rename_i hgs
            cases h
            exact ab_gs_rp _ _ _ _ _ _ hgs (fun f hf => by cases hf)
        · cases h
    · cases h
/-- Reader.read -/
theorem ev_S75 {v : Nat} {o : ab_Ls} {T : ab_T} {fo : Nat → Option ab_Ls} (A : ev_all w) (hE : ab_E m T fo) (hO : ab_O m o) (ho : ab_Ook o) (hv : v < 4)
    (h0 : ∀ e, ab_es o T fo v 25 0 0 (fun _ => none) = .inl e → ∀ m', ab_frd m m' → Q (.inl (some (.int (Int32.ofNat e)))) m' t)
    (h1 : ∀ R, ab_es o T fo v 25 0 0 (fun _ => none) = .inr R → ∀ m', (∀ c i, ¬ (219 ≤ c ∧ c ≤ 269) → m' c i = m c i) → ab_B m' (ab_bl o T fo R T.1) → Q (.inl (some (.int (-1)))) m' t) : ev_K w 75 [.ref 219, .ref 217, .ref 209, .ref 40, .int (Int32.ofNat v)] m t Q := by
  have hp : ev_prog[75]? = some ev_m75 := rfl
  have hlen := ho.1
  have k1 := hE.2.1.1
  have i24 : ((Int8.ofInt 24).toInt32).toInt = 24 := by decide
  obtain ⟨G, hG⟩ : ∃ G, ab_es o T fo v 25 0 0 (fun _ => none) = G := ⟨_, rfl⟩
  rw [hG] at h0 h1
  have h66 : ∀ (mk : ev_Mem) (R : Nat → Option Nat) (ee : Int32), ab_frd m mk → (∀ p, p < 24 → mk 269 p = ab_oi (R p)) → (∀ p f, R p = some f → f < o.length) → G = .inr R → ev_J w ev_m75 (ev_nd 75) Q 66 [ev_vr 219, ev_vr 217, ev_vr 209, ev_vr 40, ev_vn v, ev_vi ee] [] mk t := by
    intro mk R ee fk hR hRl hgR
    refine ev_gK A hp [] 10 ?_
    refine ev_S84 A (ab_E_frd fk hE) (ab_O_frd fk hO) ho hR hRl (fun m' f' B' => ?_)
    exact h1 R hgR m' (fun c i z => by rw [f' c i (by omega)]; exact fk c i (by omega) (by omega)) B'
  have loop := ev_lup (P := fun e => ∀ (ee : Int32) (mk : ev_Mem) (n pm sn : Nat) (R : Nat → Option Nat), ee = Int32.ofNat e → ab_frd m mk → ab_RS mk n pm sn R v → n ≤ o.length → pm ≤ 24 → (∀ p, pm ≤ p → R p = none) → (∀ p f, R p = some f → f < o.length) → G = ab_es o T fo v (25 - e) n pm R → ev_J w ev_m75 (ev_nd 75) Q 27 [ev_vr 219, ev_vr 217, ev_vr 209, ev_vr 40, ev_vn v, ev_vi ee] [] mk t) 25 (by
    intro e he ih ee mk n pm sn R eee fk Sk hn hpm hRn hRl hg
    subst eee
    have ee := ev_ofNat_i (n := e) (by omega)
    have Ok := ab_O_frd fk hO
    have e4 := ev_toI Sk.2.1 (by omega)
    have el := ev_toI Ok.1 (by omega)
    refine ev_gK A hp [34, 66] 10 ?_
    refine And.intro (fun (h : ((Int8.ofInt 24).toInt32).toInt < (Int32.ofNat e).toInt) => ?_) (fun (h : (Int32.ofNat e).toInt ≤ ((Int8.ofInt 24).toInt32).toInt) => ?_)
    · rw [(by omega : 25 - e = 0), ab_es] at hg
      exact h66 mk R _ fk Sk.2.2.2.2 hRl hg
    · obtain ⟨g, hg2⟩ : ∃ g, 25 - e = g + 1 := ⟨25 - e - 1, by omega⟩
      rw [hg2, ab_es] at hg
      refine ev_gK A hp [45, 66] 10 ?_
      refine ev_S69 A ?_
      refine And.intro (fun (h : (mk 217 1).toInt ≤ (mk 219 4).toInt) => ?_) (fun (h : (mk 219 4).toInt < (mk 217 1).toInt) => ?_)
      · rw [if_neg (by omega)] at hg
        exact h66 mk R _ fk Sk.2.2.2.2 hRl hg
      · rw [if_pos (by omega)] at hg
        refine ev_gK A hp [27] 20 ?_
        refine ev_S76 A (ab_E_frd fk hE) Ok ho Sk hn hpm hv hRn (fun n3 q rp hen hn3 z1 z2 m' sn' f' S' => ?_) (fun q hen m' f' z => ?_)
        · simp only [hen] at hg
          refine And.intro (fun _ => ?_) (fun h => absurd (h : (1 : Int32).toInt = 0) ev_ne10)
          refine ih (by omega) _ m' n3 (q + 1) sn' _ (ev_succ (by omega)) (ab_frd_tr fk f') S' hn3 (by omega) (fun p hp => ?_) (fun p f hpf => ?_) (by rw [hg, (by omega : 25 - (e + 1) = g)])
          · unfold ab_upo
            rw [if_neg (by omega)]
            exact hRn p (by omega)
          · unfold ab_upo at hpf
            split at hpf
            · exact ab_en_rp hen f hpf
            · exact hRl p f hpf
        · simp only [hen] at hg
          refine And.intro (fun h => absurd ev_eq00 h) (fun _ => ?_)
          show Q (.inl (some (.int (m' 219 4)))) m' t
          rw [z]
          exact h0 q hg m' (ab_frd_tr fk f'))
  refine ⟨Or.inr ⟨219, _, rfl, rfl⟩, ev_m75, rfl, ev_gK A hp [27] 30 ?_⟩
  show ev_K w 2 [.ref 269, .int (-1)] (ev_up (ev_up (ev_up m 219 3 (Int32.ofNat v)) 219 4 (Int32.ofNat 0)) 219 5 (-1)) t _
  refine ev_S2_269 A ?_
  obtain ⟨sn, hsn⟩ := ev_exN (m 219 6)
  have fr : ab_frd m (ab_fill (ev_up (ev_up (ev_up m 219 3 (Int32.ofNat v)) 219 4 (Int32.ofNat 0)) 219 5 (-1)) 269 24 (-1)) := fun c i z1 z2 => by
    have e1 : ab_fill (ev_up (ev_up (ev_up m 219 3 (Int32.ofNat v)) 219 4 (Int32.ofNat 0)) 219 5 (-1)) 269 24 (-1) c i = ev_up (ev_up (ev_up m 219 3 (Int32.ofNat v)) 219 4 (Int32.ofNat 0)) 219 5 (-1) c i := if_neg (fun q => z1 q.1)
    rw [e1]
    exact ab_frd_tr (ab_frd_tr (ab_frd_up (by decide)) (ab_frd_up (by decide))) (ab_frd_up (by decide)) c i z1 z2
  have hne : ∀ i, ab_fill (ev_up (ev_up (ev_up m 219 3 (Int32.ofNat v)) 219 4 (Int32.ofNat 0)) 219 5 (-1)) 269 24 (-1) 219 i = ev_up (ev_up (ev_up m 219 3 (Int32.ofNat v)) 219 4 (Int32.ofNat 0)) 219 5 (-1) 219 i := fun i => if_neg (fun q => absurd q.1 (by decide))
  refine loop 0 (by omega) _ _ 0 0 sn (fun _ => none) rfl fr ⟨?_, ?_, ?_, ?_, fun p hp => ?_⟩ (by omega) (by omega) (fun _ _ => rfl) (fun _ _ h => by cases h) hG.symm
  · rw [hne, ev_up_idx _ _ (by decide), ev_up_idx _ _ (by decide), ev_up_same]
  · rw [hne, ev_up_idx _ _ (by decide), ev_up_same]
  · rw [hne, ev_up_same]; rfl
  · rw [hne, ev_up_idx _ _ (by decide), ev_up_idx _ _ (by decide), ev_up_idx _ _ (by decide)]; exact hsn
  · exact if_pos ⟨rfl, hp⟩
/-- Reader.builtCount -/
theorem ev_S86 (A : ev_all w) (hQ : Q (.inl (some (.int (m 219 1)))) m t) : ev_K w 86 [.ref 219] m t Q :=
  ⟨Or.inr ⟨219, [], rfl, rfl⟩, ev_m86, rfl, ev_gK A (k := 86) rfl [] 20 hQ⟩
/-- what stands in what is built -/
def ab_blt (bl : List (Option ab_Ls)) (i k : Int32) : Int32 := if 0 ≤ i.toInt ∧ i.toInt < (bl.length : Int) then (match bl.getD i.toInt.toNat none with
  | none => if k.toInt = 0 then 63 else -1
  | some l => if 0 ≤ k.toInt ∧ k.toInt < (l.length : Int) then l.getD k.toInt.toNat 0 else -1) else -1
def ab_Bok (bl : List (Option ab_Ls)) : Prop := bl.length ≤ 24 ∧ ∀ l, some l ∈ bl → l.length ≤ 12 ∧ ab_az l
/-- Reader.builtLetter -/
theorem ev_S74 {i k : Int32} {bl : List (Option ab_Ls)} (A : ev_all w) (hB : ab_B m bl) (hok : ab_Bok bl) (hQ : Q (.inl (some (.int (ab_blt bl i k)))) m t) : ev_K w 74 [.ref 219, .int i, .int k] m t Q := by
  have hp : ev_prog[74]? = some ev_m74 := rfl
  have e1 := ev_toI hB.1 (by have := hok.1; omega)
  have h24 := hok.1
  unfold ab_blt at hQ
  refine ⟨Or.inr ⟨219, _, rfl, rfl⟩, ev_m74, rfl, ev_gK A hp [14] 10 ?_⟩
  refine And.intro (fun (h : i.toInt < 0) => ?_) (fun (h : 0 ≤ i.toInt) => ?_)
  · rw [if_neg (by omega)] at hQ
    exact hQ
  refine And.intro (fun (h2 : i.toInt < (m 219 1).toInt) => ?_) (fun (h2 : (m 219 1).toInt ≤ i.toInt) => ?_)
  · rw [if_pos (by omega)] at hQ
    have ei : i = Int32.ofNat i.toInt.toNat := (ev_ofNat_toNat h).symm
    obtain ⟨n, hn⟩ : ∃ n, i.toInt.toNat = n := ⟨_, rfl⟩
    rw [hn] at hQ ei
    have hnl : n < bl.length := by omega
    have hx := ev_isLb24 (r := n) (by omega)
    have hF := hB.2 n hnl
    have hmem : bl.getD n none ∈ bl := by
      rw [List.getD_eq_getElem?_getD, List.getElem?_eq_getElem hnl]
      exact List.getElem_mem hnl
    refine ev_gK A hp [] 4 ?_
    refine And.intro (ev_iin ei (by omega) (by decide)) ?_
    show ev_J w ev_m74 (ev_nd 74) Q 20 [ev_vr 219, ev_vi i, ev_vi k, none] [.ref (221 + 2 * i.toNatClampNeg)] m t
    rw [ev_at ei (by omega)]
    refine ev_gK A hp [39] 20 ?_
    refine ev_S4 A hx ?_
    cases hb : bl.getD n none with
    | none =>
      rw [hb] at hF hQ
      have hF2 : (m (221 + 2 * n) 1).toInt = -1 := hF
      rw [if_pos hF2]
      refine And.intro (fun h3 => absurd (h3 : (1 : Int32).toInt = 0) ev_ne10) (fun _ => ?_)
      refine And.intro (fun (h3 : ¬ k.toInt = 0) => ?_) (fun (h3 : k.toInt = 0) => ?_)
      · simp only [if_neg h3] at hQ
        exact hQ
      · simp only [if_pos h3] at hQ
        exact hQ
    | some l =>
      rw [hb] at hF hQ hmem
      have hL : ab_L m (221 + 2 * n) l := hF
      have hL1 := hL.1
      obtain ⟨l12, laz⟩ := hok.2 l hmem
      rw [if_neg (by omega)]
      refine And.intro (fun _ => ?_) (fun h3 => absurd ev_eq00 h3)
      show ev_J w ev_m74 (ev_nd 74) Q 39 [ev_vr 219, ev_vi i, ev_vi k, ev_vr (221 + 2 * n)] [] m t
      refine ev_gK A hp [] 20 ?_
      refine And.intro (fun (h3 : k.toInt < 0) => ?_) (fun (h3 : 0 ≤ k.toInt) => ?_)
      · simp only [if_neg (show ¬ (0 ≤ k.toInt ∧ k.toInt < (l.length : Int)) by omega)] at hQ
        exact hQ
      refine ev_S5 A hx ?_
      refine And.intro (fun (h4 : (m (221 + 2 * n) 1).toInt ≤ k.toInt) => ?_) (fun (h4 : k.toInt < (m (221 + 2 * n) 1).toInt) => ?_)
      · simp only [if_neg (show ¬ (0 ≤ k.toInt ∧ k.toInt < (l.length : Int)) by omega)] at hQ
        exact hQ
      · simp only [if_pos (show (0 ≤ k.toInt ∧ k.toInt < (l.length : Int)) by omega)] at hQ
        have hv : m (221 + 2 * n + 1) k.toNatClampNeg = l.getD k.toInt.toNat 0 := by
          have h5 := hL.2 k.toInt.toNat (by omega)
          rw [Nat.zero_add] at h5
          exact h5
        have haz := laz _ (ab_getD_mem (l := l) (k := k.toInt.toNat) (by omega))
        refine ev_S6 A hx ⟨h3, by omega⟩ (by rw [hv]; exact ab_c16_ch ⟨by omega, by omega⟩) ?_
        rw [hv]
        exact hQ
  · rw [if_neg (by omega)] at hQ
    exact hQ
end EvReader4
