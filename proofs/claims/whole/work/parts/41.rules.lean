/-! the class's rules -/
section EvRules
variable {w : ev_W} {Q : ev_QT} {m : ev_Mem} {t : ev_H}
def ev_isLb (x c : Nat) : Bool := match ev_shs[x]?, ev_shs[x + 1]? with
  | some (.inr (.inr (0, [some y, none]))), some (.inl (1, c')) => Nat.beq y (x + 1) && Nat.beq c' c
  | _, _ => false
theorem ev_isLb_of {x c : Nat} (h : ev_isLb x c = true) : ev_isL x c := by
  unfold ev_isLb at h
  split at h
  · rename_i y c' h1 h2
    simp only [Bool.and_eq_true] at h
    rw [Nat.eq_of_beq_eq_true h.1] at h1
    rw [Nat.eq_of_beq_eq_true h.2] at h2
    exact ⟨h1, h2⟩
  · cases h
theorem ev_isL_all (f : Nat → Nat) (c n : Nat) (h : (List.range n).all (fun r => ev_isLb (f r) c) = true) {r : Nat} (hr : r < n) : ev_isL (f r) c := ev_isLb_of (List.all_eq_true.mp h r (List.mem_range.mpr hr))
theorem ev_isLl {r : Nat} (h : r < 8) : ev_isL (8 + 4 * r) 3 := ev_isL_all (fun r => 8 + 4 * r) 3 8 (by decide +kernel) h
theorem ev_isLr {r : Nat} (h : r < 8) : ev_isL (10 + 4 * r) 2 := ev_isL_all (fun r => 10 + 4 * r) 2 8 (by decide +kernel) h
theorem ev_isLs {r : Nat} (h : r < 40) : ev_isL (43 + 4 * r) 6 := ev_isL_all (fun r => 43 + 4 * r) 6 40 (by decide +kernel) h
theorem ev_isLf {r : Nat} (h : r < 40) : ev_isL (45 + 4 * r) 12 := ev_isL_all (fun r => 45 + 4 * r) 12 40 (by decide +kernel) h
theorem ev_isLb24 {r : Nat} (h : r < 24) : ev_isL (221 + 2 * r) 12 := ev_isL_all (fun r => 221 + 2 * r) 12 24 (by decide +kernel) h
theorem ev_isLd : ev_isL 1 8 := ev_isLb_of (by decide +kernel)
theorem ev_isLe : ev_isL 3 16 := ev_isLb_of (by decide +kernel)
def ab_RC (m : ev_Mem) (rs : List (ab_Ls × ab_Ls)) : Prop := (m 5 2).toInt = (rs.length : Int) ∧ rs.length ≤ 8 ∧ ∀ r, r < rs.length → ab_L m (8 + 4 * r) (rs.getD r ([], [])).1 ∧ ab_L m (10 + 4 * r) (rs.getD r ([], [])).2
/-- rules as they may be -/
def ab_Rok (rs : List (ab_Ls × ab_Ls)) : Prop := ∀ q ∈ rs, 1 ≤ q.1.length ∧ q.1.length ≤ 3 ∧ q.2.length ≤ 2 ∧ ab_az q.1 ∧ ab_az q.2
theorem ab_Rok_at {rs : List (ab_Ls × ab_Ls)} (h : ab_Rok rs) {r : Nat} (hr : r < rs.length) : 1 ≤ (rs.getD r ([], [])).1.length ∧ (rs.getD r ([], [])).1.length ≤ 3 ∧ (rs.getD r ([], [])).2.length ≤ 2 ∧ ab_az (rs.getD r ([], [])).1 ∧ ab_az (rs.getD r ([], [])).2 := by
  rw [List.getD_eq_getElem?_getD, List.getElem?_eq_getElem hr]
  exact h _ (List.getElem_mem hr)
theorem ab_take_succ {α : Type} {l : List α} {d : α} {k : Nat} (h : k < l.length) : l.take (k + 1) = l.take k ++ [l.getD k d] := by
  rw [List.take_succ, List.getElem?_eq_getElem h, List.getD_eq_getElem?_getD, List.getElem?_eq_getElem h]
  rfl
theorem ab_pk_len (l : ab_Ls) (f : Nat) : ∀ (rs : List (ab_Ls × ab_Ls)) (r : Nat) (s : Option Nat × Nat), (∀ q ∈ rs, q.1.length ≤ 3) → s.2 ≤ 3 → (ab_pk l f rs r s).2 ≤ 3
  | [], _, s, _, hs => hs
  | q :: rs, r, s, hq, hs => ab_pk_len l f rs (r + 1) _ (fun p hp => hq p (List.mem_cons_of_mem _ hp)) (by split; exact hq q List.mem_cons_self; exact hs)
/-- ruleFor -/
theorem ev_S16 {y e : Nat} {f : Int32} {rs : List (ab_Ls × ab_Ls)} {l : ab_Ls} (A : ev_all w) (hR : ab_RC m rs) (hok : ab_Rok rs) (hy : ev_isL y e) (he : e < 10000) (hl : ab_L m y l) (hle : l.length ≤ e) (hf : 0 ≤ f.toInt) (hf2 : f.toInt < 10000)
    (hQ : Q (.inl (some (.int (ab_oi (ab_pick rs l f.toInt.toNat))))) m t) : ev_K w 16 [.ref 5, .ref y, .int f] m t Q := by
  have hp : ev_prog[16]? = some ev_m16 := rfl
  obtain ⟨hR1, hR2, hR3⟩ := hR
  have loop : ∀ (n k : Nat) (s : Option Nat × Nat), k + n = rs.length → s = ab_pk l f.toInt.toNat (rs.take k) 0 (none, 0) → ev_J w ev_m16 (ev_nd 16) Q 8 [some (.ref 5), some (.ref y), some (.int f), some (.int (ab_oi s.1)), some (.int (Int32.ofNat s.2)), some (.int (Int32.ofNat k))] [] m t := by
    intro n
    induction n with
    | zero =>
      intro k s hk hs
      have ek : (Int32.ofNat k).toInt = (k : Int) := ev_ofNat_i (by omega)
      refine ev_gK A hp [] 10 ?_
      refine And.intro (fun h => ?_) (fun h => ?_)
      · rw [List.take_of_length_le (by omega)] at hs
        have e1 : ab_pick rs l f.toInt.toNat = s.1 := by rw [hs]; rfl
        rw [e1] at hQ
        exact hQ
      · have h2 : (Int32.ofNat k).toInt < (m 5 2).toInt := h
        omega
    | succ n ih =>
      intro k s hk hs
      have ek : (Int32.ofNat k).toInt = (k : Int) := ev_ofNat_i (by omega)
      have nk : (Int32.ofNat k).toNatClampNeg = k := by rw [ev_nat, ek]; omega
      have hin : ev_in (Int32.ofNat k) 8 := ⟨by omega, by omega⟩
      obtain ⟨hL, -⟩ := hR3 k (by omega)
      obtain ⟨o1, o2, -, o4, -⟩ := ab_Rok_at hok (r := k) (by omega)
      have hs3 : s.2 ≤ 3 := by
        rw [hs]
        exact ab_pk_len _ _ _ _ _ (fun q hq => (hok q (List.mem_of_mem_take hq)).2.1) (by decide)
      have es : (Int32.ofNat s.2).toInt = (s.2 : Int) := ev_ofNat_i (by omega)
      have hx : ev_isL (8 + 4 * k) 3 := ev_isLl (by omega)
      have hnext : ∀ s' : Option Nat × Nat, s' = (if s.2 < (rs.getD k ([], [])).1.length ∧ (rs.getD k ([], [])).1.isPrefixOf (l.drop f.toInt.toNat) = true then (some k, (rs.getD k ([], [])).1.length) else s) → s' = ab_pk l f.toInt.toNat (rs.take (k + 1)) 0 (none, 0) := by
        intro s' hs'
        rw [ab_take_succ (d := ([], [])) (by omega), ab_pk_app, ← hs, hs', List.length_take]
        rw [Nat.min_eq_left (by omega), Nat.zero_add]
      refine ev_gK A hp [8] 40 ?_
      refine And.intro (fun h => ?_) (fun h => ?_)
      · have h2 : (m 5 2).toInt ≤ (Int32.ofNat k).toInt := h
        omega
      refine And.intro hin ?_
      show ev_K w 5 [.ref (8 + 4 * (Int32.ofNat k).toNatClampNeg)] m t _
      rw [nk]
      refine ev_S5 A hx ?_
      refine And.intro (fun h => ?_) (fun h => ?_)
      · have h2 : (m (8 + 4 * k) 1).toInt ≤ (Int32.ofNat s.2).toInt := h
        show ev_J w ev_m16 (ev_nd 16) Q 8 [some (.ref 5), some (.ref y), some (.int f), some (.int (ab_oi s.1)), some (.int (Int32.ofNat s.2)), some (.int (Int32.ofNat k + 1))] [] m t
        rw [ev_succ (by omega)]
        have hL1 := hL.1
        exact ih (k + 1) s (by omega) (hnext s (by rw [if_neg (by omega)]))
      · have h2 : (Int32.ofNat s.2).toInt < (m (8 + 4 * k) 1).toInt := h
        have hL1 := hL.1
        have hl1 := hl.1
        refine And.intro hin ?_
        show ev_K w 8 [.ref (8 + 4 * (Int32.ofNat k).toNatClampNeg), .ref y, .int f] m t _
        rw [nk]
        have hst := ab_std hL hl f.toInt.toNat
        have ef : ((f.toInt.toNat : Nat) : Int) = f.toInt := by omega
        rw [ef] at hst
        refine ev_S8 A hx hy (by decide) he hf hf2 (by omega) (by omega) (by omega) (fun q => ?_) (fun q => ?_)
        · refine And.intro (fun h => (ev_ne10 h).elim) (fun h => ?_)
          refine And.intro hin ?_
          show ev_K w 5 [.ref (8 + 4 * (Int32.ofNat k).toNatClampNeg)] m t _
          rw [nk]
          refine ev_S5 A hx ?_
          show ev_J w ev_m16 (ev_nd 16) Q 8 [some (.ref 5), some (.ref y), some (.int f), some (.int (Int32.ofNat k)), some (.int (m (8 + 4 * k) 1)), some (.int (Int32.ofNat k + 1))] [] m t
          have e2 : m (8 + 4 * k) 1 = Int32.ofNat (rs.getD k ([], [])).1.length := by
            apply ev_eq_of
            rw [hL1, ev_ofNat_i (by omega)]
          rw [ev_succ (by omega), e2]
          refine ih (k + 1) (some k, (rs.getD k ([], [])).1.length) (by omega) (hnext _ ?_)
          rw [if_pos]
          refine ⟨by omega, ?_⟩
          rcases hst.mp q with z | z
          · omega
          · exact z.2
        · refine And.intro (fun h => ?_) (fun h => absurd ev_eq00 h)
          show ev_J w ev_m16 (ev_nd 16) Q 8 [some (.ref 5), some (.ref y), some (.int f), some (.int (ab_oi s.1)), some (.int (Int32.ofNat s.2)), some (.int (Int32.ofNat k + 1))] [] m t
          rw [ev_succ (by omega)]
          refine ih (k + 1) s (by omega) (hnext s ?_)
          rw [if_neg]
          rintro ⟨z1, z2⟩
          exact q (hst.mpr (Or.inr ⟨by omega, z2⟩))
  refine ⟨Or.inr ⟨5, _, rfl, rfl⟩, ev_m16, rfl, ev_gK A hp [8] 10 ?_⟩
  exact loop rs.length 0 (none, 0) (by omega) rfl
end EvRules
