/-! the class's rules: the form -/
section EvBring
variable {w : ev_W} {Q : ev_QT} {m : ev_Mem} {t : ev_H}
theorem ab_getD_app1 {l r : ab_Ls} {k : Nat} (h : k < l.length) : (l ++ r).getD k 0 = l.getD k 0 := by
  rw [List.getD_eq_getElem?_getD, List.getD_eq_getElem?_getD, List.getElem?_append_left h]
theorem ab_getD_app2 {l r : ab_Ls} (i : Nat) : (l ++ r).getD (l.length + i) 0 = r.getD i 0 := by
  rw [List.getD_eq_getElem?_getD, List.getD_eq_getElem?_getD, List.getElem?_append_right (by omega), Nat.add_sub_cancel_left]
theorem ab_L_app {m m' : ev_Mem} {z : Nat} {acc r : ab_Ls} (h : ab_L m z acc) (h1 : (m' z 1).toInt = (m z 1).toInt + (r.length : Int)) (h2 : ∀ k : Nat, (k : Int) < (m z 1).toInt → m' (z + 1) k = m (z + 1) k) (h3 : ∀ i : Nat, i < r.length → m' (z + 1) ((m z 1).toInt.toNat + i) = r.getD i 0) : ab_L m' z (acc ++ r) := by
  have hl := h.1
  refine ⟨by rw [h1, List.length_append]; omega, fun k hk => ?_⟩
  rw [List.length_append] at hk
  rw [Nat.zero_add]
  by_cases hka : k < acc.length
  · rw [ab_getD_app1 hka, h2 k (by omega)]
    have h4 := h.2 k hka
    rwa [Nat.zero_add] at h4
  · have e1 : k = acc.length + (k - acc.length) := by omega
    have e2 : (m z 1).toInt.toNat = acc.length := by omega
    have h4 := h3 (k - acc.length) (by omega)
    rw [e2, ← e1] at h4
    rw [h4, e1, ab_getD_app2]
    congr 1
    omega
def ab_fr (z : Nat) (m m' : ev_Mem) : Prop := ∀ k j, k ≠ z → k ≠ z + 1 → m' k j = m k j
theorem ab_L_fr {m m' : ev_Mem} {z x : Nat} {l : ab_Ls} (hf : ab_fr z m m') (h1 : x ≠ z) (h2 : x ≠ z + 1) (h3 : x + 1 ≠ z) (h : ab_L m x l) : ab_L m' x l := by
  refine ⟨by rw [hf x 1 h1 h2]; exact h.1, fun k hk => ?_⟩
  rw [hf (x + 1) _ h3 (by omega)]
  exact h.2 k hk
theorem ab_RC_fr {m m' : ev_Mem} {z : Nat} {rs : List (ab_Ls × ab_Ls)} (hf : ab_fr z m m') (hz : z = 3 ∨ 40 ≤ z) (h : ab_RC m rs) : ab_RC m' rs := by
  obtain ⟨h1, h2, h3⟩ := h
  refine ⟨by rw [hf 5 2 (by omega) (by omega)]; exact h1, h2, fun r hr => ?_⟩
  obtain ⟨a, b⟩ := h3 r hr
  exact ⟨ab_L_fr hf (by omega) (by omega) (by omega) a, ab_L_fr hf (by omega) (by omega) (by omega) b⟩
theorem ab_pk_lt (l : ab_Ls) (f : Nat) : ∀ (rs : List (ab_Ls × ab_Ls)) (r : Nat) (s : Option Nat × Nat) (n : Nat), r + rs.length ≤ n → (∀ k, s.1 = some k → k < n) → ∀ k, (ab_pk l f rs r s).1 = some k → k < n
  | [], _, s, n, _, hs => hs
  | q :: rs, r, s, n, hn, hs => by
    rw [List.length_cons] at hn
    refine ab_pk_lt l f rs (r + 1) _ n (by omega) (fun k hk => ?_)
    split at hk
    · cases hk; omega
    · exact hs k hk
theorem ab_pick_lt {rs : List (ab_Ls × ab_Ls)} {l : ab_Ls} {f r : Nat} (h : ab_pick rs l f = some r) : r < rs.length :=
  ab_pk_lt l f rs 0 (none, 0) rs.length (by omega) (fun k hk => by cases hk) r h
theorem ab_br_end {rs : List (ab_Ls × ab_Ls)} {l : ab_Ls} {n f : Nat} (h : n = 0 ∨ l.length ≤ f) : ab_br rs l n f = [] := by
  cases n with
  | zero => rfl
  | succ n => rw [ab_br, if_neg (by omega)]
/-- bring -/
theorem ev_S15 {y z e c : Nat} {rs : List (ab_Ls × ab_Ls)} {l : ab_Ls} (A : ev_all w) (hR : ab_RC m rs) (hok : ab_Rok rs) (hy : ev_isL y e) (hz : ev_isL z c) (hyz : y ≠ z) (hz2 : z = 3 ∨ 40 ≤ z) (he : e < 5000) (hc : c < 5000) (hl : ab_L m y l) (haz : ab_az l) (hle : l.length ≤ e) (hlc : 2 * l.length ≤ c)
    (hQ : ∀ m', ab_F m' z (if l = [] then none else some (ab_form rs l)) → ab_fr z m m' → Q (.inl none) m' t) : ev_K w 15 [.ref 5, .ref y, .ref z] m t Q := by
  have hp : ev_prog[15]? = some ev_m15 := rfl
  have d1 := ev_isL_ne hz hy
  have d2 := ev_isL_ne hy hz
  have hyk : ∀ mk, ab_fr z m mk → ab_L mk y l := fun mk hf => ab_L_fr hf hyz d1 (by omega) hl
  have fin : ∀ (mk : ev_Mem) (o3 o4 o5 : Option Value), ab_fr z m mk → ab_L mk z (ab_form rs l) → ev_J w ev_m15 (ev_nd 15) Q 97 [some (.ref 5), some (.ref y), some (.ref z), o3, o4, o5] [] mk t := by
    intro mk o3 o4 o5 hf hL
    have hy1 := (hyk mk hf).1
    refine ev_gK A hp [] 10 ?_
    refine ev_S5 A hy ?_
    refine And.intro (fun h => ?_) (fun h => ?_)
    · have h2 : ¬ (mk y 1).toInt = 0 := h
      refine hQ mk ?_ hf
      rw [if_neg (fun q => h2 (by rw [hy1, q]; rfl))]
      exact hL
    · have h2 : (mk y 1).toInt = 0 := h
      refine ev_S11 A hz ?_
      refine hQ _ ?_ (fun k j h1 h2 => by rw [ev_up_cell _ h1]; exact hf k j h1 h2)
      have hl0 : l = [] := by
        cases l with
        | nil => rfl
        | cons a l => rw [hy1, List.length_cons] at h2; omega
      rw [if_pos hl0]
      show (ev_up mk z 1 (-1) z 1).toInt = -1
      rw [ev_up_same]; decide
  have loop : ∀ (n k f : Nat) (mk : ev_Mem) (acc : ab_Ls) (o5 : Option Value), k + n = l.length → k ≤ f → f ≤ 3 * k → ab_fr z m mk → ab_L mk z acc → acc.length ≤ 2 * k → acc ++ ab_br rs l n f = ab_form rs l →
      ev_J w ev_m15 (ev_nd 15) Q 10 [some (.ref 5), some (.ref y), some (.ref z), some (.int (Int32.ofNat f)), some (.int (Int32.ofNat k)), o5] [] mk t := by
    intro n
    induction n with
    | zero =>
      intro k f mk acc o5 hk hkf hf3 hf hL hac hacc
      have ek : (Int32.ofNat k).toInt = (k : Int) := ev_ofNat_i (by omega)
      have hy1 := (hyk mk hf).1
      refine ev_gK A hp [97] 10 ?_
      refine ev_S5 A hy ?_
      refine And.intro (fun h => ?_) (fun h => ?_)
      · rw [ab_br_end (Or.inl rfl), List.append_nil] at hacc
        rw [hacc] at hL
        exact fin mk _ _ _ hf hL
      · have h2 : (Int32.ofNat k).toInt < (mk y 1).toInt := h
        omega
    | succ n ih =>
      intro k f mk acc o5 hk hkf hf3 hf hL hac hacc
      have ek : (Int32.ofNat k).toInt = (k : Int) := ev_ofNat_i (by omega)
      have ef : (Int32.ofNat f).toInt = (f : Int) := ev_ofNat_i (by omega)
      have nf : (Int32.ofNat f).toNatClampNeg = f := by rw [ev_nat, ef]; omega
      have hy0 := hyk mk hf
      have hy1 := hy0.1
      have hL1 := hL.1
      refine ev_gK A hp [97, 27] 20 ?_
      refine ev_S5 A hy ?_
      refine And.intro (fun h => ?_) (fun h => ?_)
      · have h2 : (mk y 1).toInt ≤ (Int32.ofNat k).toInt := h
        omega
      refine ev_S5 A hy ?_
      refine And.intro (fun h => ?_) (fun h => ?_)
      · have h2 : (mk y 1).toInt ≤ (Int32.ofNat f).toInt := h
        rw [ab_br_end (Or.inr (by omega)), List.append_nil] at hacc
        rw [hacc] at hL
        exact fin mk _ _ _ hf hL
      · have h2 : (Int32.ofNat f).toInt < (mk y 1).toInt := h
        have hfl : f < l.length := by omega
        rw [ab_br, if_pos hfl] at hacc
        show ev_J w ev_m15 (ev_nd 15) Q 27 [some (.ref 5), some (.ref y), some (.ref z), some (.int (Int32.ofNat f)), some (.int (Int32.ofNat k)), o5] [] mk t
        refine ev_gK A hp [10, 35] 40 ?_
        show ev_K w 16 [.ref 5, .ref y, .int (Int32.ofNat f)] mk t _
        refine ev_S16 A (ab_RC_fr hf hz2 hR) hok hy (by omega) hy0 hle (by omega) (by omega) ?_
        rw [ef, Int.toNat_natCast]
        show ev_J w ev_m15 (ev_nd 15) Q 35 [some (.ref 5), some (.ref y), some (.ref z), some (.int (Int32.ofNat f)), some (.int (Int32.ofNat k)), some (.int (ab_oi (ab_pick rs l f)))] [] mk t
        cases hpk : ab_pick rs l f with
        | none =>
          rw [hpk] at hacc
          dsimp only at hacc
          have em : ((-1 : Int32).toInt) = -1 := by decide
          refine ev_gK A hp [10] 40 ?_
          refine And.intro (fun h => absurd rfl (h : ¬ (-1 : Int32).toInt = (-1 : Int32).toInt)) (fun h => ?_)
          have hv : mk (y + 1) f = l.getD f 0 := by have h5 := hy0.2 f hfl; rwa [Nat.zero_add] at h5
          have hch : ev_ch (l.getD f 0) := ab_ch haz (ab_getD_mem hfl)
          show ev_K w 6 [.ref y, .int (Int32.ofNat f)] mk t _
          refine ev_S6 A hy ⟨by omega, by omega⟩ (by rw [nf, hv]; exact hch) ?_
          rw [nf, hv]
          show ev_K w 9 [.ref z, .int (l.getD f 0)] mk t _
          refine ev_S9 A hz (by omega) ?_
          show ev_J w ev_m15 (ev_nd 15) Q 10 [some (.ref 5), some (.ref y), some (.ref z), some (.int (Int32.ofNat f + 1)), some (.int (Int32.ofNat k + 1)), some (.int (-1))] [] (ev_addL mk z c (l.getD f 0)) t
          rw [ev_succ (by omega), ev_succ (by omega), ev_addL, if_pos (by omega), ev_ch_nar hch]
          have e1 : (1 : Int32).toInt = 1 := by decide
          have e2 : (mk z 1 + 1).toInt = (mk z 1).toInt + 1 := by rw [ev_add_i (by omega) (by omega), e1]
          refine ih (k + 1) (f + 1) _ (acc ++ [l.getD f 0]) _ (by omega) (by omega) (by omega) ?_ ?_ ?_ ?_
          · intro k' j q1 q2
            rw [ev_up_cell _ q1, ev_up_cell _ q2]
            exact hf k' j q1 q2
          · refine ab_L_app hL ?_ ?_ ?_
            · rw [ev_up_same, e2]; rfl
            · intro j hj
              rw [ev_up_cell _ (by omega), ev_up_idx _ _ (by rw [ev_nat]; omega)]
            · intro j hj
              have hj0 : j = 0 := by rw [List.length_singleton] at hj; omega
              subst hj0
              rw [ev_up_cell _ (by omega)]
              exact ev_up_same _ _ _ _
          · rw [List.length_append, List.length_singleton]; omega
          · rw [List.append_assoc]; exact hacc
        | some r =>
          rw [hpk] at hacc
          dsimp only at hacc
          have hr := ab_pick_lt hpk
          have hR8 := hR.2.1
          have er : (Int32.ofNat r).toInt = (r : Int) := ev_ofNat_i (by omega)
          have nr : (Int32.ofNat r).toNatClampNeg = r := by rw [ev_nat, er]; omega
          have hin : ev_in (Int32.ofNat r) 8 := ⟨by omega, by omega⟩
          obtain ⟨rl, rr⟩ := (ab_RC_fr hf hz2 hR).2.2 r hr
          obtain ⟨o1, o2, o3, o4, o5'⟩ := ab_Rok_at hok hr
          have hxr : ev_isL (10 + 4 * r) 2 := ev_isLr (by omega)
          have hxl : ev_isL (8 + 4 * r) 3 := ev_isLl (by omega)
          refine ev_gK A hp [10, 78] 40 ?_
          refine And.intro (fun h => ?_) (fun h => ?_)
          · refine And.intro hin ?_
            refine And.intro hin ?_
            show ev_K w 5 [.ref (10 + 4 * (Int32.ofNat r).toNatClampNeg)] mk t _
            rw [nr]
            refine ev_S5 A hxr ?_
            show ev_K w 10 [.ref z, .ref (10 + 4 * (Int32.ofNat r).toNatClampNeg), .int 0, .int (mk (10 + 4 * r) 1)] mk t _
            rw [nr]
            have rr1 := rr.1
            have e0 : ((0 : Int32).toInt) = 0 := by decide
            refine ev_S10 A hz hxr (by omega) (by omega) (by omega) (by decide) (by rw [e0]; omega) (by omega) (by omega) (by rw [e0]; omega) (fun k' _ hk' => ?_) (fun m' q1 q2 q3 q4 => ?_)
            · have h6 := ab_row_ch rr.2 o5' (k := k') (by omega)
              rwa [Nat.zero_add] at h6
            show ev_J w ev_m15 (ev_nd 15) Q 78 [some (.ref 5), some (.ref y), some (.ref z), some (.int (Int32.ofNat f)), some (.int (Int32.ofNat k)), some (.int (Int32.ofNat r))] [] m' t
            have hf' : ab_fr z m m' := fun k' j z1 z2 => (q4 k' j z1 z2).trans (hf k' j z1 z2)
            obtain ⟨rl', -⟩ := (ab_RC_fr hf' hz2 hR).2.2 r hr
            refine ev_gK A hp [10] 40 ?_
            refine And.intro hin ?_
            show ev_K w 5 [.ref (8 + 4 * (Int32.ofNat r).toNatClampNeg)] m' t _
            rw [nr]
            refine ev_S5 A hxl ?_
            show ev_J w ev_m15 (ev_nd 15) Q 10 [some (.ref 5), some (.ref y), some (.ref z), some (.int (Int32.ofNat f + m' (8 + 4 * r) 1)), some (.int (Int32.ofNat k + 1)), some (.int (Int32.ofNat r))] [] m' t
            have rl1 := rl'.1
            have e2 : Int32.ofNat f + m' (8 + 4 * r) 1 = Int32.ofNat (f + (rs.getD r ([], [])).1.length) := by
              apply ev_eq_of
              rw [ev_add_i (by omega) (by omega), ef, rl1, ev_ofNat_i (by omega)]
              omega
            rw [ev_succ (by omega), e2]
            refine ih (k + 1) _ m' (acc ++ (rs.getD r ([], [])).2) _ (by omega) (by omega) (by omega) hf' ?_ (by rw [List.length_append]; omega) (by rw [List.append_assoc]; exact hacc)
            refine ab_L_app hL (by rw [q1, e0]; omega) q2 (fun i hi => ?_)
            have h7 := q3 i (by rw [e0]; omega)
            rw [e0] at h7
            rw [h7]
            have h8 := rr.2 i hi
            rw [Nat.zero_add] at h8
            simpa using h8
          · have h9 : (Int32.ofNat r).toInt = (-1 : Int32).toInt := h
            have em : ((-1 : Int32).toInt) = -1 := by decide
            omega
  refine ⟨Or.inr ⟨5, _, rfl, rfl⟩, ev_m15, rfl, ev_gK A hp [10] 20 ?_⟩
  show ev_K w 7 [.ref z, .int 0] m t _
  refine ev_S7 A hz ?_
  show ev_J w ev_m15 (ev_nd 15) Q 10 [some (.ref 5), some (.ref y), some (.ref z), some (.int 0), some (.int 0), none] [] (ev_up m z 1 0) t
  refine loop l.length 0 0 _ [] _ (by omega) (by omega) (by omega) (fun k j h1 h2 => ev_up_cell _ h1 _ _ _) ⟨by rw [ev_up_same]; decide, fun k hk => by cases hk⟩ (by simp) ?_
  rfl
end EvBring
