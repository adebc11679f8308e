/-! the class's words: marking them all -/
section EvMarkAll
variable {w : ev_W} {Q : ev_QT} {m : ev_Mem} {t : ev_H}
def ab_PC (m : ev_Mem) (ps : List (Nat × Nat)) : Prop := (m 40 7).toInt = (ps.length : Int) ∧ ps.length ≤ 6 ∧ ∀ e, e < ps.length → m 206 e = Int32.ofNat (ps.getD e (0, 0)).1 ∧ m 207 e = Int32.ofNat (ps.getD e (0, 0)).2 ∧ (ps.getD e (0, 0)).1 < 40 ∧ (ps.getD e (0, 0)).2 < 40
def ab_mk0 (m : ev_Mem) (fo : Nat → Option ab_Ls) (n : Nat) : ev_Mem := fun k j => if (k = 204 ∨ k = 205) ∧ j < n ∧ ab_th m j = true then ab_oi ((List.range 40).find? (ab_fa m fo (fo j))) else m k j
def ab_mes (ps : List (Nat × Nat)) (m : ev_Mem) : ev_Mem := ps.foldl (fun m q => ab_me m q.1 q.2 40) m
theorem ab_th_cong {m m' : ev_Mem} (h : ∀ j, m' 203 j = m 203 j) (x : Nat) : ab_th m' x = ab_th m x := by
  unfold ab_th
  rw [h]
theorem ab_F_cong {m m' : ev_Mem} {x : Nat} {o : Option ab_Ls} (h : ∀ j, m' x j = m x j) (h2 : ∀ j, m' (x + 1) j = m (x + 1) j) (hF : ab_F m x o) : ab_F m' x o := by
  cases o with
  | none =>
    show (m' x 1).toInt = -1
    rw [h]; exact hF
  | some l =>
    have hL : ab_L m x l := hF
    refine ⟨by rw [h]; exact hL.1, fun k hk => ?_⟩
    rw [h2]; exact hL.2 k hk
theorem ab_mk0_ne (m : ev_Mem) (fo : Nat → Option ab_Ls) (n : Nat) {k : Nat} (h1 : k ≠ 204) (h2 : k ≠ 205) (j : Nat) : ab_mk0 m fo n k j = m k j := if_neg (fun q => by omega)
theorem ab_me_ne (m : ev_Mem) (a b n : Nat) {k : Nat} (h : k ≠ 205) (j : Nat) : ab_me m a b n k j = m k j := if_neg (fun q => h q.1)
theorem ab_mes_ne (ps : List (Nat × Nat)) : ∀ (m : ev_Mem) {k : Nat} (_ : k ≠ 205) (j : Nat), ab_mes ps m k j = m k j := by
  induction ps with
  | nil => intro m k h j; rfl
  | cons q ps ih =>
    intro m k h j
    show ab_mes ps (ab_me m q.1 q.2 40) k j = m k j
    rw [ih _ h, ab_me_ne _ _ _ _ h]
theorem ab_PC_cong {m m' : ev_Mem} {ps : List (Nat × Nat)} (h : ∀ k j, k = 40 ∨ k = 206 ∨ k = 207 → m' k j = m k j) (hP : ab_PC m ps) : ab_PC m' ps := by
  obtain ⟨h1, h2, h3⟩ := hP
  refine ⟨by rw [h 40 7 (by omega)]; exact h1, h2, fun e he => ?_⟩
  rw [h 206 e (by omega), h 207 e (by omega)]
  exact h3 e he
/-- Words.markAll -/
theorem ev_S28 {fo : Nat → Option ab_Ls} {ps : List (Nat × Nat)} (A : ev_all w) (hfo : ab_FO m fo) (hP : ab_PC m ps) (hQ : Q (.inl none) (ab_mes ps (ab_mk0 m fo 40)) t) : ev_K w 28 [.ref 40] m t Q := by
  have hp : ev_prog[28]? = some ev_m28 := rfl
  have e40 : ((Int8.ofInt 40).toInt32).toInt = 40 := by decide
  have loop2 : ∀ (n k : Nat), k + n = ps.length → ev_J w ev_m28 (ev_nd 28) Q 52 [some (.ref 40), some (.int (Int32.ofNat k))] [] (ab_mes (ps.take k) (ab_mk0 m fo 40)) t := by
    intro n
    induction n with
    | zero =>
      intro k hk
      have hPk : ab_PC (ab_mes (ps.take k) (ab_mk0 m fo 40)) ps := ab_PC_cong (fun k' j hk' => by rw [ab_mes_ne _ _ (by omega), ab_mk0_ne _ _ _ (by omega) (by omega)]) hP
      have h6 := hP.2.1
      have hk1 := hPk.1
      have ek := ev_ofNat_i (n := k) (by omega)
      refine ev_gK A hp [] 10 ?_
      refine And.intro (fun h => ?_) (fun h => ?_)
      · rw [List.take_of_length_le (by omega)]
        exact hQ
      · have h2 : (Int32.ofNat k).toInt < (ab_mes (ps.take k) (ab_mk0 m fo 40) 40 7).toInt := h
        omega
    | succ n ih =>
      intro k hk
      have hPk : ab_PC (ab_mes (ps.take k) (ab_mk0 m fo 40)) ps := ab_PC_cong (fun k' j hk' => by rw [ab_mes_ne _ _ (by omega), ab_mk0_ne _ _ _ (by omega) (by omega)]) hP
      have h6 := hP.2.1
      have hk1 := hPk.1
      have ek := ev_ofNat_i (n := k) (by omega)
      obtain ⟨p1, p2, p3, p4⟩ := hPk.2.2 k (by omega)
      refine ev_gK A hp [52] 20 ?_
      refine And.intro (fun h => ?_) (fun h => ?_)
      · have h2 : (ab_mes (ps.take k) (ab_mk0 m fo 40) 40 7).toInt ≤ (Int32.ofNat k).toInt := h
        omega
      refine And.intro (ev_oin (by omega) (by decide)) ?_
      refine And.intro (ev_oin (by omega) (by decide)) ?_
      show ev_K w 29 [.ref 40, .int (ab_mes (ps.take k) (ab_mk0 m fo 40) 206 (Int32.ofNat k).toNatClampNeg), .int (ab_mes (ps.take k) (ab_mk0 m fo 40) 207 (Int32.ofNat k).toNatClampNeg)] (ab_mes (ps.take k) (ab_mk0 m fo 40)) t _
      rw [ev_on (by omega), p1, p2]
      refine ev_S29 A p3 p4 ?_
      show ev_J w ev_m28 (ev_nd 28) Q 52 [some (.ref 40), some (.int (Int32.ofNat k + 1))] [] (ab_me (ab_mes (ps.take k) (ab_mk0 m fo 40)) (ps.getD k (0, 0)).1 (ps.getD k (0, 0)).2 40) t
      have e1 : ab_me (ab_mes (ps.take k) (ab_mk0 m fo 40)) (ps.getD k (0, 0)).1 (ps.getD k (0, 0)).2 40 = ab_mes (ps.take (k + 1)) (ab_mk0 m fo 40) := by
        unfold ab_mes
        rw [ab_take_succ (d := (0, 0)) (by omega), List.foldl_append]
        rfl
      rw [e1, ev_succ (by omega)]
      exact ih (k + 1) (by omega)
  have loop1 : ∀ (n k : Nat), k + n = 40 → ev_J w ev_m28 (ev_nd 28) Q 2 [some (.ref 40), some (.int (Int32.ofNat k))] [] (ab_mk0 m fo k) t := by
    intro n
    induction n with
    | zero =>
      intro k hk
      have ek := ev_ofNat_i (n := k) (by omega)
      refine ev_gK A hp [52] 10 ?_
      refine And.intro (fun h => ?_) (fun h => ?_)
      · have hk40 : k = 40 := by omega
        rw [hk40]
        exact loop2 ps.length 0 (by omega)
      · have h2 : (Int32.ofNat k).toInt < ((Int8.ofInt 40).toInt32).toInt := h
        omega
    | succ n ih =>
      intro k hk
      have ek := ev_ofNat_i (n := k) (by omega)
      have hk40 : k < 40 := by omega
      have nk : (Int32.ofNat k).toNatClampNeg = k := ev_on (by omega)
      have hth : ∀ x, ab_th (ab_mk0 m fo k) x = ab_th m x := ab_th_cong (fun j => ab_mk0_ne m fo k (by decide) (by decide) j)
      have hfok : ab_FO (ab_mk0 m fo k) fo := by
        intro x hx hx2
        rw [hth] at hx2
        obtain ⟨a, b⟩ := hfo x hx hx2
        exact ⟨ab_F_cong (fun j => ab_mk0_ne _ _ _ (by omega) (by omega) j) (fun j => ab_mk0_ne _ _ _ (by omega) (by omega) j) a, b⟩
      have hfa : ab_fa (ab_mk0 m fo k) fo (fo k) = ab_fa m fo (fo k) := by
        funext x
        unfold ab_fa
        rw [hth]
      refine ev_gK A hp [2, 32] 20 ?_
      refine And.intro (fun h => ?_) (fun h => ?_)
      · have h2 : ((Int8.ofInt 40).toInt32).toInt ≤ (Int32.ofNat k).toInt := h
        omega
      refine ev_S24 A hk40 ?_
      rw [hth]
      refine And.intro (fun h => ?_) (fun h => ?_)
      · have hf := ab_bi_eq h
        show ev_J w ev_m28 (ev_nd 28) Q 2 [some (.ref 40), some (.int (Int32.ofNat k + 1))] [] (ab_mk0 m fo k) t
        have e1 : ab_mk0 m fo k = ab_mk0 m fo (k + 1) := by
          funext x j
          unfold ab_mk0
          by_cases hj : j = k
          · subst hj
            rw [if_neg (fun q => by rw [hf] at q; exact Bool.noConfusion q.2.2), if_neg (fun q => by rw [hf] at q; exact Bool.noConfusion q.2.2)]
          · by_cases hc : (x = 204 ∨ x = 205) ∧ j < k ∧ ab_th m j = true
            · rw [if_pos hc, if_pos ⟨hc.1, by omega, hc.2.2⟩]
            · rw [if_neg hc, if_neg (fun q => hc ⟨q.1, by omega, q.2.2⟩)]
        rw [e1, ev_succ (by omega)]
        exact ih (k + 1) (by omega)
      · have hf := ab_bi_neq h
        obtain ⟨hF, hF2⟩ := hfok k hk40 (by rw [hth]; exact hf)
        refine And.intro (ev_oin hk40 (by decide)) ?_
        show ev_K w 23 [.ref 40, .ref (45 + 4 * (Int32.ofNat k).toNatClampNeg)] (ab_mk0 m fo k) t _
        rw [nk]
        refine ev_S23 A hfok (ev_isLf hk40) (by decide) hF hF2 ?_
        rw [hfa]
        refine And.intro (ev_oin hk40 (by decide)) ?_
        show ev_J w ev_m28 (ev_nd 28) Q 32 [some (.ref 40), some (.int (Int32.ofNat k))] [] (ev_up (ab_mk0 m fo k) 204 (Int32.ofNat k).toNatClampNeg (ab_oi ((List.range 40).find? (ab_fa m fo (fo k))))) t
        rw [nk]
        refine ev_gK A hp [2] 20 ?_
        refine And.intro (ev_oin hk40 (by decide)) ?_
        refine And.intro (ev_oin hk40 (by decide)) ?_
        show ev_J w ev_m28 (ev_nd 28) Q 2 [some (.ref 40), some (.int (Int32.ofNat k + 1))] [] (ev_up (ev_up (ab_mk0 m fo k) 204 k (ab_oi ((List.range 40).find? (ab_fa m fo (fo k))))) 205 (Int32.ofNat k).toNatClampNeg (ev_up (ab_mk0 m fo k) 204 k (ab_oi ((List.range 40).find? (ab_fa m fo (fo k)))) 204 (Int32.ofNat k).toNatClampNeg)) t
        rw [nk, ev_up_same, ev_succ (by omega)]
        have e1 : ev_up (ev_up (ab_mk0 m fo k) 204 k (ab_oi ((List.range 40).find? (ab_fa m fo (fo k))))) 205 k (ab_oi ((List.range 40).find? (ab_fa m fo (fo k)))) = ab_mk0 m fo (k + 1) := by
          funext x j
          unfold ev_up ab_mk0
          by_cases h5 : x = 205 ∧ j = k
          · rw [if_pos h5, if_pos ⟨Or.inr h5.1, by omega, by rw [h5.2]; exact hf⟩, h5.2]
          · rw [if_neg h5]
            by_cases h4 : x = 204 ∧ j = k
            · rw [if_pos h4, if_pos ⟨Or.inl h4.1, by omega, by rw [h4.2]; exact hf⟩, h4.2]
            · rw [if_neg h4]
              by_cases hc : (x = 204 ∨ x = 205) ∧ j < k ∧ ab_th m j = true
              · rw [if_pos hc, if_pos ⟨hc.1, by omega, hc.2.2⟩]
              · rw [if_neg hc, if_neg (fun q => hc ⟨q.1, by have hq := q.1; have hq2 := q.2.1; have hne : j ≠ k := fun e => hq.elim (fun z => h4 ⟨z, e⟩) (fun z => h5 ⟨z, e⟩); omega, q.2.2⟩)]
        rw [e1]
        exact ih (k + 1) (by omega)
  refine ⟨Or.inr ⟨40, _, rfl, rfl⟩, ev_m28, rfl, ev_gK A hp [2] 10 ?_⟩
  show ev_J w ev_m28 (ev_nd 28) Q 2 [some (.ref 40), some (.int (Int32.ofNat 0))] [] m t
  have e0 : ab_mk0 m fo 0 = m := by
    funext x j
    unfold ab_mk0
    rw [if_neg (fun q => by omega)]
  have h1 := loop1 40 0 rfl
  rw [e0] at h1
  exact h1
/-- number -/
theorem ev_S106 {a b : Nat} (A : ev_all w) (ha : a < 100) (hb : b < 100) (hQ : Q (.inl (some (.int (Int32.ofNat (10 * a + b))))) m t) : ev_K w 106 [.int (Int32.ofNat a), .int (Int32.ofNat b)] m t Q := by
  have hp : ev_prog[106]? = some ev_m106 := rfl
  refine ⟨Or.inl rfl, ev_m106, rfl, ev_gK A hp [] 20 ?_⟩
  show Q (.inl (some (.int (Int32.ofNat a * 10 + Int32.ofNat b)))) m t
  have e10 : (10 : Int32).toInt = 10 := by decide
  have ea := ev_ofNat_i (n := a) (by omega)
  have eb := ev_ofNat_i (n := b) (by omega)
  have e1 : (Int32.ofNat a * 10).toInt = (a : Int) * 10 := by rw [ev_mul_i (by rw [ea, e10]; omega) (by rw [ea, e10]; omega), ea, e10]
  have e2 : Int32.ofNat a * 10 + Int32.ofNat b = Int32.ofNat (10 * a + b) := by
    apply ev_eq_of
    rw [ev_add_i (by omega) (by omega), e1, eb, ev_ofNat_i (by omega)]
    omega
  rw [e2]
  exact hQ
/-- Words.addEquality -/
theorem ev_S32 {a b n : Nat} (A : ev_all w) (ha : a < 40) (hb : b < 40) (hn : (m 40 7).toInt = (n : Int)) (hn6 : n < 6) (hQ : Q (.inl none) (ab_me (ev_up (ev_up (ev_up m 206 n (Int32.ofNat a)) 207 n (Int32.ofNat b)) 40 7 (Int32.ofNat (n + 1))) a b 40) t) : ev_K w 32 [.ref 40, .int (Int32.ofNat a), .int (Int32.ofNat b)] m t Q := by
  have hp : ev_prog[32]? = some ev_m32 := rfl
  have e7 : m 40 7 = Int32.ofNat n := by
    apply ev_eq_of
    rw [hn, ev_ofNat_i (by omega)]
  have nn : (Int32.ofNat n).toNatClampNeg = n := ev_on (by omega)
  have hin : ev_in (m 40 7) 6 := by rw [e7]; exact ev_oin hn6 (by decide)
  refine ⟨Or.inr ⟨40, _, rfl, rfl⟩, ev_m32, rfl, ev_gK A hp [10, 20] 10 ?_⟩
  refine And.intro hin ?_
  show ev_J w ev_m32 (ev_nd 32) Q 10 [some (.ref 40), some (.int (Int32.ofNat a)), some (.int (Int32.ofNat b))] [] (ev_up m 206 (m 40 7).toNatClampNeg (Int32.ofNat a)) t
  rw [e7, nn]
  refine ev_gK A hp [20] 10 ?_
  have e7' : ev_up m 206 n (Int32.ofNat a) 40 7 = Int32.ofNat n := by rw [ev_up_cell _ (by decide)]; exact e7
  refine And.intro (by rw [e7']; exact ev_oin hn6 (by decide)) ?_
  show ev_J w ev_m32 (ev_nd 32) Q 20 [some (.ref 40), some (.int (Int32.ofNat a)), some (.int (Int32.ofNat b))] [] (ev_up (ev_up m 206 n (Int32.ofNat a)) 207 (ev_up m 206 n (Int32.ofNat a) 40 7).toNatClampNeg (Int32.ofNat b)) t
  rw [e7', nn]
  refine ev_gK A hp [] 20 ?_
  show ev_K w 29 [.ref 40, .int (Int32.ofNat a), .int (Int32.ofNat b)] (ev_up (ev_up (ev_up m 206 n (Int32.ofNat a)) 207 n (Int32.ofNat b)) 40 7 (ev_up (ev_up m 206 n (Int32.ofNat a)) 207 n (Int32.ofNat b) 40 7 + 1)) t _
  rw [ev_up_cell _ (by decide), e7', ev_succ (by omega)]
  exact ev_S29 A ha hb hQ
end EvMarkAll
