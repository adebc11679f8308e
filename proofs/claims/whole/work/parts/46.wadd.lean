/-! the class's words: forming all, adding one -/
section EvWadd
variable {w : ev_W} {Q : ev_QT} {m : ev_Mem} {t : ev_H}
def ab_there (ws : Nat → List ab_Ls) (x : Nat) : Bool := decide (x % 10 < (ws (x / 10)).length)
def ab_sp (ws : Nat → List ab_Ls) (x : Nat) : ab_Ls := (ws (x / 10)).getD (x % 10) []
def ab_fo (rs : List (ab_Ls × ab_Ls)) (ws : Nat → List ab_Ls) (x : Nat) : Option ab_Ls := if ab_sp ws x = [] then none else some (ab_form rs (ab_sp ws x))
def ab_WS (m : ev_Mem) (ws : Nat → List ab_Ls) : Prop := (∀ v, v < 4 → (m 203 v).toInt = ((ws v).length : Int)) ∧ ∀ x, x < 40 → ab_there ws x = true → ab_L m (43 + 4 * x) (ab_sp ws x)
def ab_Wok (ws : Nat → List ab_Ls) : Prop := ∀ v, v < 4 → (ws v).length ≤ 10 ∧ ∀ l ∈ ws v, l.length ≤ 6 ∧ ab_az l
theorem ab_th_there {ws : Nat → List ab_Ls} (h : ab_WS m ws) {x : Nat} (hx : x < 40) : ab_th m x = ab_there ws x := by
  unfold ab_th ab_there
  rw [h.1 (x / 10) (by omega)]
  apply decide_eq_decide.mpr
  omega
theorem ab_sp_ok {ws : Nat → List ab_Ls} (h : ab_Wok ws) {x : Nat} (hx : x < 40) (ht : ab_there ws x = true) : (ab_sp ws x).length ≤ 6 ∧ ab_az (ab_sp ws x) := by
  have h1 : x % 10 < (ws (x / 10)).length := of_decide_eq_true ht
  unfold ab_sp
  rw [List.getD_eq_getElem?_getD, List.getElem?_eq_getElem h1]
  exact (h (x / 10) (by omega)).2 _ (List.getElem_mem h1)
theorem ab_br_len {rs : List (ab_Ls × ab_Ls)} (h : ab_Rok rs) (l : ab_Ls) : ∀ (n f : Nat), (ab_br rs l n f).length ≤ 2 * n
  | 0, _ => by rw [ab_br]; exact Nat.le_refl _
  | n + 1, f => by
    rw [ab_br]
    split
    · split
      · have h1 := ab_br_len h l n (f + 1)
        rw [List.length_cons]; omega
      · rename_i r hr
        have h1 := ab_br_len h l n (f + (rs.getD r ([], [])).1.length)
        have h2 := (ab_Rok_at h (ab_pick_lt hr)).2.2.1
        rw [List.length_append]; omega
    · rw [List.length_nil]; omega
theorem ab_fo_len {rs : List (ab_Ls × ab_Ls)} {ws : Nat → List ab_Ls} (hr : ab_Rok rs) (h : ab_Wok ws) {x : Nat} (hx : x < 40) (ht : ab_there ws x = true) : ab_ol (ab_fo rs ws x) ≤ 12 := by
  have h1 := (ab_sp_ok h hx ht).1
  unfold ab_fo
  split
  · exact Nat.zero_le _
  · have h2 := ab_br_len hr (ab_sp ws x) (ab_sp ws x).length 0
    show (ab_br rs (ab_sp ws x) (ab_sp ws x).length 0).length ≤ 12
    omega
/-- only forms have changed -/
def ab_frf (m m' : ev_Mem) : Prop := ∀ k j, ¬ (45 ≤ k ∧ k ≤ 202 ∧ (k % 4 = 1 ∨ k % 4 = 2)) → m' k j = m k j
theorem ab_RC_frf {m m' : ev_Mem} {rs : List (ab_Ls × ab_Ls)} (hf : ab_frf m m') (h : ab_RC m rs) : ab_RC m' rs := by
  obtain ⟨h1, h2, h3⟩ := h
  refine ⟨by rw [hf 5 2 (by omega)]; exact h1, h2, fun r hr => ?_⟩
  obtain ⟨⟨a1, a2⟩, b1, b2⟩ := h3 r hr
  refine ⟨⟨by rw [hf _ _ (by omega)]; exact a1, fun k hk => by rw [hf _ _ (by omega)]; exact a2 k hk⟩, ⟨by rw [hf _ _ (by omega)]; exact b1, fun k hk => by rw [hf _ _ (by omega)]; exact b2 k hk⟩⟩
theorem ab_WS_frf {m m' : ev_Mem} {ws : Nat → List ab_Ls} (hf : ab_frf m m') (h : ab_WS m ws) : ab_WS m' ws := by
  refine ⟨fun v hv => by rw [hf _ _ (by omega)]; exact h.1 v hv, fun x hx ht => ?_⟩
  obtain ⟨a1, a2⟩ := h.2 x hx ht
  exact ⟨by rw [hf _ _ (by omega)]; exact a1, fun k hk => by rw [hf _ _ (by omega)]; exact a2 k hk⟩
theorem ab_PC_frf {m m' : ev_Mem} {ps : List (Nat × Nat)} (hf : ab_frf m m') (h : ab_PC m ps) : ab_PC m' ps :=
  ab_PC_cong (fun k j hk => hf k j (by omega)) h
/-- Words.formAll -/
theorem ev_S30 {rs : List (ab_Ls × ab_Ls)} {ws : Nat → List ab_Ls} {ps : List (Nat × Nat)} (A : ev_all w) (hR : ab_RC m rs) (hRo : ab_Rok rs) (hW : ab_WS m ws) (hWo : ab_Wok ws) (hP : ab_PC m ps)
    (hQ : ∀ m', ab_frf m m' → ab_FO m' (ab_fo rs ws) → Q (.inl none) (ab_mes ps (ab_mk0 m' (ab_fo rs ws) 40)) t) : ev_K w 30 [.ref 40, .ref 5] m t Q := by
  have hp : ev_prog[30]? = some ev_m30 := rfl
  have e40 : ((Int8.ofInt 40).toInt32).toInt = 40 := by decide
  have loop : ∀ (n k : Nat) (mk : ev_Mem), k + n = 40 → ab_frf m mk → (∀ x, x < k → ab_there ws x = true → ab_F mk (45 + 4 * x) (ab_fo rs ws x)) → ev_J w ev_m30 (ev_nd 30) Q 2 [some (.ref 40), some (.ref 5), some (.int (Int32.ofNat k))] [] mk t := by
    intro n
    induction n with
    | zero =>
      intro k mk hk hf hall
      have ek := ev_ofNat_i (n := k) (by omega)
      refine ev_gK A hp [] 10 ?_
      refine And.intro (fun h => ?_) (fun h => ?_)
      · have hFO : ab_FO mk (ab_fo rs ws) := fun x hx ht => by
          rw [ab_th_there (ab_WS_frf hf hW) hx] at ht
          exact ⟨hall x (by omega) ht, ab_fo_len hRo hWo hx ht⟩
        show ev_K w 28 [.ref 40] mk t _
        exact ev_S28 A hFO (ab_PC_frf hf hP) (hQ mk hf hFO)
      · have h2 : (Int32.ofNat k).toInt < ((Int8.ofInt 40).toInt32).toInt := h
        omega
    | succ n ih =>
      intro k mk hk hf hall
      have ek := ev_ofNat_i (n := k) (by omega)
      have hk40 : k < 40 := by omega
      have nk : (Int32.ofNat k).toNatClampNeg = k := ev_on (by omega)
      refine ev_gK A hp [2] 20 ?_
      refine And.intro (fun h => ?_) (fun h => ?_)
      · have h2 : ((Int8.ofInt 40).toInt32).toInt ≤ (Int32.ofNat k).toInt := h
        omega
      refine ev_S24 A hk40 ?_
      rw [ab_th_there (ab_WS_frf hf hW) hk40]
      refine And.intro (fun h => ?_) (fun h => ?_)
      · have hth := ab_bi_eq h
        show ev_J w ev_m30 (ev_nd 30) Q 2 [some (.ref 40), some (.ref 5), some (.int (Int32.ofNat k + 1))] [] mk t
        rw [ev_succ (by omega)]
        refine ih (k + 1) mk (by omega) hf (fun x hx ht => ?_)
        by_cases hxk : x = k
        · rw [hxk, hth] at ht; cases ht
        · exact hall x (by omega) ht
      · have hth := ab_bi_neq h
        obtain ⟨s1, s2⟩ := ab_sp_ok hWo hk40 hth
        have hL := (ab_WS_frf hf hW).2 k hk40 hth
        refine And.intro (ev_oin hk40 (by decide)) ?_
        refine And.intro (ev_oin hk40 (by decide)) ?_
        show ev_K w 15 [.ref 5, .ref (43 + 4 * (Int32.ofNat k).toNatClampNeg), .ref (45 + 4 * (Int32.ofNat k).toNatClampNeg)] mk t _
        rw [nk]
        refine ev_S15 A (ab_RC_frf hf hR) hRo (ev_isLs hk40) (ev_isLf hk40) (by omega) (by omega) (by decide) (by decide) hL s2 s1 (by omega) (fun m' hF hfr => ?_)
        show ev_J w ev_m30 (ev_nd 30) Q 2 [some (.ref 40), some (.ref 5), some (.int (Int32.ofNat k + 1))] [] m' t
        rw [ev_succ (by omega)]
        refine ih (k + 1) m' (by omega) (fun k' j hk' => ?_) (fun x hx ht => ?_)
        · rw [hfr k' j (by omega) (by omega)]
          exact hf k' j hk'
        · by_cases hxk : x = k
          · rw [hxk]; exact hF
          · exact ab_F_cong (fun j => hfr _ _ (by omega) (by omega)) (fun j => hfr _ _ (by omega) (by omega)) (hall x (by omega) ht)
  refine ⟨Or.inr ⟨40, _, rfl, rfl⟩, ev_m30, rfl, ev_gK A hp [2] 10 ?_⟩
  exact loop 40 0 m rfl (fun _ _ _ => rfl) (fun x hx => absurd hx (Nat.not_lt_zero _))
/-- a word more -/
def ab_put (ws : Nat → List ab_Ls) (v : Nat) (l : ab_Ls) : Nat → List ab_Ls := fun u => if u = v then ws u ++ [l] else ws u
theorem ab_put_old {ws : Nat → List ab_Ls} {v : Nat} {l : ab_Ls} {x : Nat} (h : ab_there ws x = true) : ab_there (ab_put ws v l) x = true ∧ ab_sp (ab_put ws v l) x = ab_sp ws x := by
  have h1 : x % 10 < (ws (x / 10)).length := of_decide_eq_true h
  unfold ab_there ab_sp ab_put
  by_cases hv : x / 10 = v
  · rw [if_pos hv]
    refine ⟨decide_eq_true (by rw [List.length_append]; omega), ?_⟩
    rw [List.getD_eq_getElem?_getD, List.getD_eq_getElem?_getD, List.getElem?_append_left h1]
  · rw [if_neg hv]
    exact ⟨decide_eq_true h1, rfl⟩
theorem ab_put_new {ws : Nat → List ab_Ls} {v : Nat} {l : ab_Ls} (hv : (ws v).length < 10) : ab_sp (ab_put ws v l) (10 * v + (ws v).length) = l := by
  unfold ab_sp ab_put
  have e1 : (10 * v + (ws v).length) / 10 = v := by omega
  have e2 : (10 * v + (ws v).length) % 10 = (ws v).length := by omega
  rw [e1, e2, if_pos rfl, List.getD_eq_getElem?_getD, List.getElem?_append_right (Nat.le_refl _), Nat.sub_self]
  rfl
theorem ab_put_inv {ws : Nat → List ab_Ls} {v : Nat} {l : ab_Ls} {x : Nat} (h : ab_there (ab_put ws v l) x = true) : ab_there ws x = true ∨ x = 10 * v + (ws v).length := by
  have h1 : x % 10 < (ab_put ws v l (x / 10)).length := of_decide_eq_true h
  unfold ab_put at h1
  by_cases hv : x / 10 = v
  · rw [if_pos hv, List.length_append, List.length_singleton] at h1
    by_cases h2 : x % 10 < (ws (x / 10)).length
    · exact Or.inl (decide_eq_true h2)
    · refine Or.inr ?_
      rw [hv] at h1 h2
      omega
  · rw [if_neg hv] at h1
    exact Or.inl (decide_eq_true h1)
theorem ab_Wok_put {ws : Nat → List ab_Ls} {v : Nat} {l : ab_Ls} (h : ab_Wok ws) (hv : (ws v).length < 10) (hl : l.length ≤ 6) (hz : ab_az l) : ab_Wok (ab_put ws v l) := by
  intro u hu
  unfold ab_put
  by_cases huv : u = v
  · subst huv
    rw [if_pos rfl]
    refine ⟨by rw [List.length_append, List.length_singleton]; omega, fun k hk => ?_⟩
    rcases List.mem_append.mp hk with q | q
    · exact (h u hu).2 k q
    · rw [List.mem_singleton] at q
      rw [q]; exact ⟨hl, hz⟩
  · rw [if_neg huv]
    exact h u hu
end EvWadd
