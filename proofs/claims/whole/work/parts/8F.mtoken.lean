/-! the model's reading: tokens -/
section EvMtoken
variable {w : ev_W} {Q : ev_QT} {m : ev_Mem} {t : ev_H} {z : ab_Z}
theorem ev_S190 {n : Nat} {i a b : Int32} {o : ab_Ls} (A : ev_all w) (hi : i = Int32.ofNat n) (hO : ab_MO m o) (hl : o.length ≤ 1920) (hn : n < 10000) (hQ : Q (.inl (some (.int (ab_bi (decide (n < o.length ∧ a.toInt ≤ (o.getD n 0).toInt ∧ (o.getD n 0).toInt ≤ b.toInt)))))) m t) : ev_K w 190 [.ref 277, .int i, .int a, .int b] m t Q := by
  have hp : ev_prog[190]? = some ev_m190 := rfl
  subst hi
  have en := ev_ofNat_i (n := n) (by omega)
  have el := ev_toI hO.1 (by omega)
  have no : ¬ (n < o.length ∧ a.toInt ≤ (o.getD n 0).toInt ∧ (o.getD n 0).toInt ≤ b.toInt) → Q (.inl (some (.int 0))) m t := fun h => by rw [decide_eq_false h] at hQ; exact hQ
  refine ⟨Or.inr ⟨277, _, rfl, rfl⟩, ev_m190, rfl, ev_gK A hp [] 30 ?_⟩
  refine And.intro (fun (h : (m 277 28).toInt ≤ (Int32.ofNat n).toInt) => ⟨rfl, no (by omega)⟩) (fun (h : (Int32.ofNat n).toInt < (m 277 28).toInt) => ?_)
  have hlt : n < o.length := by omega
  have hv : m 298 (Int32.ofNat n).toNatClampNeg = o.getD n 0 := by rw [ev_on (by omega)]; exact hO.2 _ hlt
  refine And.intro (ev_oin (by omega) (by decide)) ?_
  refine And.intro (fun (h2 : (m 298 (Int32.ofNat n).toNatClampNeg).toInt < a.toInt) => ⟨rfl, no (by rw [hv] at h2; omega)⟩) (fun (h2 : a.toInt ≤ (m 298 (Int32.ofNat n).toNatClampNeg).toInt) => ?_)
  refine And.intro (ev_oin (by omega) (by decide)) ?_
  refine And.intro (fun (h3 : b.toInt < (m 298 (Int32.ofNat n).toNatClampNeg).toInt) => ⟨rfl, no (by rw [hv] at h3; omega)⟩) (fun (h3 : (m 298 (Int32.ofNat n).toNatClampNeg).toInt ≤ b.toInt) => ?_)
  rw [hv] at h2 h3
  rw [decide_eq_true ⟨hlt, h2, h3⟩] at hQ
  exact ⟨rfl, hQ⟩
theorem ev_S189 {n N : Nat} {a b : Int32} {a' b' : Int} {o : ab_Ls} (A : ev_all w) (ha : a.toInt = a') (hb : b.toInt = b') (hO : ab_MO m o) (hl : o.length ≤ 1920) (h30 : m 277 30 = Int32.ofNat n) (hn : n ≤ o.length) (hN : N < 100) (hQ : Q (.inl (some (.int (Int32.ofNat (ab_run o n a' b' N))))) m t) : ev_K w 189 [.ref 277, .int a, .int b, .int (Int32.ofNat N)] m t Q := by
  have hp : ev_prog[189]? = some ev_m189 := rfl
  subst ha hb
  have eN := ev_ofNat_i (n := N) (by omega)
  have loop := ev_lup (P := fun k => ∀ kk : Int32, kk = Int32.ofNat k → n + k ≤ o.length → ab_run o n a.toInt b.toInt N = k + ab_run o (n + k) a.toInt b.toInt (N - k) → ev_J w ev_m189 (ev_nd 189) Q 3 [ev_vr 277, ev_vi a, ev_vi b, ev_vn N, ev_vi kk] [] m t) N (by
    intro k hk ih kk ekk hfk hr
    subst ekk
    have ek := ev_ofNat_i (n := k) (by omega)
    have fin : ab_run o (n + k) a.toInt b.toInt (N - k) = 0 → Q (.inl (some (.int (Int32.ofNat k)))) m t := by
      intro h
      rw [h] at hr
      rw [hr] at hQ
      exact hQ
    refine ev_gK A hp [3] 40 ?_
    refine And.intro (fun (h : (Int32.ofNat N).toInt ≤ (Int32.ofNat k).toInt) => ?_) (fun (h : (Int32.ofNat k).toInt < (Int32.ofNat N).toInt) => ?_)
    · refine fin ?_
      rw [(by omega : N - k = 0), ab_run]
    · obtain ⟨j, hj⟩ : ∃ j, N - k = j + 1 := ⟨N - k - 1, by omega⟩
      rw [hj] at hr fin
      rw [ab_run] at hr fin
      refine ev_S190 (n := n + k) A (by rw [h30]; exact ev_addN (by omega)) hO hl (by omega) ?_
      refine And.intro (fun h2 => fin (if_neg (of_decide_eq_false (ab_bi_eq h2)))) (fun h2 => ?_)
      have h3 := of_decide_eq_true (ab_bi_neq h2)
      rw [if_pos h3] at hr
      refine ih (by omega) _ (ev_succ (by omega)) (by omega) ?_
      rw [hr, (by omega : N - (k + 1) = j), (by omega : n + (k + 1) = n + k + 1)]
      omega)
  refine ⟨Or.inr ⟨277, _, rfl, rfl⟩, ev_m189, rfl, ev_gK A hp [3] 20 ?_⟩
  exact loop 0 (by omega) _ rfl (by omega) (by rw [Nat.zero_add]; rfl)
/-- tokens -/
def ab_tk (o : ab_Ls) (n : Nat) : Int32 := if n < o.length then (if 0 < ab_run o n 48 57 2 then -2 else if 0 < ab_run o n 97 122 12 then -3 else if 0 < ab_run o n 65 90 4 then -4 else o.getD n 0) else -1
def ab_nx (o : ab_Ls) (n : Nat) : Nat := if n < o.length then (if 0 < ab_run o n 48 57 2 + ab_run o n 97 122 12 + ab_run o n 65 90 4 then n + (ab_run o n 48 57 2 + ab_run o n 97 122 12 + ab_run o n 65 90 4) else n + 1) else n
def ab_frx (m m' : ev_Mem) : Prop := ∀ c i, ¬ (c = 277 ∧ 30 ≤ i ∧ i ≤ 33) → m' c i = m c i
theorem ab_frx_tr {a b c : ev_Mem} (h1 : ab_frx a b) (h2 : ab_frx b c) : ab_frx a c := fun k i q => (h2 k i q).trans (h1 k i q)
theorem ab_frx_rfl {m : ev_Mem} : ab_frx m m := fun _ _ _ => rfl
theorem ab_frx_O {m m' : ev_Mem} {o : ab_Ls} (h : ab_frx m m') (hO : ab_MO m o) : ab_MO m' o := ⟨by rw [h _ _ (by omega)]; exact hO.1, fun k hk => by rw [h _ _ (by omega)]; exact hO.2 k hk⟩
theorem ab_frx_E {m m' : ev_Mem} (h : ab_frx m m') (hE : ab_RE m z) : ab_RE m' z := ab_RE_cg (fun c i hc => h c i (by unfold ab_gT ab_gW at hc; omega)) hE
def ab_TS (m : ev_Mem) (o : ab_Ls) (s : Nat ⊕ Nat) : Prop := match s with
  | .inr n => n ≤ o.length ∧ m 277 31 = Int32.ofNat n ∧ m 277 30 = Int32.ofNat (ab_nx o n) ∧ m 277 32 = ab_tk o n ∧ m 277 33 = 0
  | .inl e => m 277 31 = Int32.ofNat e ∧ m 277 33 = 1
theorem ab_run_pos {o : ab_Ls} {n N : Nat} {a b : Int} : 0 < ab_run o n a b (N + 1) ↔ n < o.length ∧ a ≤ (o.getD n 0).toInt ∧ (o.getD n 0).toInt ≤ b := by
  constructor
  · intro h
    rw [ab_run] at h
    split at h
    · assumption
    · omega
  · intro h
    rw [ab_run, if_pos h]
    omega
theorem ab_run_end (o : ab_Ls) (a b : Int) (n f : Nat) (h : f ≤ o.length) : f + ab_run o f a b n ≤ o.length := by
  have h1 := ab_run_in o a b n f
  by_cases h0 : ab_run o f a b n = 0
  · omega
  · have := (h1 (ab_run o f a b n - 1) (by omega)).1
    omega
/-- at most one of the three runs is there -/
theorem ab_run3 (o : ab_Ls) (n : Nat) : (ab_run o n 97 122 12 = 0 ∧ ab_run o n 65 90 4 = 0) ∨ (ab_run o n 48 57 2 = 0 ∧ ab_run o n 65 90 4 = 0) ∨ (ab_run o n 48 57 2 = 0 ∧ ab_run o n 97 122 12 = 0) := by
  have h1 := ab_run_pos (o := o) (n := n) (N := 1) (a := 48) (b := 57)
  have h2 := ab_run_pos (o := o) (n := n) (N := 11) (a := 97) (b := 122)
  have h3 := ab_run_pos (o := o) (n := n) (N := 3) (a := 65) (b := 90)
  simp only [Nat.reduceAdd] at h1 h2 h3
  by_cases q1 : 0 < ab_run o n 48 57 2
  · have := h1.mp q1
    left
    constructor
    · by_cases q : 0 < ab_run o n 97 122 12
      · have := h2.mp q; omega
      · omega
    · by_cases q : 0 < ab_run o n 65 90 4
      · have := h3.mp q; omega
      · omega
  · right
    by_cases q2 : 0 < ab_run o n 97 122 12
    · have := h2.mp q2
      left
      refine ⟨by omega, ?_⟩
      by_cases q : 0 < ab_run o n 65 90 4
      · have := h3.mp q; omega
      · omega
    · right; omega
theorem ab_nx_le {o : ab_Ls} {n : Nat} (h : n ≤ o.length) : ab_nx o n ≤ o.length := by
  have h1 := ab_run_end o 48 57 2 n h
  have h2 := ab_run_end o 97 122 12 n h
  have h3 := ab_run_end o 65 90 4 n h
  have h4 := ab_run3 o n
  unfold ab_nx
  split
  · split <;> omega
  · exact h
theorem ab_nx_b {o : ab_Ls} {n : Nat} : n ≤ ab_nx o n ∧ ab_nx o n ≤ n + 18 := by
  have h1 := ab_run_le o 48 57 2 n
  have h2 := ab_run_le o 97 122 12 n
  have h3 := ab_run_le o 65 90 4 n
  unfold ab_nx
  split
  · split <;> omega
  · omega
theorem ab_nx_d {o : ab_Ls} {n : Nat} (h : 0 < ab_run o n 48 57 2) : ab_nx o n = n + ab_run o n 48 57 2 := by
  have hn := (ab_run_pos (N := 1).mp h).1
  have h4 := ab_run3 o n
  unfold ab_nx
  rw [if_pos hn, if_pos (by omega)]
  omega
theorem ab_nx_l {o : ab_Ls} {n : Nat} (h : 0 < ab_run o n 97 122 12) : ab_nx o n = n + ab_run o n 97 122 12 := by
  have hn := (ab_run_pos (N := 11).mp h).1
  have h4 := ab_run3 o n
  unfold ab_nx
  rw [if_pos hn, if_pos (by omega)]
  omega
theorem ab_nx_g {o : ab_Ls} {n : Nat} (h : 0 < ab_run o n 65 90 4) : ab_nx o n = n + ab_run o n 65 90 4 := by
  have hn := (ab_run_pos (N := 3).mp h).1
  have h4 := ab_run3 o n
  unfold ab_nx
  rw [if_pos hn, if_pos (by omega)]
  omega
/-- a sign that is a token by itself -/
def ab_pn1 (c : Int32) : Prop := 0 ≤ c.toInt ∧ ¬ (48 ≤ c.toInt ∧ c.toInt ≤ 57) ∧ ¬ (97 ≤ c.toInt ∧ c.toInt ≤ 122) ∧ ¬ (65 ≤ c.toInt ∧ c.toInt ≤ 90)
theorem ab_is_run {o : ab_Ls} {n : Nat} {c : Int32} (hc : ab_pn1 c) (h : ab_is o c n = true) : ab_run o n 48 57 2 = 0 ∧ ab_run o n 97 122 12 = 0 ∧ ab_run o n 65 90 4 = 0 := by
  have h1 := ab_run_pos (o := o) (n := n) (N := 1) (a := 48) (b := 57)
  have h2 := ab_run_pos (o := o) (n := n) (N := 11) (a := 97) (b := 122)
  have h3 := ab_run_pos (o := o) (n := n) (N := 3) (a := 65) (b := 90)
  obtain ⟨hn, he⟩ := of_decide_eq_true h
  obtain ⟨c0, c1, c2, c3⟩ := hc
  rw [he] at h1 h2 h3
  refine ⟨?_, ?_, ?_⟩
  · by_cases q : 0 < ab_run o n 48 57 2
    · exact absurd (h1.mp q).2 c1
    · omega
  · by_cases q : 0 < ab_run o n 97 122 12
    · exact absurd (h2.mp q).2 c2
    · omega
  · by_cases q : 0 < ab_run o n 65 90 4
    · exact absurd (h3.mp q).2 c3
    · omega
theorem ab_nx_is {o : ab_Ls} {n : Nat} {c : Int32} (hc : ab_pn1 c) (h : ab_is o c n = true) : ab_nx o n = n + 1 := by
  obtain ⟨a, b, d⟩ := ab_is_run hc h
  unfold ab_nx
  rw [if_pos (ab_is_lt h), if_neg (by omega)]
theorem ab_tk_is {o : ab_Ls} {n : Nat} {c : Int32} (hc : ab_pn1 c) : ab_tk o n = c ↔ ab_is o c n = true := by
  have c0 := hc.1
  constructor
  · intro h
    unfold ab_tk at h
    have neg : ∀ x : Int32, x.toInt < 0 → x = c → False := fun x hx q => by rw [q] at hx; omega
    split at h
    · split at h
      · exact (neg _ (by decide) h).elim
      · split at h
        · exact (neg _ (by decide) h).elim
        · split at h
          · exact (neg _ (by decide) h).elim
          · rename_i hn _ _ _
            exact decide_eq_true ⟨hn, h⟩
    · exact (neg _ (by decide) h).elim
  · intro h
    obtain ⟨a, b, d⟩ := ab_is_run hc h
    unfold ab_tk
    rw [if_pos (ab_is_lt h), if_neg (by omega), if_neg (by omega), if_neg (by omega)]
    exact (of_decide_eq_true h).2
theorem ab_Ook_get {o : ab_Ls} (ho : ab_Ook o) (n : Nat) : ab_c16 (o.getD n 0) := by
  by_cases h : n < o.length
  · rw [List.getD_eq_getElem?_getD, List.getElem?_eq_getElem h]
    exact ho.2 _ (List.getElem_mem h)
  · rw [List.getD_eq_getElem?_getD, List.getElem?_eq_none (by omega)]
    exact ⟨by decide, by decide⟩
theorem ab_tk_neg {o : ab_Ls} (ho : ab_Ook o) {n : Nat} {x : Int32} (hx : x.toInt < 0) (h : o.getD n 0 = x) : False := by
  have := (ab_Ook_get ho n).1
  rw [h] at this
  omega
theorem ab_tk_d {o : ab_Ls} (ho : ab_Ook o) {n : Nat} : ab_tk o n = -2 ↔ 0 < ab_run o n 48 57 2 := by
  constructor
  · intro h
    unfold ab_tk at h
    split at h
    · split at h
      · assumption
      · split at h
        · exact absurd h (by decide)
        · split at h
          · exact absurd h (by decide)
          · exact (ab_tk_neg ho (by decide) h).elim
    · exact absurd h (by decide)
  · intro h
    have hn := (ab_run_pos (N := 1).mp h).1
    unfold ab_tk
    rw [if_pos hn, if_pos h]
theorem ab_tk_l {o : ab_Ls} (ho : ab_Ook o) {n : Nat} : ab_tk o n = -3 ↔ 0 < ab_run o n 97 122 12 := by
  constructor
  · intro h
    unfold ab_tk at h
    split at h
    · split at h
      · exact absurd h (by decide)
      · split at h
        · assumption
        · split at h
          · exact absurd h (by decide)
          · exact (ab_tk_neg ho (by decide) h).elim
    · exact absurd h (by decide)
  · intro h
    have hn := (ab_run_pos (N := 11).mp h).1
    have h4 := ab_run3 o n
    unfold ab_tk
    rw [if_pos hn, if_neg (by omega), if_pos h]
theorem ab_tk_g {o : ab_Ls} (ho : ab_Ook o) {n : Nat} : ab_tk o n = -4 ↔ 0 < ab_run o n 65 90 4 := by
  constructor
  · intro h
    unfold ab_tk at h
    split at h
    · split at h
      · exact absurd h (by decide)
      · split at h
        · exact absurd h (by decide)
        · split at h
          · assumption
          · exact (ab_tk_neg ho (by decide) h).elim
    · exact absurd h (by decide)
  · intro h
    have hn := (ab_run_pos (N := 3).mp h).1
    have h4 := ab_run3 o n
    unfold ab_tk
    rw [if_pos hn, if_neg (by omega), if_neg (by omega), if_pos h]
theorem ab_tk_e {o : ab_Ls} (ho : ab_Ook o) {n : Nat} : ab_tk o n = -1 ↔ ¬ n < o.length := by
  constructor
  · intro h hn
    unfold ab_tk at h
    rw [if_pos hn] at h
    split at h
    · exact absurd h (by decide)
    · split at h
      · exact absurd h (by decide)
      · split at h
        · exact absurd h (by decide)
        · exact (ab_tk_neg ho (by decide) h).elim
  · intro h
    unfold ab_tk
    rw [if_neg h]
/-- next -/
theorem ev_S188 {n : Nat} {o : ab_Ls} (A : ev_all w) (hO : ab_MO m o) (hl : o.length ≤ 1920) (h30 : m 277 30 = Int32.ofNat n) (hn : n ≤ o.length) (h33 : m 277 33 = 0) (hQ : ∀ m', ab_frx m m' → ab_TS m' o (.inr n) → Q (.inl none) m' t) : ev_K w 188 [.ref 277] m t Q := by
  have hp : ev_prog[188]? = some ev_m188 := rfl
  refine ⟨Or.inr ⟨277, _, rfl, rfl⟩, ev_m188, rfl, ev_gK A hp [8] 10 ?_⟩
  show ev_J w ev_m188 (ev_nd 188) Q 8 [ev_vr 277, none, none, none, none] [] (ev_up m 277 31 (m 277 30)) t
  have q1 : ∀ c i, ¬ (c = 277 ∧ i = 31) → ev_up m 277 31 (m 277 30) c i = m c i := fun c i h => if_neg h
  have q31 : ev_up m 277 31 (m 277 30) 277 31 = Int32.ofNat n := by rw [ev_up_same]; exact h30
  generalize ev_up m 277 31 (m 277 30) = m1 at *
  have r30 : m1 277 30 = Int32.ofNat n := (q1 _ _ (by omega)).trans h30
  have r33 : m1 277 33 = 0 := (q1 _ _ (by omega)).trans h33
  have hO1 : ab_MO m1 o := ⟨(q1 _ _ (by omega)).trans hO.1, fun k hk => (q1 _ _ (by omega)).trans (hO.2 k hk)⟩
  have i30 := ev_toI r30 (by omega)
  have i28 := ev_toI hO1.1 (by omega)
  refine ev_gK A hp [25] 10 ?_
  refine And.intro (fun (h : ¬ (m1 277 30).toInt = (m1 277 28).toInt) => ?_) (fun (h : (m1 277 30).toInt = (m1 277 28).toInt) => ?_)
  · have hlt : n < o.length := by omega
    refine ev_gK A hp [63] 40 ?_
    refine ev_S189 (N := 2) (a' := 48) (b' := 57) A (by decide) (by decide) hO1 hl r30 hn (by decide) ?_
    refine ev_S189 (N := 12) (a' := 97) (b' := 122) A (by decide) (by decide) hO1 hl r30 hn (by decide) ?_
    refine ev_S189 (N := 4) (a' := 65) (b' := 90) A (by decide) (by decide) hO1 hl r30 hn (by decide) ?_
    have e1 := ab_run_le o 48 57 2 n
    have e2 := ab_run_le o 97 122 12 n
    have e3 := ab_run_le o 65 90 4 n
    have htk : ab_tk o n = if 0 < ab_run o n 48 57 2 then -2 else if 0 < ab_run o n 97 122 12 then -3 else if 0 < ab_run o n 65 90 4 then -4 else o.getD n 0 := if_pos hlt
    have hnx : ab_nx o n = if 0 < ab_run o n 48 57 2 + ab_run o n 97 122 12 + ab_run o n 65 90 4 then n + (ab_run o n 48 57 2 + ab_run o n 97 122 12 + ab_run o n 65 90 4) else n + 1 := if_pos hlt
    generalize ab_run o n 48 57 2 = d at *
    generalize ab_run o n 97 122 12 = l at *
    generalize ab_run o n 65 90 4 = g at *
    show ev_J w ev_m188 (ev_nd 188) Q 63 [ev_vr 277, ev_vn d, ev_vn l, ev_vn g, ev_vi (Int32.ofNat d + Int32.ofNat l + Int32.ofNat g)] [] m1 t
    rw [ev_addN (by omega), ev_addN (by omega)]
    have ed := ev_ofNat_i (n := d) (by omega)
    have el := ev_ofNat_i (n := l) (by omega)
    have eg := ev_ofNat_i (n := g) (by omega)
    have es := ev_ofNat_i (n := d + l + g) (by omega)
    have h100 : ∀ tok : Int32, tok = ab_tk o n → ev_J w ev_m188 (ev_nd 188) Q 100 [ev_vr 277, ev_vn d, ev_vn l, ev_vn g, ev_vn (d + l + g)] [.int tok, .ref 277] m1 t := by
      intro tok htok
      have fin : ∀ x : Int32, x = Int32.ofNat (ab_nx o n) → Q (.inl none) (ev_up (ev_up m1 277 32 tok) 277 30 x) t := by
        intro x hx
        refine hQ _ (fun c i hc => ?_) ⟨hn, ?_, ?_, ?_, ?_⟩
        · unfold ev_up
          rw [if_neg (by omega), if_neg (by omega)]
          exact q1 c i (by omega)
        · rw [ev_up_idx _ _ (by decide), ev_up_idx _ _ (by decide)]; exact q31
        · rw [ev_up_same]; exact hx
        · rw [ev_up_idx _ _ (by decide), ev_up_same]; exact htok
        · rw [ev_up_idx _ _ (by decide), ev_up_idx _ _ (by decide)]; exact r33
      refine ev_gK A hp [] 20 ?_
      refine And.intro (fun (h2 : (Int32.ofNat (d + l + g)).toInt ≤ 0) => ?_) (fun (h2 : 0 < (Int32.ofNat (d + l + g)).toInt) => ?_)
      · refine fin _ ?_
        rw [ev_up_idx _ _ (by decide), r30, hnx, if_neg (by omega)]
        exact ev_succ (by omega)
      · refine fin _ ?_
        rw [ev_up_idx _ _ (by decide), r30, hnx, if_pos (by omega)]
        exact ev_addN (by omega)
    refine ev_gK A hp [100] 40 ?_
    refine And.intro (fun (h2 : (Int32.ofNat d).toInt ≤ 0) => ?_) (fun (h2 : 0 < (Int32.ofNat d).toInt) => h100 _ (by rw [htk, if_pos (by omega)]; rfl))
    refine And.intro (fun (h3 : (Int32.ofNat l).toInt ≤ 0) => ?_) (fun (h3 : 0 < (Int32.ofNat l).toInt) => h100 _ (by rw [htk, if_neg (by omega), if_pos (by omega)]; rfl))
    refine And.intro (fun (h4 : (Int32.ofNat g).toInt ≤ 0) => ?_) (fun (h4 : 0 < (Int32.ofNat g).toInt) => h100 _ (by rw [htk, if_neg (by omega), if_neg (by omega), if_pos (by omega)]; rfl))
    refine And.intro (ev_iin r30 (by omega) (by decide)) ?_
    refine h100 _ ?_
    rw [ev_at r30 (by omega), htk, if_neg (by omega), if_neg (by omega), if_neg (by omega)]
    exact hO1.2 n hlt
  · have hno : ¬ n < o.length := by omega
    refine hQ _ (fun c i hc => ?_) ⟨hn, ?_, ?_, ?_, ?_⟩
    · unfold ev_up
      rw [if_neg (by omega)]
      exact q1 c i (by omega)
    · rw [ev_up_idx _ _ (by decide)]; exact q31
    · rw [ev_up_idx _ _ (by decide), r30, ab_nx, if_neg hno]
    · rw [ev_up_same, ab_tk, if_neg hno]; rfl
    · rw [ev_up_idx _ _ (by decide)]; exact r33
def ab_pss (o : ab_Ls) (c : Nat → Bool) (s : Nat ⊕ Nat) : Nat ⊕ Nat := match s with
  | .inl e => .inl e
  | .inr n => if c n = true then .inr (ab_nx o n) else .inl n
/-- pass -/
theorem ev_S192 {s : Nat ⊕ Nat} {b : Bool} {o : ab_Ls} (c : Nat → Bool) (A : ev_all w) (hO : ab_MO m o) (hl : o.length ≤ 1920) (hs : ab_TS m o s) (hb : ∀ n, s = .inr n → b = c n) (hQ : ∀ m', ab_frx m m' → ab_TS m' o (ab_pss o c s) → Q (.inl none) m' t) : ev_K w 192 [.ref 277, .int (ab_bi b)] m t Q := by
  have hp : ev_prog[192]? = some ev_m192 := rfl
  have g1 : ∀ x, ab_frx m (ev_up m 277 33 x) := fun x k i q => if_neg (by omega)
  have bad : (∃ e, ab_pss o c s = .inl e ∧ m 277 31 = Int32.ofNat e) → ev_J w ev_m192 (ev_nd 192) Q 17 [ev_vr 277, ev_vi (ab_bi b)] [.int (Int32.ofNat 1), .ref 277] m t := by
    intro ⟨e, he, h31⟩
    refine ev_gK A hp [] 20 ?_
    refine And.intro (Or.inr rfl) ?_
    refine And.intro (fun _ => ?_) (fun (h : (ev_up m 277 33 (Int32.ofNat 1) 277 33).toInt = 0) => by rw [ev_up_same] at h; exact absurd h (by decide))
    refine hQ _ (g1 _) ?_
    rw [he]
    exact ⟨by rw [ev_up_idx _ _ (by decide)]; exact h31, ev_up_same _ _ _ _⟩
  refine ⟨Or.inr ⟨277, _, rfl, rfl⟩, ev_m192, rfl, ev_gK A hp [17] 20 ?_⟩
  cases s with
  | inl e =>
    obtain ⟨s1, s2⟩ := hs
    refine And.intro (fun _ => bad ⟨e, rfl, s1⟩) (fun (h : (m 277 33).toInt = 0) => by rw [s2] at h; exact absurd h (by decide))
  | inr n =>
    obtain ⟨s0, s1, s2, s3, s4⟩ := hs
    have hbn := hb n rfl
    refine And.intro (fun (h : ¬ (m 277 33).toInt = 0) => by rw [s4] at h; exact absurd rfl h) (fun _ => ?_)
    refine And.intro (fun h => ?_) (fun h => ?_)
    · have hc := ab_bi_ne h
      rw [hbn] at hc
      have hps : ab_pss o c (.inr n) = .inr (ab_nx o n) := if_pos hc
      rw [hps] at hQ
      show ev_J w ev_m192 (ev_nd 192) Q 17 [ev_vr 277, ev_vi (ab_bi b)] [.int (Int32.ofNat 0), .ref 277] m t
      refine ev_gK A hp [] 20 ?_
      refine And.intro (Or.inl rfl) ?_
      refine And.intro (fun (h : ¬ (ev_up m 277 33 (Int32.ofNat 0) 277 33).toInt = 0) => by rw [ev_up_same] at h; exact absurd rfl h) (fun _ => ?_)
      refine ev_S188 (n := ab_nx o n) A (ab_frx_O (g1 _) hO) hl ?_ (ab_nx_le s0) (ev_up_same _ _ _ _) (fun m' f' T' => hQ m' (ab_frx_tr (g1 _) f') T')
      rw [ev_up_idx _ _ (by decide)]; exact s2
    · have hc := ab_bi_nne h
      rw [hbn] at hc
      exact bad ⟨n, if_neg (by rw [hc]; exact Bool.false_ne_true), s1⟩
end EvMtoken
