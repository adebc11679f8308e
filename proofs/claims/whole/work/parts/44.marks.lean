/-! the class's words: their marks -/
section EvMarks
variable {w : ev_W} {Q : ev_QT} {m : ev_Mem} {t : ev_H}
theorem ab_L_ext {m : ev_Mem} {x y : Nat} {a b : ab_Ls} (ha : ab_L m x a) (hb : ab_L m y b) : ev_sm m x y ↔ a = b := by
  have key : ∀ k, k < a.length → m (x + 1) k = a.getD k 0 := fun k hk => by have h := ha.2 k hk; rwa [Nat.zero_add] at h
  have key2 : ∀ k, k < b.length → m (y + 1) k = b.getD k 0 := fun k hk => by have h := hb.2 k hk; rwa [Nat.zero_add] at h
  have h1 := ha.1
  have h2 := hb.1
  constructor
  · rintro ⟨q1, q2⟩
    have hl : a.length = b.length := by omega
    apply List.ext_getElem hl
    intro k k1 k2
    have h3 := q2 k (by omega)
    rw [key k k1, key2 k k2, List.getD_eq_getElem?_getD, List.getD_eq_getElem?_getD, List.getElem?_eq_getElem k1, List.getElem?_eq_getElem k2] at h3
    exact h3
  · rintro rfl
    exact ⟨by omega, fun k hk => by rw [key k (by omega), key2 k (by omega)]⟩
theorem ab_sm_iff {m : ev_Mem} {x y : Nat} {a b : Option ab_Ls} (ha : ab_F m x a) (hb : ab_F m y b) : ev_sm m x y ↔ a = b := by
  cases a with
  | none =>
    have h1 : (m x 1).toInt = -1 := ha
    cases b with
    | none =>
      have h2 : (m y 1).toInt = -1 := hb
      exact ⟨fun _ => rfl, fun _ => ⟨by omega, fun k hk => by omega⟩⟩
    | some b =>
      have h2 := (show ab_L m y b from hb).1
      exact ⟨fun q => by have := q.1; omega, fun q => by cases q⟩
  | some a =>
    have h1 := (show ab_L m x a from ha).1
    cases b with
    | none =>
      have h2 : (m y 1).toInt = -1 := hb
      exact ⟨fun q => by have := q.1; omega, fun q => by cases q⟩
    | some b =>
      rw [ab_L_ext ha hb]
      exact ⟨fun q => by rw [q], fun q => by cases q; rfl⟩
def ab_ol (o : Option ab_Ls) : Nat := match o with
  | none => 0
  | some l => l.length
theorem ab_F_len {m : ev_Mem} {x : Nat} {o : Option ab_Ls} (h : ab_F m x o) : -1 ≤ (m x 1).toInt ∧ (m x 1).toInt ≤ (ab_ol o : Int) := by
  cases o with
  | none =>
    have h1 : (m x 1).toInt = -1 := h
    exact ⟨by omega, by show _ ≤ ((0 : Nat) : Int); omega⟩
  | some l =>
    have h1 := (show ab_L m x l from h).1
    exact ⟨by omega, by show _ ≤ ((l.length : Nat) : Int); omega⟩
/-- the forms of the words that are there -/
def ab_FO (m : ev_Mem) (fo : Nat → Option ab_Ls) : Prop := ∀ x, x < 40 → ab_th m x = true → ab_F m (45 + 4 * x) (fo x) ∧ ab_ol (fo x) ≤ 12
def ab_fa (m : ev_Mem) (fo : Nat → Option ab_Ls) (o : Option ab_Ls) (x : Nat) : Bool := ab_th m x && decide (fo x = o)
theorem ab_range_drop {k : Nat} (h : k < 40) : (List.range 40).drop k = k :: (List.range 40).drop (k + 1) := by
  rw [List.drop_eq_getElem_cons (by rw [List.length_range]; exact h), List.getElem_range]
/-- Words.firstAlike -/
theorem ev_S23 {z c : Nat} {fo : Nat → Option ab_Ls} {o : Option ab_Ls} (A : ev_all w) (hfo : ab_FO m fo) (hz : ev_isL z c) (hc : c < 5000) (ho : ab_F m z o) (hol : ab_ol o ≤ c)
    (hQ : Q (.inl (some (.int (ab_oi ((List.range 40).find? (ab_fa m fo o)))))) m t) : ev_K w 23 [.ref 40, .ref z] m t Q := by
  have hp : ev_prog[23]? = some ev_m23 := rfl
  have e40 : ((Int8.ofInt 40).toInt32).toInt = 40 := by decide
  have lz := ab_F_len ho
  have loop : ∀ (n k : Nat), k + n = 40 → (List.range 40).find? (ab_fa m fo o) = ((List.range 40).drop k).find? (ab_fa m fo o) → ev_J w ev_m23 (ev_nd 23) Q 2 [some (.ref 40), some (.ref z), some (.int (Int32.ofNat k))] [] m t := by
    intro n
    induction n with
    | zero =>
      intro k hk hall
      have ek := ev_ofNat_i (n := k) (by omega)
      refine ev_gK A hp [] 10 ?_
      refine And.intro (fun h => ?_) (fun h => ?_)
      · have hk40 : k = 40 := by omega
        rw [hk40] at hall
        have e1 : ((List.range 40).drop 40).find? (ab_fa m fo o) = none := rfl
        rw [hall, e1] at hQ
        exact hQ
      · have h2 : (Int32.ofNat k).toInt < ((Int8.ofInt 40).toInt32).toInt := h
        omega
    | succ n ih =>
      intro k hk hall
      have ek := ev_ofNat_i (n := k) (by omega)
      have hk40 : k < 40 := by omega
      rw [ab_range_drop hk40, List.find?_cons] at hall
      refine ev_gK A hp [2] 20 ?_
      refine And.intro (fun h => ?_) (fun h => ?_)
      · have h2 : ((Int8.ofInt 40).toInt32).toInt ≤ (Int32.ofNat k).toInt := h
        omega
      refine ev_S24 A hk40 ?_
      have nextk : ab_fa m fo o k = false → ev_J w ev_m23 (ev_nd 23) Q 2 [some (.ref 40), some (.ref z), some (.int (Int32.ofNat k + 1))] [] m t := by
        intro hf
        rw [ev_succ (by omega)]
        rw [hf] at hall
        exact ih (k + 1) (by omega) hall
      refine And.intro (fun h => ?_) (fun h => ?_)
      · exact nextk (by rw [ab_fa, ab_bi_eq h]; rfl)
      · have hth := ab_bi_neq h
        obtain ⟨hF, hF2⟩ := hfo k hk40 hth
        have lk := ab_F_len hF
        refine And.intro (ev_oin hk40 (by decide)) ?_
        show ev_K w 12 [.ref (45 + 4 * (Int32.ofNat k).toNatClampNeg), .ref z] m t _
        rw [ev_on (by omega)]
        refine ev_S12 A (ev_isLf hk40) hz (by decide) (by omega) lk.1 (by omega) (by omega) (fun q => ?_) (fun q => ?_)
        · have hfk : ab_fa m fo o k = true := by rw [ab_fa, hth, decide_eq_true ((ab_sm_iff hF ho).mp q)]; rfl
          rw [hfk] at hall
          rw [hall] at hQ
          exact And.intro (fun h => (ev_ne10 h).elim) (fun h => hQ)
        · have hfk : ab_fa m fo o k = false := by rw [ab_fa, hth, decide_eq_false (fun e => q ((ab_sm_iff hF ho).mpr e))]; rfl
          exact And.intro (fun h => nextk hfk) (fun h => absurd ev_eq00 h)
  refine ⟨Or.inr ⟨40, _, rfl, rfl⟩, ev_m23, rfl, ev_gK A hp [2] 10 ?_⟩
  exact loop 40 0 rfl rfl
/-- Words.makeEqual -/
def ab_me (m : ev_Mem) (a b n : Nat) : ev_Mem := fun k j => if k = 205 ∧ j < n ∧ ab_th m j = true ∧ (m 205 j).toInt = (m 205 a).toInt then m 205 b else m k j
theorem ab_me_th (m : ev_Mem) (a b n x : Nat) : ab_th (ab_me m a b n) x = ab_th m x := by
  unfold ab_th
  rw [ab_me, if_neg (fun h => by omega)]
theorem ev_S29 {a b : Nat} (A : ev_all w) (ha : a < 40) (hb : b < 40) (hQ : Q (.inl none) (ab_me m a b 40) t) : ev_K w 29 [.ref 40, .int (Int32.ofNat a), .int (Int32.ofNat b)] m t Q := by
  have hp : ev_prog[29]? = some ev_m29 := rfl
  have e40 : ((Int8.ofInt 40).toInt32).toInt = 40 := by decide
  have loop : ∀ (n k : Nat), k + n = 40 → ev_J w ev_m29 (ev_nd 29) Q 18 [some (.ref 40), some (.int (Int32.ofNat a)), some (.int (Int32.ofNat b)), some (.int (m 205 a)), some (.int (m 205 b)), some (.int (Int32.ofNat k))] [] (ab_me m a b k) t := by
    intro n
    induction n with
    | zero =>
      intro k hk
      have ek := ev_ofNat_i (n := k) (by omega)
      refine ev_gK A hp [] 10 ?_
      refine And.intro (fun h => ?_) (fun h => ?_)
      · have hk40 : k = 40 := by omega
        rw [hk40]
        exact hQ
      · have h2 : (Int32.ofNat k).toInt < ((Int8.ofInt 40).toInt32).toInt := h
        omega
    | succ n ih =>
      intro k hk
      have ek := ev_ofNat_i (n := k) (by omega)
      have hk40 : k < 40 := by omega
      have hsame : ¬ (ab_th m k = true ∧ (m 205 k).toInt = (m 205 a).toInt) → ab_me m a b (k + 1) = ab_me m a b k := by
        intro hno
        funext x j
        unfold ab_me
        by_cases hj : j = k
        · subst hj
          rw [if_neg (fun q => hno q.2.2), if_neg (fun q => hno q.2.2)]
        · by_cases hc : x = 205 ∧ j < k ∧ ab_th m j = true ∧ (m 205 j).toInt = (m 205 a).toInt
          · rw [if_pos hc, if_pos ⟨hc.1, by omega, hc.2.2⟩]
          · rw [if_neg hc, if_neg (fun q => hc ⟨q.1, by omega, q.2.2⟩)]
      have next : ¬ (ab_th m k = true ∧ (m 205 k).toInt = (m 205 a).toInt) → ev_J w ev_m29 (ev_nd 29) Q 18 [some (.ref 40), some (.int (Int32.ofNat a)), some (.int (Int32.ofNat b)), some (.int (m 205 a)), some (.int (m 205 b)), some (.int (Int32.ofNat k + 1))] [] (ab_me m a b k) t := by
        intro hno
        rw [ev_succ (by omega), ← hsame hno]
        exact ih (k + 1) (by omega)
      have hk205 : ab_me m a b k 205 k = m 205 k := if_neg (fun q => by omega)
      refine ev_gK A hp [18] 30 ?_
      refine And.intro (fun h => ?_) (fun h => ?_)
      · have h2 : ((Int8.ofInt 40).toInt32).toInt ≤ (Int32.ofNat k).toInt := h
        omega
      refine ev_S24 A hk40 ?_
      rw [ab_me_th]
      refine And.intro (fun h => ?_) (fun h => ?_)
      · exact next (fun q => by rw [ab_bi_eq h] at q; exact Bool.noConfusion q.1)
      · have hth := ab_bi_neq h
        have nk : (Int32.ofNat k).toNatClampNeg = k := ev_on (by omega)
        refine And.intro (ev_oin hk40 (by decide)) ?_
        refine And.intro (fun h => ?_) (fun h => ?_)
        · have h2 : ¬ (ab_me m a b k 205 (Int32.ofNat k).toNatClampNeg).toInt = (m 205 a).toInt := h
          rw [nk, hk205] at h2
          exact next (fun q => h2 q.2)
        · have h2 : (ab_me m a b k 205 (Int32.ofNat k).toNatClampNeg).toInt = (m 205 a).toInt := h
          rw [nk, hk205] at h2
          refine And.intro (ev_oin hk40 (by decide)) ?_
          show ev_J w ev_m29 (ev_nd 29) Q 18 [some (.ref 40), some (.int (Int32.ofNat a)), some (.int (Int32.ofNat b)), some (.int (m 205 a)), some (.int (m 205 b)), some (.int (Int32.ofNat k + 1))] [] (ev_up (ab_me m a b k) 205 (Int32.ofNat k).toNatClampNeg (m 205 b)) t
          have e1 : ev_up (ab_me m a b k) 205 k (m 205 b) = ab_me m a b (k + 1) := by
            funext x j
            unfold ev_up ab_me
            by_cases hj : x = 205 ∧ j = k
            · rw [if_pos hj, if_pos ⟨hj.1, by omega, by rw [hj.2]; exact hth, by rw [hj.2]; exact h2⟩]
            · rw [if_neg hj]
              by_cases hc : x = 205 ∧ j < k ∧ ab_th m j = true ∧ (m 205 j).toInt = (m 205 a).toInt
              · rw [if_pos hc, if_pos ⟨hc.1, by omega, hc.2.2⟩]
              · rw [if_neg hc, if_neg (fun q => hc ⟨q.1, by have := q.2.1; have : j ≠ k := fun e => hj ⟨q.1, e⟩; omega, q.2.2⟩)]
          rw [nk, ev_succ (by omega), e1]
          exact ih (k + 1) (by omega)
  refine ⟨Or.inr ⟨40, _, rfl, rfl⟩, ev_m29, rfl, ev_gK A hp [18] 20 ?_⟩
  refine And.intro (ev_oin ha (by decide)) ?_
  refine And.intro (ev_oin hb (by decide)) ?_
  show ev_J w ev_m29 (ev_nd 29) Q 18 [some (.ref 40), some (.int (Int32.ofNat a)), some (.int (Int32.ofNat b)), some (.int (m 205 (Int32.ofNat a).toNatClampNeg)), some (.int (m 205 (Int32.ofNat b).toNatClampNeg)), some (.int (Int32.ofNat 0))] [] m t
  rw [ev_on (by omega), ev_on (by omega)]
  have e0 : ab_me m a b 0 = m := by
    funext x j
    unfold ab_me
    rw [if_neg (fun q => by omega)]
  have h1 := loop 40 0 rfl
  rw [e0] at h1
  exact h1
end EvMarks
