/-! the class's joiner: the way, laid -/
section EvPath
variable {w : ev_W} {Q : ev_QT} {m : ev_Mem} {t : ev_H}
abbrev ev_vr (x : Nat) : Option Value := some (.ref x)
abbrev ev_vi (x : Int32) : Option Value := some (.int x)
abbrev ev_vn (n : Nat) : Option Value := some (.int (Int32.ofNat n))
theorem ev_lup {P : Nat → Prop} (N : Nat) (h : ∀ k, k ≤ N → (k < N → P (k + 1)) → P k) : ∀ k, k ≤ N → P k := by
  have key : ∀ n k, k + n = N → P k := by
    intro n
    induction n with
    | zero => intro k hk; exact h k (by omega) (fun q => by omega)
    | succ n ih => intro k hk; exact h k (by omega) (fun _ => ih (k + 1) (by omega))
  intro k hk
  exact key (N - k) k (by omega)
theorem ev_iin {i : Int32} {k n : Nat} (h : i = Int32.ofNat k) (hk : k < n) (hn : n < 100000) : ev_in i n := by rw [h]; exact ev_oin hk hn
theorem ev_at {i : Int32} {k : Nat} (h : i = Int32.ofNat k) (hk : k < 2147483648) : i.toNatClampNeg = k := by rw [h]; exact ev_on hk
theorem ev_toI {i : Int32} {k : Nat} (h : i = Int32.ofNat k) (hk : k < 2147483648) : i.toInt = (k : Int) := by rw [h]; exact ev_ofNat_i hk
theorem ab_drop_cons {α : Type} {l : List α} {k : Nat} {x d : α} {r : List α} (h : l.drop k = x :: r) : l.getD k d = x ∧ l.drop (k + 1) = r ∧ k < l.length := by
  have hk : k < l.length := by
    apply Nat.lt_of_not_le
    intro hle
    rw [List.drop_of_length_le hle] at h
    cases h
  rw [List.drop_eq_getElem_cons hk] at h
  injection h with h1 h2
  exact ⟨by rw [List.getD_eq_getElem?_getD, List.getElem?_eq_getElem hk]; exact h1, h2, hk⟩
theorem ab_S_cs (g : Nat → Nat → Nat) {a b : Nat} (h : ¬ (a = 0 ∧ b = 0)) : (ab_S g a b = 0 ∧ 0 < a ∧ 0 < b) ∨ (ab_S g a b = 1 ∧ 0 < a) ∨ (ab_S g a b = 2 ∧ 0 < b) := by
  unfold ab_S
  split
  · rename_i q; exact Or.inl ⟨rfl, q.1, q.2.1⟩
  · split
    · rename_i q; exact Or.inr (Or.inl ⟨rfl, q.1⟩)
    · rename_i q2
      refine Or.inr (Or.inr ⟨rfl, ?_⟩)
      cases b with
      | zero =>
        cases a with
        | zero => exact absurd ⟨rfl, rfl⟩ h
        | succ a => exact absurd ⟨by omega, ab_Cs0 g a⟩ q2
      | succ b => omega
def ab_P (g : Nat → Nat → Nat) : Nat → Nat → Nat → List Nat
  | 0, _, _ => []
  | n + 1, a, b => if a = 0 ∧ b = 0 then [] else ab_S g a b :: ab_P g n (if ab_S g a b = 2 then a else a - 1) (if ab_S g a b = 1 then b else b - 1)
def ab_path (g : Nat → Nat → Nat) (a b : Nat) : List Nat := ab_P g (a + b) a b
theorem ab_P_eq (g : Nat → Nat → Nat) : ∀ (n n' a b : Nat), a + b ≤ n → a + b ≤ n' → ab_P g n a b = ab_P g n' a b
  | 0, 0, _, _, _, _ => rfl
  | 0, n' + 1, a, b, h, _ => by rw [ab_P, ab_P, if_pos ⟨by omega, by omega⟩]
  | n + 1, 0, a, b, _, h => by rw [ab_P, ab_P, if_pos ⟨by omega, by omega⟩]
  | n + 1, n' + 1, a, b, h, h' => by
    rw [ab_P, ab_P]
    by_cases hz : a = 0 ∧ b = 0
    · rw [if_pos hz, if_pos hz]
    · rw [if_neg hz, if_neg hz]
      refine congrArg _ (ab_P_eq g n n' _ _ ?_ ?_)
      all_goals
        rcases ab_S_cs g hz with ⟨q, q1, q2⟩ | ⟨q, q1⟩ | ⟨q, q1⟩
        all_goals
          rw [q]
          simp
          omega
theorem ab_path_nil (g : Nat → Nat → Nat) : ab_path g 0 0 = [] := rfl
theorem ab_path_step (g : Nat → Nat → Nat) {a b : Nat} (h : ¬ (a = 0 ∧ b = 0)) : ab_path g a b = ab_S g a b :: ab_path g (if ab_S g a b = 2 then a else a - 1) (if ab_S g a b = 1 then b else b - 1) := by
  have e : ab_path g a b = ab_P g (a + b + 1) a b := ab_P_eq g _ _ _ _ (Nat.le_refl _) (Nat.le_succ _)
  rw [e, ab_P, if_neg h]
  refine congrArg _ (ab_P_eq g _ _ _ _ ?_ (Nat.le_refl _))
  rcases ab_S_cs g h with ⟨q, q1, q2⟩ | ⟨q, q1⟩ | ⟨q, q1⟩ <;> rw [q] <;> simp <;> omega
theorem ab_path_len (g : Nat → Nat → Nat) : ∀ (n a b : Nat), (ab_P g n a b).length ≤ n
  | 0, _, _ => Nat.le_refl _
  | n + 1, a, b => by
    rw [ab_P]
    split
    · exact Nat.zero_le _
    · rw [List.length_cons]; exact Nat.succ_le_succ (ab_path_len g n _ _)
/-- Joiner.layPath -/
theorem ev_S56 {g : Nat → Nat → Nat} {N J : Nat} (A : ev_all w) (h4 : m 213 4 = Int32.ofNat N) (h5 : m 213 5 = Int32.ofNat J) (hN : N ≤ 24) (hJ : J ≤ 10) (hd : ab_dn m g N J 0 0)
    (hQ : ∀ m' : ev_Mem, (∀ c i, c ≠ 216 → ¬ (c = 213 ∧ i = 3) → m' c i = m c i) → m' 213 3 = Int32.ofNat (ab_path g N J).length → (∀ i, i < (ab_path g N J).length → m' 216 i = Int32.ofNat ((ab_path g N J).getD i 0)) → Q (.inl none) m' t) : ev_K w 56 [.ref 213] m t Q := by
  have hp : ev_prog[56]? = some ev_m56 := rfl
  have loop : ∀ (n p j k : Nat) (pp jj kk : Int32) (mk : ev_Mem) (o4 : Option Value), (N - p) + (J - j) = n → p ≤ N → j ≤ J → k + n ≤ 34 → pp = Int32.ofNat p → jj = Int32.ofNat j → kk = Int32.ofNat k → k ≤ (ab_path g N J).length → (∀ c i, c ≠ 216 → ¬ (c = 213 ∧ i = 3) → mk c i = m c i) → mk 213 3 = Int32.ofNat k → (∀ i, i < k → mk 216 i = Int32.ofNat ((ab_path g N J).getD i 0)) → (ab_path g N J).drop k = ab_path g (N - p) (J - j) →
      ev_J w ev_m56 (ev_nd 56) Q 11 [ev_vr 213, ev_vi pp, ev_vi jj, ev_vi kk, o4] [] mk t := by
    intro n
    induction n using Nat.strongRecOn with
    | _ n ih =>
      intro p j k pp jj kk mk o4 hn hpN hjJ hk epp ejj ekk hkl hf h3 hall hdr
      subst epp ejj ekk
      have ep := ev_ofNat_i (n := p) (by omega)
      have ej := ev_ofNat_i (n := j) (by omega)
      have ek := ev_ofNat_i (n := k) (by omega)
      have e34 := ev_ofNat_i (n := 34) (by omega)
      have eN := ev_ofNat_i (n := N) (by omega)
      have eJ := ev_ofNat_i (n := J) (by omega)
      have f4 : mk 213 4 = Int32.ofNat N := by rw [hf _ _ (by decide) (by decide)]; exact h4
      have f5 : mk 213 5 = Int32.ofNat J := by rw [hf _ _ (by decide) (by decide)]; exact h5
      have fin : N - p = 0 ∧ J - j = 0 → Q (.inl none) mk t := by
        rintro ⟨q1, q2⟩
        rw [q1, q2, ab_path_nil] at hdr
        have hl : (ab_path g N J).length = k := by
          have := List.drop_eq_nil_iff.mp hdr
          omega
        exact hQ mk hf (by rw [hl]; exact h3) (fun i hi => hall i (by omega))
      have body : ¬ (N - p = 0 ∧ J - j = 0) → ev_J w ev_m56 (ev_nd 56) Q 36 [ev_vr 213, ev_vn p, ev_vn j, ev_vn k, o4] [] mk t := by
        intro hz
        have e11 : Int32.ofNat p * (Int8.ofInt 11).toInt32 + Int32.ofNat j = Int32.ofNat (11 * p + j) := ev_row11 (by omega) (by omega)
        have hS : mk 215 (11 * p + j) = Int32.ofNat (ab_S g (N - p) (J - j)) := by
          rw [hf _ _ (by decide) (by omega)]
          exact (hd p j hpN hjJ (by omega)).2 (by omega)
        rw [ab_path_step g hz] at hdr
        obtain ⟨d1, d2, d3⟩ := ab_drop_cons (d := 0) hdr
        have b67 : ∀ (s : Int32) (m2 : ev_Mem), s = Int32.ofNat (ab_S g (N - p) (J - j)) → (∀ c i, c ≠ 216 → ¬ (c = 213 ∧ i = 3) → m2 c i = m c i) → m2 213 3 = Int32.ofNat (k + 1) → (∀ i, i < k + 1 → m2 216 i = Int32.ofNat ((ab_path g N J).getD i 0)) → ev_J w ev_m56 (ev_nd 56) Q 67 [ev_vr 213, ev_vn p, ev_vn j, ev_vn k, ev_vi s] [] m2 t := by
          intro s m2 hs hf2 h32 hall2
          have i2 : (Int32.ofInt 2).toInt = 2 := by decide
          have i1 : (Int32.ofInt 1).toInt = 1 := by decide
          refine ev_gK A hp [11] 20 ?_
          rcases ab_S_cs g hz with ⟨q, q1, q2⟩ | ⟨q, q1⟩ | ⟨q, q1⟩
          · rw [q] at hs d2
            have es := ev_toI hs (by omega)
            refine And.intro (fun (h : s.toInt = (Int32.ofInt 2).toInt) => by omega) (fun h => ?_)
            refine And.intro (fun (h : s.toInt = (Int32.ofInt 1).toInt) => by omega) (fun h => ?_)
            exact ih (n - 2) (by omega) (p + 1) (j + 1) (k + 1) _ _ _ _ _ (by omega) (by omega) (by omega) (by omega) (ev_succ (by omega)) (ev_succ (by omega)) (ev_succ (by omega)) (by omega) hf2 h32 hall2 d2
          · rw [q] at hs d2
            have es := ev_toI hs (by omega)
            refine And.intro (fun (h : s.toInt = (Int32.ofInt 2).toInt) => by omega) (fun h => ?_)
            refine And.intro (fun h => ?_) (fun (h : ¬ s.toInt = (Int32.ofInt 1).toInt) => by omega)
            exact ih (n - 1) (by omega) (p + 1) j (k + 1) _ _ _ _ _ (by omega) (by omega) (by omega) (by omega) (ev_succ (by omega)) rfl (ev_succ (by omega)) (by omega) hf2 h32 hall2 d2
          · rw [q] at hs d2
            have es := ev_toI hs (by omega)
            refine And.intro (fun h => ?_) (fun (h : ¬ s.toInt = (Int32.ofInt 2).toInt) => by omega)
            refine And.intro (fun (h : s.toInt = (Int32.ofInt 1).toInt) => by omega) (fun h => ?_)
            exact ih (n - 1) (by omega) p (j + 1) (k + 1) _ _ _ _ _ (by omega) (by omega) (by omega) (by omega) rfl (ev_succ (by omega)) (ev_succ (by omega)) (by omega) hf2 h32 hall2 d2
        refine ev_gK A hp [67] 30 ?_
        refine And.intro (ev_iin e11 (by omega : 11 * p + j < 275) (by decide)) ?_
        refine And.intro (ev_oin (by omega) (by decide)) ?_
        refine b67 _ _ (by rw [ev_at e11 (by omega)]; exact hS) (fun c i z1 z2 => ?_) ?_ (fun i hi => ?_)
        · unfold ev_up
          rw [if_neg (fun q => z2 q), if_neg (fun q => z1 q.1)]
          exact hf c i z1 z2
        · rw [ev_up_same, ev_up_cell _ (by decide), h3]
          exact ev_succ (by omega)
        · rw [ev_up_cell _ (by decide), ev_on (by omega)]
          by_cases hik : i = k
          · rw [hik, ev_up_same, ev_at e11 (by omega), d1]
            exact hS
          · rw [ev_up_idx _ _ hik]
            exact hall i (by omega)
      refine ev_gK A hp [36] 20 ?_
      refine And.intro (fun (h : (Int32.ofNat 34).toInt ≤ (Int32.ofNat k).toInt) => fin (by omega)) (fun h => ?_)
      refine And.intro (fun (h : (Int32.ofNat p).toInt < (mk 213 4).toInt) => body (by rw [f4] at h; omega)) (fun (h2 : (mk 213 4).toInt ≤ (Int32.ofNat p).toInt) => ?_)
      rw [f4] at h2
      refine And.intro (fun (h : (mk 213 5).toInt ≤ (Int32.ofNat j).toInt) => fin (by rw [f5] at h; omega)) (fun (h : (Int32.ofNat j).toInt < (mk 213 5).toInt) => body (by rw [f5] at h; omega))
  refine ⟨Or.inr ⟨213, _, rfl, rfl⟩, ev_m56, rfl, ev_gK A hp [11] 20 ?_⟩
  refine loop _ 0 0 0 _ _ _ _ _ rfl (by omega) (by omega) (by omega) rfl rfl rfl (by omega) (fun c i z1 z2 => if_neg z2) (ev_up_same _ _ _ _) (fun i hi => by omega) rfl
/-- Joiner.plan -/
theorem ev_S52 {v N J : Nat} {T : ab_T} {fo : Nat → Option ab_Ls} (A : ev_all w) (hT : ab_TC m T) (hok : ab_Tok T) (hv : v < 4) (hN : N = T.1) (hJ : (m 203 v).toInt = (J : Int)) (hJ10 : J ≤ 10) (hFO : ab_FO m fo) (hth : ∀ j, j < J → ab_th m (10 * v + j) = true) (hcell : ∀ p v i, p < T.1 → v < 4 → T.2.1 p v = some i → ab_th m (10 * v + i) = true) (haz : ∀ y l, y < 40 → ab_th m y = true → fo y = some l → ab_az l)
    (hQ : ∀ m' : ev_Mem, (∀ c i, c ≠ 208 → (c < 213 ∨ 216 < c) → m' c i = m c i) → m' 213 4 = Int32.ofNat N → m' 213 5 = Int32.ofNat J → m' 213 3 = Int32.ofNat (ab_path (ab_gm T (ab_dst m fo) v N J) N J).length → (∀ i, i < (ab_path (ab_gm T (ab_dst m fo) v N J) N J).length → m' 216 i = Int32.ofNat ((ab_path (ab_gm T (ab_dst m fo) v N J) N J).getD i 0)) → Q (.inl (some (.int (Int32.ofNat (ab_C (ab_gm T (ab_dst m fo) v N J) N J))))) m' t) :
    ev_K w 52 [.ref 213, .ref 209, .ref 40, .int (Int32.ofNat v)] m t Q := by
  have hp : ev_prog[52]? = some ev_m52 := rfl
  have k1 := hok.1
  have e2 : m 209 2 = Int32.ofNat N := by
    apply ev_eq_of
    rw [hT.1, ev_ofNat_i (by omega), hN]
  have e3 : m 203 v = Int32.ofNat J := by
    apply ev_eq_of
    rw [hJ, ev_ofNat_i (by omega)]
  refine ⟨Or.inr ⟨213, _, rfl, rfl⟩, ev_m52, rfl, ev_gK A hp [17] 20 ?_⟩
  refine ev_S36 A ?_
  refine ev_S26 A hv ?_
  have d1 : ∀ c i, c ≠ 213 → ev_up (ev_up m 213 4 (m 209 2)) 213 5 (ev_up m 213 4 (m 209 2) 203 v) c i = m c i := fun c i h => by rw [ev_up_cell _ h, ev_up_cell _ h]
  have d4 : ev_up (ev_up m 213 4 (m 209 2)) 213 5 (ev_up m 213 4 (m 209 2) 203 v) 213 4 = Int32.ofNat N := by rw [ev_up_idx _ _ (by decide), ev_up_same]; exact e2
  have d5 : ev_up (ev_up m 213 4 (m 209 2)) 213 5 (ev_up m 213 4 (m 209 2) 203 v) 213 5 = Int32.ofNat J := by rw [ev_up_same, ev_up_cell _ (by decide)]; exact e3
  show ev_J w ev_m52 (ev_nd 52) Q 17 [ev_vr 213, ev_vr 209, ev_vr 40, ev_vn v, none, none, none] [] (ev_up (ev_up m 213 4 (m 209 2)) 213 5 (ev_up m 213 4 (m 209 2) 203 v)) t
  generalize ev_up (ev_up m 213 4 (m 209 2)) 213 5 (ev_up m 213 4 (m 209 2) 203 v) = m1 at *
  have hthk : ∀ z, ab_th m1 z = ab_th m z := ab_th_cong (fun j => d1 _ _ (by decide))
  have hFO1 : ab_FO m1 fo := by
    intro x hx ht
    rw [hthk] at ht
    obtain ⟨a, b⟩ := hFO x hx ht
    exact ⟨ab_F_cong (fun j => d1 _ _ (by omega)) (fun j => d1 _ _ (by omega)) a, b⟩
  have ed : ab_dst m1 fo = ab_dst m fo := by
    funext x y
    unfold ab_dst
    rw [d1 205 _ (by decide), d1 205 _ (by decide)]
  refine ev_plan (fo := fo) (T := T) (N := N) (J := J) A (ab_TC_cong (fun k j z1 z2 => d1 k j (by omega)) hT) hok hv hN hJ10 hFO1 (fun j hj => by rw [hthk]; exact hth j hj) (fun p u i z1 z2 z3 => by rw [hthk]; exact hcell p u i z1 z2 z3) (fun y l z1 z2 z3 => haz y l z1 (by rw [← hthk]; exact z2) z3) d4 d5 (fun mk o5 o6 hf hdn => ?_)
  rw [ed] at hdn
  refine ev_gK A hp [] 20 ?_
  show ev_K w 56 [.ref 213] mk t _
  refine ev_S56 (g := ab_gm T (ab_dst m fo) v N J) A (by rw [hf _ _ (by decide) (by decide) (by decide)]; exact d4) (by rw [hf _ _ (by decide) (by decide) (by decide)]; exact d5) (by omega) hJ10 hdn (fun m' hf' z3 zp => ?_)
  refine And.intro (ev_oin (by decide) (by decide)) ?_
  show Q (.inl (some (.int (m' 214 0)))) m' t
  have h0 := (hdn 0 0 (by omega) (by omega) (by omega)).1
  rw [hf' 214 0 (by decide) (by decide)]
  have e0 : mk 214 0 = Int32.ofNat (ab_C (ab_gm T (ab_dst m fo) v N J) N J) := h0
  rw [e0]
  refine hQ m' (fun c i z1 z2 => ?_) ?_ ?_ z3 zp
  · rw [hf' c i (by omega) (by omega), hf c i z1 (by omega) (by omega), d1 c i (by omega)]
  · rw [hf' _ _ (by decide) (by decide), hf _ _ (by decide) (by decide) (by decide)]; exact d4
  · rw [hf' _ _ (by decide) (by decide), hf _ _ (by decide) (by decide) (by decide)]; exact d5
end EvPath
