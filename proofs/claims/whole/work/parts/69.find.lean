/-! the class's finder of blocks: all of them -/
section EvFind
variable {w : ev_W} {Q : ev_QT} {m : ev_Mem} {t : ev_H}
def ab_run2 (f : Nat → Nat → Bool) (i j : Nat) : Nat := ab_cnt (fun n => f (i + n) (j + n)) (10 - max i j) 0
def ab_st (f : Nat → Nat → Bool) (i j : Nat) : Bool := decide ((i = 0 ∨ j = 0 ∨ f (i - 1) (j - 1) = false) ∧ 2 ≤ ab_run2 f i j)
def ab_bc (f : Nat → Nat → Bool) (i j : Nat) : List (Nat × Nat × Nat) := if ab_st f i j = true then [(i, j, ab_run2 f i j)] else []
def ab_bj (f : Nat → Nat → Bool) (i : Nat) : Nat → List (Nat × Nat × Nat)
  | 0 => []
  | j + 1 => ab_bj f i j ++ ab_bc f i j
def ab_bks (f : Nat → Nat → Bool) (c : Nat) : Nat → List (Nat × Nat × Nat)
  | 0 => []
  | i + 1 => ab_bks f c i ++ ab_bj f i c
theorem ab_bj_len (f : Nat → Nat → Bool) (i : Nat) : ∀ j, (ab_bj f i j).length = ab_cn (ab_st f i) j
  | 0 => rfl
  | j + 1 => by
    have h := ab_bj_len f i j
    rw [ab_bj, List.length_append, ab_cn, h]
    unfold ab_bc
    split <;> rfl
theorem ab_cn_mono (f : Nat → Bool) : ∀ (n k : Nat), ab_cn f k ≤ ab_cn f (k + n)
  | 0, _ => Nat.le_refl _
  | n + 1, k => by
    have h1 := ab_cn_mono f n k
    rw [← Nat.add_assoc, ab_cn]
    omega
theorem ab_st_two {f : Nat → Nat → Bool} {i j : Nat} (h : ab_st f i j = true) : i < 9 ∧ j < 9 ∧ ab_st f (i + 1) (j + 1) = false := by
  have h1 := of_decide_eq_true h
  have h2 := h1.2
  have h3 := ab_cnt_le (fun n => f (i + n) (j + n)) (10 - max i j) 0
  unfold ab_run2 at h2
  refine ⟨by omega, by omega, decide_eq_false ?_⟩
  rintro ⟨q, -⟩
  obtain ⟨n, hn⟩ : ∃ n, 10 - max i j = n + 1 := ⟨10 - max i j - 1, by omega⟩
  rw [hn, ab_cnt] at h2
  split at h2
  · rename_i hf
    rcases q with q | q | q
    · omega
    · omega
    · rw [Nat.add_sub_cancel, Nat.add_sub_cancel] at q
      rw [Nat.add_zero, Nat.add_zero] at hf
      rw [hf] at q
      cases q
  · omega
theorem ab_st_pair (f : Nat → Nat → Bool) (i : Nat) : ab_cn (ab_st f i) 10 + ab_cn (ab_st f (i + 1)) 10 ≤ 10 := by
  have key : ∀ n, ab_cn (ab_st f i) n + ab_cn (ab_st f (i + 1)) (n + 1) ≤ n + 1 := by
    intro n
    induction n with
    | zero =>
      have h1 := ab_cn_le (ab_st f (i + 1)) (0 + 1)
      have h2 : ab_cn (ab_st f i) 0 = 0 := rfl
      omega
    | succ n ih =>
      have e1 : ab_cn (ab_st f i) (n + 1) = ab_cn (ab_st f i) n + (if ab_st f i n = true then 1 else 0) := rfl
      have e2 : ab_cn (ab_st f (i + 1)) (n + 1 + 1) = ab_cn (ab_st f (i + 1)) (n + 1) + (if ab_st f (i + 1) (n + 1) = true then 1 else 0) := rfl
      rw [e1, e2]
      cases h : ab_st f i n with
      | true =>
        rw [(ab_st_two h).2.2]
        simp only [if_true, Bool.false_eq_true, if_false]
        omega
      | false =>
        simp only [Bool.false_eq_true, if_false]
        split <;> omega
  have h9 : ab_cn (ab_st f i) 9 + ab_cn (ab_st f (i + 1)) 10 ≤ 10 := key 9
  have e : ab_cn (ab_st f i) 10 = ab_cn (ab_st f i) 9 := by
    rw [ab_cn, if_neg (fun h => by have := (ab_st_two h).2.1; omega)]
    rfl
  omega
theorem ab_bks_le (f : Nat → Nat → Bool) {c : Nat} (hc : c ≤ 10) : ∀ k, (ab_bks f c (2 * k)).length ≤ 10 * k
  | 0 => Nat.le_refl _
  | k + 1 => by
    have h := ab_bks_le f hc k
    have h1 := ab_st_pair f (2 * k)
    have e1 := ab_bj_len f (2 * k) c
    have e2 := ab_bj_len f (2 * k + 1) c
    have m1 := ab_cn_mono (ab_st f (2 * k)) (10 - c) c
    have m2 := ab_cn_mono (ab_st f (2 * k + 1)) (10 - c) c
    rw [(by omega : c + (10 - c) = 10)] at m1 m2
    rw [(by omega : 2 * (k + 1) = 2 * k + 1 + 1), ab_bks, ab_bks, List.length_append, List.length_append]
    omega
theorem ab_bks_mono (f : Nat → Nat → Bool) (c : Nat) : ∀ (n k : Nat), (ab_bks f c k).length ≤ (ab_bks f c (k + n)).length
  | 0, _ => Nat.le_refl _
  | n + 1, k => by
    have h1 := ab_bks_mono f c n k
    rw [← Nat.add_assoc, ab_bks, List.length_append]
    omega
theorem ab_bj_mono (f : Nat → Nat → Bool) (i : Nat) : ∀ (n k : Nat), (ab_bj f i k).length ≤ (ab_bj f i (k + n)).length
  | 0, _ => Nat.le_refl _
  | n + 1, k => by
    have h1 := ab_bj_mono f i n k
    rw [← Nat.add_assoc, ab_bj, List.length_append]
    omega
theorem ab_bks_50 (f : Nat → Nat → Bool) {c n : Nat} (hc : c ≤ 10) (hn : n ≤ 10) : (ab_bks f c n).length ≤ 50 := by
  have h1 : (ab_bks f c 10).length ≤ 50 := ab_bks_le f hc 5
  have h2 := ab_bks_mono f c (10 - n) n
  rw [(by omega : n + (10 - n) = 10)] at h2
  omega
/-- BlockFinder.find -/
theorem ev_S88 {u v a b : Nat} {T : ab_T} {fo : Nat → Option ab_Ls} {eq : Nat → Nat → Bool} (A : ev_all w) (hE : ab_E m T fo) (hEq : ab_EQ m eq) (hu : u < 4) (hv : v < 4) (ha : (m 203 u).toInt = (a : Int)) (hb : (m 203 v).toInt = (b : Int)) (ha10 : a ≤ 10) (hb10 : b ≤ 10)
    (hQ : ∀ m', ab_frk m m' → ab_K m' (ab_bks (fun i j => ab_mv T (ab_th m) fo eq (10 * u + i) (10 * v + j)) b a) → Q (.inl (some (.int (Int32.ofNat (ab_bks (fun i j => ab_mv T (ab_th m) fo eq (10 * u + i) (10 * v + j)) b a).length)))) m' t) : ev_K w 88 [.ref 271, .ref 209, .ref 40, .int (Int32.ofNat u), .int (Int32.ofNat v)] m t Q := by
  have hp : ev_prog[88]? = some ev_m88 := rfl
  obtain ⟨f, hf⟩ : ∃ f, (fun i j => ab_mv T (ab_th m) fo eq (10 * u + i) (10 * v + j)) = f := ⟨_, rfl⟩
  have hff : ∀ i j, f i j = ab_mv T (ab_th m) fo eq (10 * u + i) (10 * v + j) := fun i j => by rw [← hf]
  rw [hf] at hQ
  have envE : ∀ mk, ab_frk m mk → ab_E mk T fo ∧ ab_EQ mk eq ∧ ab_th mk = ab_th m := fun mk fk => by
    have hth : ∀ z, ab_th mk z = ab_th m z := ab_th_cong (fun j => fk _ _ (by decide) (by decide))
    refine ⟨ab_E_cong (fun c i _ z => fk c i (by omega) (by omega)) hE, fun x y z1 z2 z3 z4 => ?_, funext hth⟩
    rw [hth] at z3 z4
    rw [fk 205 x (by decide) (by decide), fk 205 y (by decide) (by decide)]
    exact hEq x y z1 z2 z3 z4
  have inner : ∀ i, i < a → (∀ (ii : Int32) (mk : ev_Mem) (o6 : Option Value), ii = Int32.ofNat (i + 1) → ab_frk m mk → ab_K mk (ab_bks f b (i + 1)) → ev_J w ev_m88 (ev_nd 88) Q 8 [ev_vr 271, ev_vr 209, ev_vr 40, ev_vn u, ev_vn v, ev_vi ii, o6] [] mk t) →
      ∀ j, j ≤ b → ∀ (jj : Int32) (mk : ev_Mem), jj = Int32.ofNat j → ab_frk m mk → ab_K mk (ab_bks f b i ++ ab_bj f i j) → ev_J w ev_m88 (ev_nd 88) Q 21 [ev_vr 271, ev_vr 209, ev_vr 40, ev_vn u, ev_vn v, ev_vn i, ev_vi jj] [] mk t := by
    intro i hi kont
    refine ev_lup (P := fun j => ∀ (jj : Int32) (mk : ev_Mem), jj = Int32.ofNat j → ab_frk m mk → ab_K mk (ab_bks f b i ++ ab_bj f i j) → ev_J w ev_m88 (ev_nd 88) Q 21 [ev_vr 271, ev_vr 209, ev_vr 40, ev_vn u, ev_vn v, ev_vn i, ev_vi jj] [] mk t) b (fun j hj ih jj mk ejj fk hK => ?_)
    subst ejj
    have ei := ev_ofNat_i (n := i) (by omega)
    have ej := ev_ofNat_i (n := j) (by omega)
    obtain ⟨eE, eEq, eth⟩ := envE mk fk
    have ebk : (mk 203 v).toInt = (b : Int) := by rw [fk _ _ (by decide) (by decide)]; exact hb
    refine ev_gK A hp [32, 99] 10 ?_
    refine ev_S26 A hv ?_
    refine And.intro (fun (h : (mk 203 v).toInt ≤ (Int32.ofNat j).toInt) => ?_) (fun (h : (Int32.ofNat j).toInt < (mk 203 v).toInt) => ?_)
    · have e : j = b := by omega
      subst e
      refine ev_gK A hp [8] 10 ?_
      exact kont _ mk _ (ev_succ (by omega)) fk (by rw [ab_bks]; exact hK)
    have hjb : j < b := by omega
    have next : ∀ m2 : ev_Mem, ab_frk m m2 → ab_K m2 (ab_bks f b i ++ ab_bj f i j ++ ab_bc f i j) → ev_J w ev_m88 (ev_nd 88) Q 93 [ev_vr 271, ev_vr 209, ev_vr 40, ev_vn u, ev_vn v, ev_vn i, ev_vn j] [] m2 t := by
      intro m2 f2 K2
      refine ev_gK A hp [21] 10 ?_
      refine ih hjb _ m2 (ev_succ (by omega)) f2 ?_
      rw [ab_bj, ← List.append_assoc]
      exact K2
    have h67 : (i = 0 ∨ j = 0 ∨ f (i - 1) (j - 1) = false) → ev_J w ev_m88 (ev_nd 88) Q 67 [ev_vr 271, ev_vr 209, ev_vr 40, ev_vn u, ev_vn v, ev_vn i, ev_vn j] [] mk t := by
      intro hs
      refine ev_gK A hp [93] 30 ?_
      refine ev_S106 A (by omega) (by omega) ?_
      refine ev_S106 A (by omega) (by omega) ?_
      refine ev_S90 A eE eEq (by omega) (by omega) ?_
      have er : ab_cnt (fun n => ab_mv T (ab_th mk) fo eq (10 * u + i + n) (10 * v + j + n)) (10 - max ((10 * u + i) % 10) ((10 * v + j) % 10)) 0 = ab_run2 f i j := by
        unfold ab_run2
        rw [(by omega : (10 * u + i) % 10 = i), (by omega : (10 * v + j) % 10 = j), eth]
        refine congrArg (fun g => ab_cnt g (10 - max i j) 0) (funext (fun n => ?_))
        rw [hff, Nat.add_assoc, Nat.add_assoc]
      rw [er]
      have hle := ab_cnt_le (fun n => f (i + n) (j + n)) (10 - max i j) 0
      have hle2 : ab_run2 f i j ≤ 10 := by unfold ab_run2; omega
      have hbc : ab_bc f i j = if 2 ≤ ab_run2 f i j then [(i, j, ab_run2 f i j)] else [] := by
        unfold ab_bc ab_st
        by_cases h2 : 2 ≤ ab_run2 f i j
        · rw [if_pos h2, decide_eq_true ⟨hs, h2⟩]; rfl
        · rw [if_neg h2, decide_eq_false (fun q => h2 q.2)]; rfl
      have htot := ab_bks_50 f hb10 (n := i + 1) (by omega)
      have hmj := ab_bj_mono f i (b - (j + 1)) (j + 1)
      rw [(by omega : j + 1 + (b - (j + 1)) = b), ab_bj, List.length_append] at hmj
      rw [ab_bks, List.length_append] at htot
      refine ev_S91 A hK (fun h2 => ?_) (by rw [List.length_append]; omega) hle2 (fun m2 f2 K2 => ?_)
      · rw [hbc, if_pos h2, List.length_singleton] at hmj
        rw [List.length_append]; omega
      · exact next m2 (fun c k z1 z2 => (f2 c k z1 z2).trans (fk c k z1 z2)) (by rw [hbc]; exact K2)
    refine ev_gK A hp [42, 67] 10 ?_
    refine And.intro (fun (h : (Int32.ofNat i).toInt = 0) => h67 (Or.inl (by omega))) (fun (h : ¬ (Int32.ofNat i).toInt = 0) => ?_)
    refine And.intro (fun (h : (Int32.ofNat j).toInt = 0) => h67 (Or.inr (Or.inl (by omega)))) (fun (h2 : ¬ (Int32.ofNat j).toInt = 0) => ?_)
    refine ev_gK A hp [] 6 ?_
    show ev_J w ev_m88 (ev_nd 88) Q 49 [ev_vr 271, ev_vr 209, ev_vr 40, ev_vn u, ev_vn v, ev_vn i, ev_vn j] [.int (Int32.ofNat i - 1), .int (Int32.ofNat u), .ref 40, .ref 209] mk t
    rw [ev_pred (by omega) (by omega)]
    refine ev_gK A hp [] 5 ?_
    refine ev_S106 A (by omega) (by omega) ?_
    show ev_J w ev_m88 (ev_nd 88) Q 58 [ev_vr 271, ev_vr 209, ev_vr 40, ev_vn u, ev_vn v, ev_vn i, ev_vn j] [.int (Int32.ofNat j - 1), .int (Int32.ofNat v), .int (Int32.ofNat (10 * u + (i - 1))), .ref 40, .ref 209] mk t
    rw [ev_pred (by omega) (by omega)]
    refine ev_gK A hp [67, 93] 10 ?_
    refine ev_S106 A (by omega) (by omega) ?_
    refine ev_S89 A eE eEq (by omega) (by omega) ?_
    rw [eth, ← hff]
    refine And.intro (fun h => ?_) (fun h => h67 (Or.inr (Or.inr (ab_bi_nne h))))
    have h3 := ab_bi_ne h
    refine next mk fk ?_
    have e0 : ab_bc f i j = [] := by
      unfold ab_bc ab_st
      rw [decide_eq_false (fun q => by rcases q.1 with q | q | q; omega; omega; rw [h3] at q; cases q)]
      rfl
    rw [e0, List.append_nil]
    exact hK
  have outer := ev_lup (P := fun i => ∀ (ii : Int32) (mk : ev_Mem) (o6 : Option Value), ii = Int32.ofNat i → ab_frk m mk → ab_K mk (ab_bks f b i) → ev_J w ev_m88 (ev_nd 88) Q 8 [ev_vr 271, ev_vr 209, ev_vr 40, ev_vn u, ev_vn v, ev_vi ii, o6] [] mk t) a (by
    intro i hi ih ii mk o6 eii fk hK
    subst eii
    have ei := ev_ofNat_i (n := i) (by omega)
    have eak : (mk 203 u).toInt = (a : Int) := by rw [fk _ _ (by decide) (by decide)]; exact ha
    refine ev_gK A hp [21] 20 ?_
    refine ev_S26 A hu ?_
    refine And.intro (fun (h : (mk 203 u).toInt ≤ (Int32.ofNat i).toInt) => ?_) (fun (h : (Int32.ofNat i).toInt < (mk 203 u).toInt) => ?_)
    · have e : i = a := by omega
      subst e
      show Q (.inl (some (.int (mk 271 1)))) mk t
      rw [hK.1]
      exact hQ mk fk hK
    · have hia : i < a := by omega
      exact inner i hia (ih hia) 0 (by omega) _ mk rfl fk (by rw [ab_bj, List.append_nil]; exact hK))
  refine ⟨Or.inr ⟨271, _, rfl, rfl⟩, ev_m88, rfl, ev_gK A hp [8] 20 ?_⟩
  exact outer 0 (by omega) _ _ _ rfl (fun c k z1 _ => ev_up_cell _ z1 _ _ _) ⟨ev_up_same _ _ _ _, fun k hk => absurd hk (Nat.not_lt_zero _)⟩
end EvFind
