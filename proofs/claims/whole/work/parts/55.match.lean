/-! the class's joiner: what a match costs -/
section EvMatch
variable {w : ev_W} {Q : ev_QT} {m : ev_Mem} {t : ev_H}
def ab_dst (m : ev_Mem) (fo : Nat → Option ab_Ls) (x y : Nat) : Nat := if (m 205 x).toInt = (m 205 y).toInt then 0 else ab_apart (fo x) (fo y)
def ab_mcn (T : ab_T) (p : Nat) (g : Nat → Nat) : Nat → Nat
  | 0 => 12
  | n + 1 => match T.2.1 p n with
    | none => ab_mcn T p g n
    | some i => min (ab_mcn T p g n) (g (10 * n + i))
theorem ab_apart_le (a b : Option ab_Ls) : ab_apart a b ≤ 12 := by
  unfold ab_apart
  split <;> omega
theorem ab_dst_le (m : ev_Mem) (fo : Nat → Option ab_Ls) (x y : Nat) : ab_dst m fo x y ≤ 12 := by
  unfold ab_dst
  split
  · omega
  · exact ab_apart_le _ _
theorem ab_mcn_le (T : ab_T) (p : Nat) (g : Nat → Nat) : ∀ n, ab_mcn T p g n ≤ 12
  | 0 => Nat.le_refl _
  | n + 1 => by
    have h := ab_mcn_le T p g n
    unfold ab_mcn
    split <;> omega
theorem ab_FO_cong {m m' : ev_Mem} {fo : Nat → Option ab_Ls} (h : ∀ k j, k ≠ 208 → m' k j = m k j) (hF : ab_FO m fo) : ab_FO m' fo := by
  intro x hx ht
  rw [ab_th_cong (fun j => h _ _ (by decide))] at ht
  obtain ⟨a, b⟩ := hF x hx ht
  exact ⟨ab_F_cong (fun j => h _ _ (by omega)) (fun j => h _ _ (by omega)) a, b⟩
theorem ab_TC_cong {m m' : ev_Mem} {T : ab_T} (h : ∀ k j, 209 ≤ k → k ≤ 212 → m' k j = m k j) (hT : ab_TC m T) : ab_TC m' T := by
  obtain ⟨t1, t2, t3, t4, t5, t6⟩ := hT
  refine ⟨by rw [h _ _ (by decide) (by decide)]; exact t1, fun p hp v hv => by rw [h _ _ (by decide) (by decide)]; exact t2 p hp v hv, fun p hp => by rw [h _ _ (by decide) (by decide)]; exact t3 p hp, by rw [h _ _ (by decide) (by decide)]; exact t4, fun k hk => by rw [h _ _ (by decide) (by decide)]; exact t5 k hk, by rw [h _ _ (by decide) (by decide)]; exact t6⟩
/-- Joiner.matchCost -/
theorem ev_S53 {p x : Nat} {T : ab_T} {fo : Nat → Option ab_Ls} (A : ev_all w) (hT : ab_TC m T) (hok : ab_Tok T) (hp1 : p < T.1) (hx : x < 40) (hxt : ab_th m x = true) (hFO : ab_FO m fo) (hcell : ∀ v i, v < 4 → T.2.1 p v = some i → ab_th m (10 * v + i) = true) (haz : ∀ y l, y < 40 → ab_th m y = true → fo y = some l → ab_az l)
    (hQ : ∀ m', (∀ k j, k ≠ 208 → m' k j = m k j) → Q (.inl (some (.int (Int32.ofNat (ab_mcn T p (ab_dst m fo x) 4))))) m' t) : ev_K w 53 [.ref 209, .ref 40, .int (Int32.ofNat p), .int (Int32.ofNat x)] m t Q := by
  have hp : ev_prog[53]? = some ev_m53 := rfl
  have k1 := hok.1
  have loop : ∀ (n k : Nat) (mk : ev_Mem) (o6 : Option Value), k + n = 4 → (∀ k j, k ≠ 208 → mk k j = m k j) → ev_J w ev_m53 (ev_nd 53) Q 7 [some (.ref 209), some (.ref 40), some (.int (Int32.ofNat p)), some (.int (Int32.ofNat x)), some (.int (Int32.ofNat (ab_mcn T p (ab_dst m fo x) k))), some (.int (Int32.ofNat k)), o6] [] mk t := by
    intro n
    induction n with
    | zero =>
      intro k mk o6 hk hf
      have ek := ev_ofNat_i (n := k) (by omega)
      have i4 := ev_i4
      have hk4 : k = 4 := by omega
      refine ev_gK A hp [] 10 ?_
      refine And.intro (fun h => ?_) (fun h => ?_)
      · rw [hk4]
        exact hQ mk hf
      · have h2 : (Int32.ofNat k).toInt < (Int32.ofInt 4).toInt := h
        omega
    | succ n ih =>
      intro k mk o6 hk hf
      have ek := ev_ofNat_i (n := k) (by omega)
      have i4 := ev_i4
      have hk4 : k < 4 := by omega
      have hTk : ab_TC mk T := ab_TC_cong (fun k j z1 z2 => hf k j (by omega)) hT
      have hle := ab_mcn_le T p (ab_dst m fo x) k
      refine ev_gK A hp [7, 22] 10 ?_
      refine And.intro (fun h => ?_) (fun h => ?_)
      · have h2 : (Int32.ofInt 4).toInt ≤ (Int32.ofNat k).toInt := h
        omega
      show ev_K w 38 [.ref 209, .int (Int32.ofNat p), .int (Int32.ofNat k)] mk t _
      refine ev_S38 A (by omega) hk4 (hTk.2.1 p hp1 k hk4) (fun i hi => hok.2.1 p k i hi) ?_
      show ev_J w ev_m53 (ev_nd 53) Q 22 [some (.ref 209), some (.ref 40), some (.int (Int32.ofNat p)), some (.int (Int32.ofNat x)), some (.int (Int32.ofNat (ab_mcn T p (ab_dst m fo x) k))), some (.int (Int32.ofNat k)), some (.int (ab_oi (ab_num k (T.2.1 p k))))] [] mk t
      have hthk : ∀ z, ab_th mk z = ab_th m z := ab_th_cong (fun j => hf _ _ (by decide))
      cases hc : T.2.1 p k with
      | none =>
        have e1 : ab_mcn T p (ab_dst m fo x) (k + 1) = ab_mcn T p (ab_dst m fo x) k := by rw [ab_mcn, hc]
        refine ev_gK A hp [7] 10 ?_
        refine And.intro (fun h => ?_) (fun h => absurd rfl (h : ¬ (-1 : Int32).toInt = (-1 : Int32).toInt))
        show ev_J w ev_m53 (ev_nd 53) Q 7 [some (.ref 209), some (.ref 40), some (.int (Int32.ofNat p)), some (.int (Int32.ofNat x)), some (.int (Int32.ofNat (ab_mcn T p (ab_dst m fo x) k))), some (.int (Int32.ofNat k + 1)), some (.int (-1))] [] mk t
        rw [ev_succ (by omega), ← e1]
        exact ih (k + 1) mk _ (by omega) hf
      | some i =>
        have hi := hok.2.1 p k i hc
        have hyt := hcell k i hk4 hc
        have hy40 : 10 * k + i < 40 := by omega
        have e1 : ab_mcn T p (ab_dst m fo x) (k + 1) = min (ab_mcn T p (ab_dst m fo x) k) (ab_dst m fo x (10 * k + i)) := by rw [ab_mcn, hc]
        have hdl := ab_dst_le m fo x (10 * k + i)
        refine ev_gK A hp [7] 20 ?_
        refine And.intro (fun h => ?_) (fun h => ?_)
        · have h2 : (Int32.ofNat (10 * k + i)).toInt = (Int32.ofInt (-1)).toInt := h
          rw [ev_im1, ev_ofNat_i (by omega)] at h2
          omega
        show ev_K w 33 [.ref 40, .int (Int32.ofNat x), .int (Int32.ofNat (10 * k + i))] mk t _
        refine ev_S33 A hx hy40 (ab_FO_cong hf hFO) (by rw [hthk]; exact hxt) (by rw [hthk]; exact hyt) (fun l hl => haz x l hx hxt hl) (fun l hl => haz _ l hy40 hyt hl) (fun m' hf' => ?_)
        rw [hf 205 x (by decide), hf 205 (10 * k + i) (by decide)]
        show ev_K w 0 [.int (Int32.ofNat (ab_mcn T p (ab_dst m fo x) k)), .int (Int32.ofNat (ab_dst m fo x (10 * k + i)))] m' t _
        refine ev_S0 A ?_
        rw [ev_minN (by omega) (by omega), ← e1]
        show ev_J w ev_m53 (ev_nd 53) Q 7 [some (.ref 209), some (.ref 40), some (.int (Int32.ofNat p)), some (.int (Int32.ofNat x)), some (.int (Int32.ofNat (ab_mcn T p (ab_dst m fo x) (k + 1)))), some (.int (Int32.ofNat k + 1)), some (.int (Int32.ofNat (10 * k + i)))] [] m' t
        rw [ev_succ (by omega)]
        exact ih (k + 1) m' _ (by omega) (fun c j hcj => (hf' c j hcj).trans (hf c j hcj))
  refine ⟨Or.inl rfl, ev_m53, rfl, ev_gK A hp [7] 10 ?_⟩
  exact loop 4 0 m _ rfl (fun _ _ _ => rfl)
end EvMatch
