/-! the first state; what the law's steps want -/
section EvFirst
variable {w : ev_W} {Q : ev_QT} {m m' : ev_Mem} {t : ev_H} {z : ab_Z}
theorem ev_M0_0 {k j : Nat} (h : ¬ (k = 209 ∧ j = 5)) (h2 : k ≠ 274) (h3 : ¬ (k = 277 ∧ j = 21)) (h4 : k ≠ 295) : ev_M0 k j = 0 := by
  unfold ev_M0
  rw [if_neg]
  intro q
  simp only [List.mem_cons, Prod.mk.injEq, List.not_mem_nil, or_false] at q
  omega
theorem ev_i0 : (0 : Int32).toInt = 0 := by decide
theorem ab_RepC_z0 : ab_RepC ev_M0 ab_z0 := by
  have zt0 : ∀ x, zt ab_z0 x = true → False := fun x h => by
    have := of_decide_eq_true h
    exact absurd this (Nat.not_lt_zero _)
  have th0 : ∀ x, x < 40 → ab_th ev_M0 x = true → False := fun x hx h => by
    have h1 := of_decide_eq_true h
    rw [ev_M0_0 (by omega) (by decide) (by omega) (by decide), ev_i0] at h1
    omega
  refine ⟨⟨?_, fun k hk => absurd hk (Nat.not_lt_zero _)⟩, ⟨⟨?_, Nat.zero_le _, fun r hr => absurd hr (Nat.not_lt_zero _)⟩, fun r _ hr => ⟨?_, ?_⟩⟩, ⟨fun v hv => ?_, fun x _ h => (zt0 x h).elim⟩, fun x hx h => (th0 x hx h).elim, ⟨fun x _ h => (zt0 x h).elim, fun x _ h => (zt0 x h).elim⟩, ⟨?_, Nat.zero_le _, fun e he => absurd he (Nat.not_lt_zero _)⟩, ⟨?_, fun p hp => absurd hp (Nat.not_lt_zero _), fun p hp => absurd hp (Nat.not_lt_zero _), ?_, fun k hk => absurd hk (Nat.not_lt_zero _), rfl⟩, ⟨?_, fun k hk => absurd hk (Nat.not_lt_zero _)⟩, ⟨?_, fun i hi => absurd hi (Nat.not_lt_zero _)⟩, ⟨?_, fun k hk => absurd hk (Nat.not_lt_zero _)⟩, ⟨?_, fun k hk => absurd hk (Nat.not_lt_zero _)⟩, fun v hv => ?_⟩
  · rw [ev_M0_0 (by omega) (by decide) (by omega) (by decide)]; rfl
  · rw [ev_M0_0 (by omega) (by decide) (by omega) (by decide)]; rfl
  · rw [ev_M0_0 (by omega) (by omega) (by omega) (by omega)]; rfl
  · rw [ev_M0_0 (by omega) (by omega) (by omega) (by omega)]; rfl
  · rw [ev_M0_0 (by omega) (by decide) (by omega) (by decide)]; rfl
  · rw [ev_M0_0 (by omega) (by decide) (by omega) (by decide)]; rfl
  · rw [ev_M0_0 (by omega) (by decide) (by omega) (by decide)]; rfl
  · rw [ev_M0_0 (by omega) (by decide) (by omega) (by decide)]; rfl
  · rw [ev_M0_0 (by omega) (by decide) (by omega) (by decide)]; rfl
  · rw [ev_M0_0 (by omega) (by decide) (by omega) (by decide)]; rfl
  · rw [ev_M0_0 (by omega) (by decide) (by omega) (by decide)]; rfl
  · rw [ev_M0_0 (by omega) (by decide) (by omega) (by decide)]; rfl
  · match v, hv with
    | 0, _ => rfl
    | 1, _ => rfl
    | 2, _ => rfl
    | 3, _ => rfl
theorem ab_RepM_z0 : ab_RepM ev_M0 ab_z0 := by
  have zt0 : ∀ x, zt ab_z0 x = true → False := fun x h => by
    have := of_decide_eq_true h
    exact absurd this (Nat.not_lt_zero _)
  refine ⟨⟨?_, fun k hk => absurd hk (Nat.not_lt_zero _)⟩, ⟨?_, fun r hr => absurd hr (Nat.not_lt_zero _)⟩, fun v hv => ?_, fun x _ h => (zt0 x h).elim, fun x _ h => (zt0 x h).elim, ⟨fun _ => 0, fun x _ h => (zt0 x h).elim, fun x _ h => (zt0 x h).elim, fun x y _ _ h => (zt0 x h).elim⟩, ⟨?_, fun e he => absurd he (Nat.not_lt_zero _)⟩, ⟨?_, fun p hp => absurd hp (Nat.not_lt_zero _), fun p hp => absurd hp (Nat.not_lt_zero _), ⟨?_, fun k hk => absurd hk (Nat.not_lt_zero _)⟩, rfl⟩, ⟨?_, fun k hk => absurd hk (Nat.not_lt_zero _)⟩, ⟨?_, fun i hi => absurd hi (Nat.not_lt_zero _)⟩, ⟨?_, fun k hk => absurd hk (Nat.not_lt_zero _)⟩, ⟨?_, fun k hk => absurd hk (Nat.not_lt_zero _)⟩, fun v hv => ?_⟩
  · rw [ev_M0_0 (by omega) (by decide) (by omega) (by decide)]; rfl
  · rw [ev_M0_0 (by omega) (by decide) (by omega) (by decide)]; rfl
  · rw [ev_M0_0 (by omega) (by decide) (by omega) (by decide)]; rfl
  · rw [ev_M0_0 (by omega) (by decide) (by omega) (by decide)]; rfl
  · rw [ev_M0_0 (by omega) (by decide) (by omega) (by decide)]; rfl
  · rw [ev_M0_0 (by omega) (by decide) (by omega) (by decide)]; rfl
  · rw [ev_M0_0 (by omega) (by decide) (by omega) (by decide)]; rfl
  · rw [ev_M0_0 (by omega) (by decide) (by omega) (by decide)]; rfl
  · rw [ev_M0_0 (by omega) (by decide) (by omega) (by decide)]; rfl
  · rw [ev_M0_0 (by omega) (by decide) (by omega) (by decide)]; rfl
  · match v, hv with
    | 0, _ => rfl
    | 1, _ => rfl
    | 2, _ => rfl
    | 3, _ => rfl
theorem ab_RM_up (h : ∀ c i, 277 ≤ c → m' c i = m c i) (hs : ab_RepM m z) : ab_RepM m' z := ab_RM_0 hs (fun c i hc => h c i (by unfold ab_sM at hc; omega))
theorem ab_RC_lo (hok : ab_ok z) (h : ∀ c i, c < 277 → m' c i = m c i) (hs : ab_RepC m z) : ab_RepC m' z := ab_Rep_0 hs hok (fun c i hc => h c i (by unfold ab_sc at hc; omega))
abbrev ev_n (w : ev_W) : Nat := w.2.2.2.2.2.2.2.2.1
abbrev ev_LL (i : Nat) (o5 o6 : Option Value) : List (Option Value) := [some (.retAddr 0), ev_vr 0, ev_vr 277, ev_vr 307, ev_vn i, o5, o6]
theorem ev_bnd {i k n : Nat} (hi : i + 5 ≤ n) (hn : n ≤ 2560) (hk : k ≤ 4) : ev_in (Int32.ofNat i + Int32.ofNat k) n := ev_iin (ev_addN (by omega)) (by omega) (by omega)
theorem lg_cmp_self (x : Int64) : (lg_cmp x x).toInt = 0 := by
  unfold lg_cmp
  rw [if_neg (by simp [Int64.lt_iff_toInt_lt]), if_pos rfl]
  rfl
/-- behind a call of both -/
def ab_LF (w : ev_W) (Q : ev_QT) (i : Nat) (ths : ev_H) : Prop := ∀ (z' : ab_Z) (m' : ev_Mem) (f' : Nat → Int64) (ths' : ev_H) (o5 o6 : Option Value), ab_ok z' → ab_RepC m' z' → ab_RepM m' z' → ths'.length ≤ ths.length + 1 → ev_cost ths' ≤ ev_cost ths + 6 → ev_J w ev_mlaw (12, 434) Q 1504 (ev_LL i o5 o6) [] m' (ev_lc f' :: ths')
theorem ab_code0 {c : Nat} (hc : c ≤ 4) (h : (Int32.ofNat c).toInt = 0) : c = 0 := by
  rw [ev_ofNat_i (by omega)] at h
  omega
theorem ab_i2c16 (x : Int32) : ab_c16 ((x.toUInt32 % 65536).toInt32) := by
  obtain ⟨n, hn, e⟩ := ev_i2cr x
  rw [e]
  exact ab_c16N hn
end EvFirst
