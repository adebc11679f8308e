/-! changes along a family: the link between the two ways -/
section AbLeast2
theorem ab_o5_mem {x : Option Nat} (h : ∀ u, x = some u → u < 4) : x ∈ ab_o5 := by
  cases x with
  | none => decide
  | some u =>
    have h4 := h u rfl
    match u, h4 with
    | 0, _ => decide
    | 1, _ => decide
    | 2, _ => decide
    | 3, _ => decide
theorem ab_chk_all {a : Option Nat} (h : a ∈ ab_o5) : ab_chk a = true := by
  unfold ab_o5 at h
  simp only [List.mem_cons, List.not_mem_nil, or_false] at h
  rcases h with h | h | h | h | h <;> subst h
  · exact ab_chkn
  · exact ab_chk0
  · exact ab_chk1'
  · exact ab_chk2
  · exact ab_chk3
/-- a family of four, and the same beyond -/
theorem ab_t4_eq {pa : Nat → Option Nat} {v : Nat} (h : v < 4) : ab_t4 (pa 0) (pa 1) (pa 2) (pa 3) v = pa v := by
  match v, h with
  | 0, _ => rfl
  | 1, _ => rfl
  | 2, _ => rfl
  | 3, _ => rfl
theorem ab_de_cong {pa pb : Nat → Option Nat} (hpa : ab_PAok pa) (h : ∀ v, v < 4 → pb v = pa v) : ∀ n (x : Option Nat), (∀ u, x = some u → u < 4) → ab_de pb n x = ab_de pa n x
  | 0, _, _ => rfl
  | n + 1, none, _ => rfl
  | n + 1, some u, hx => by
    have hu := hx u rfl
    rw [ab_de, ab_de, h u hu, ab_de_cong hpa h n (pa u) (fun w hw => hpa u w hu hw)]
theorem ab_end_cong {pa pb : Nat → Option Nat} (hpa : ab_PAok pa) (h : ∀ v, v < 4 → pb v = pa v) : ∀ n (x : Option Nat), (∀ u, x = some u → u < 4) → ab_end pb n x = ab_end pa n x
  | 0, none, _ => rfl
  | 0, some _, _ => rfl
  | n + 1, none, _ => rfl
  | n + 1, some u, hx => by
    have hu := hx u rfl
    rw [ab_end, ab_end, h u hu, ab_end_cong hpa h n (pa u) (fun w hw => hpa u w hu hw)]
theorem ab_iw_cong {pa pb : Nat → Option Nat} (hpa : ab_PAok pa) (h : ∀ v, v < 4 → pb v = pa v) (d : Nat) (s : (Nat → Nat) × Nat) : ∀ k, k ≤ 4 → ab_iw pb d s k = ab_iw pa d s k
  | 0, _ => rfl
  | k + 1, hk => by
    have ih := ab_iw_cong hpa h d s k (by omega)
    rw [ab_iw, ab_iw, ih, h k (by omega), ab_de_cong hpa h 4 (pa k) (fun u hu => hpa k u (by omega) hu)]
    unfold ab_hu
    rw [h k (by omega)]
theorem ab_ow_cong {pa pb : Nat → Option Nat} (hpa : ab_PAok pa) (h : ∀ v, v < 4 → pb v = pa v) (s : (Nat → Nat) × Nat) : ∀ k, ab_ow pb s k = ab_ow pa s k
  | 0 => rfl
  | k + 1 => by
    rw [ab_ow, ab_ow, ab_ow_cong hpa h s k, ab_iw_cong hpa h _ _ 4 (Nat.le_refl _)]
theorem ab_lc_cong {pa pb rd : Nat → Option Nat} (hpa : ab_PAok pa) (h : ∀ v, v < 4 → pb v = pa v) : ab_lc pb rd = ab_lc pa rd := by
  unfold ab_lc
  rw [ab_ow_cong hpa h]
theorem ab_ct_cong {pa pb : Nat → Option Nat} (h : ∀ v, v < 4 → pb v = pa v) (a b c d : Nat) : ab_ct pb a b c d = ab_ct pa a b c d := by
  unfold ab_ct
  rw [h 0 (by omega), h 1 (by omega), h 2 (by omega), h 3 (by omega)]
/-- what was checked, for any family and any readings in canonical form -/
theorem ab_least {pa rd : Nat → Option Nat} (hpa : ab_PAok pa) (hac : ab_acy pa) (hrd : ∀ v, 4 ≤ v → rd v = none) (hcn : ∀ v u, v < 4 → rd v = some u → u ≤ v ∧ rd u = some u) : (ab_rp rd 4 = [] → ab_lc pa rd = 0) ∧ (¬ ab_rp rd 4 = [] → ab_lc pa rd = ab_bst pa rd (ab_rp rd 4)) := by
  have hb : ∀ v, v < 4 → ab_t4 (pa 0) (pa 1) (pa 2) (pa 3) v = pa v := fun v hv => ab_t4_eq hv
  have hr : ab_t4 (rd 0) (rd 1) (rd 2) (rd 3) = rd := by
    funext v
    by_cases hv : v < 4
    · exact ab_t4_eq hv
    · rw [hrd v (by omega)]
      match v, hv with
      | 0, h => exact absurd (by omega) h
      | 1, h => exact absurd (by omega) h
      | 2, h => exact absurd (by omega) h
      | 3, h => exact absurd (by omega) h
      | _ + 4, _ => rfl
  have acb : ab_acb (ab_t4 (pa 0) (pa 1) (pa 2) (pa 3)) = true := by
    unfold ab_acb
    rw [ab_end_cong hpa hb 4 (some 0) (fun u hu => by cases hu; omega), ab_end_cong hpa hb 4 (some 1) (fun u hu => by cases hu; omega), ab_end_cong hpa hb 4 (some 2) (fun u hu => by cases hu; omega), ab_end_cong hpa hb 4 (some 3) (fun u hu => by cases hu; omega), hac 0 (by omega), hac 1 (by omega), hac 2 (by omega), hac 3 (by omega)]
    rfl
  have cn : ∀ v, v < 4 → ab_cn1 rd v = true := by
    intro v hv
    unfold ab_cn1
    cases h : rd v with
    | none => rfl
    | some u =>
      obtain ⟨h1, h2⟩ := hcn v u hv h
      dsimp only
      rw [h2]
      dsimp only
      rw [Nat.ble_eq_true_of_le h1, Nat.beq_refl]
      rfl
  have m0 : rd 0 ∈ [none, some 0] := by
    cases h : rd 0 with
    | none => decide
    | some u =>
      have := (hcn 0 u (by omega) h).1
      match u, this with
      | 0, _ => decide
  have m1 : rd 1 ∈ [none, some 0, some 1] := by
    cases h : rd 1 with
    | none => decide
    | some u =>
      have := (hcn 1 u (by omega) h).1
      match u, this with
      | 0, _ => decide
      | 1, _ => decide
  have m2 : rd 2 ∈ [none, some 0, some 1, some 2] := by
    cases h : rd 2 with
    | none => decide
    | some u =>
      have := (hcn 2 u (by omega) h).1
      match u, this with
      | 0, _ => decide
      | 1, _ => decide
      | 2, _ => decide
  have m3 : rd 3 ∈ ab_o5 := ab_o5_mem (fun u hu => by have := (hcn 3 u (by omega) hu).1; omega)
  have key : ab_chk1 (ab_t4 (pa 0) (pa 1) (pa 2) (pa 3)) rd = true := by
    have h0 := ab_chk_all (ab_o5_mem (x := pa 0) (fun u hu => hpa 0 u (by omega) hu))
    unfold ab_chk at h0
    have h1 := List.all_eq_true.mp h0 (pa 1) (ab_o5_mem (fun u hu => hpa 1 u (by omega) hu))
    have h2 := List.all_eq_true.mp h1 (pa 2) (ab_o5_mem (fun u hu => hpa 2 u (by omega) hu))
    have h3 := List.all_eq_true.mp h2 (pa 3) (ab_o5_mem (fun u hu => hpa 3 u (by omega) hu))
    rw [acb, Bool.not_true, Bool.false_or] at h3
    have h4 := List.all_eq_true.mp h3 (rd 0) m0
    have h5 := List.all_eq_true.mp h4 (rd 1) m1
    have h6 := List.all_eq_true.mp h5 (rd 2) m2
    have h7 := List.all_eq_true.mp h6 (rd 3) m3
    rw [hr, cn 1 (by omega), cn 2 (by omega), cn 3 (by omega)] at h7
    exact h7
  unfold ab_chk1 at key
  rw [ab_lc_cong hpa hb] at key
  have hbst : ∀ rp, ab_bst (ab_t4 (pa 0) (pa 1) (pa 2) (pa 3)) rd rp = ab_bst pa rd rp := by
    intro rp
    have hc : ab_ct (ab_t4 (pa 0) (pa 1) (pa 2) (pa 3)) = ab_ct pa := by
      funext a b c d
      exact ab_ct_cong hb a b c d
    unfold ab_bst
    rw [hc]
  constructor
  · intro h
    rw [h] at key
    exact Nat.eq_of_beq_eq_true key
  · intro h
    cases hl : ab_rp rd 4 with
    | nil => exact absurd hl h
    | cons x l =>
      rw [hl] at key
      have := Nat.eq_of_beq_eq_true key
      rw [hbst] at this
      exact this
theorem ab_mno_sp (f : Nat → Nat) (ok : Nat → Bool) : ∀ n, (∀ k, k < n → ok k = true → ab_mno f ok n ≤ f k) ∧ ab_mno f ok n ≤ 1000 ∧ (ab_mno f ok n = 1000 ∨ ∃ k, k < n ∧ ok k = true ∧ f k = ab_mno f ok n)
  | 0 => ⟨fun k hk => absurd hk (Nat.not_lt_zero _), Nat.le_refl _, Or.inl rfl⟩
  | n + 1 => by
    obtain ⟨h1, h2, h3⟩ := ab_mno_sp f ok n
    by_cases ho : ok n = true
    · by_cases hb : Nat.ble (f n) (ab_mno f ok n) = true
      · have e : ab_mno f ok (n + 1) = f n := by rw [ab_mno, if_pos ho, if_pos hb]
        have hle := Nat.le_of_ble_eq_true hb
        rw [e]
        refine ⟨fun k hk hok => ?_, by omega, Or.inr ⟨n, by omega, ho, rfl⟩⟩
        by_cases hkn : k = n
        · rw [hkn]; exact Nat.le_refl _
        · have := h1 k (by omega) hok; omega
      · have e : ab_mno f ok (n + 1) = ab_mno f ok n := by rw [ab_mno, if_pos ho, if_neg hb]
        have hlt : ab_mno f ok n < f n := by
          have : ¬ f n ≤ ab_mno f ok n := fun q => hb (Nat.ble_eq_true_of_le q)
          omega
        rw [e]
        refine ⟨fun k hk hok => ?_, h2, ?_⟩
        · by_cases hkn : k = n
          · rw [hkn]; omega
          · exact h1 k (by omega) hok
        · rcases h3 with h3 | ⟨k, hk, h4, h5⟩
          · exact Or.inl h3
          · exact Or.inr ⟨k, by omega, h4, h5⟩
    · have e : ab_mno f ok (n + 1) = ab_mno f ok n := by rw [ab_mno, if_neg ho]
      rw [e]
      refine ⟨fun k hk hok => ?_, h2, ?_⟩
      · by_cases hkn : k = n
        · rw [hkn] at hok; exact absurd hok ho
        · exact h1 k (by omega) hok
      · rcases h3 with h3 | ⟨k, hk, h4, h5⟩
        · exact Or.inl h3
        · exact Or.inr ⟨k, by omega, h4, h5⟩
theorem ab_bst_sp (pa rd : Nat → Option Nat) (rp : List Nat) : (∀ a b c d, a < 4 → b < 4 → c < 4 → d < 4 → ab_okd rd rp 0 a = true → ab_okd rd rp 1 b = true → ab_okd rd rp 2 c = true → ab_okd rd rp 3 d = true → ab_bst pa rd rp ≤ ab_ct pa a b c d) ∧ ab_bst pa rd rp ≤ 1000 ∧ (ab_bst pa rd rp = 1000 ∨ ∃ a b c d, (a < 4 ∧ b < 4 ∧ c < 4 ∧ d < 4) ∧ (ab_okd rd rp 0 a = true ∧ ab_okd rd rp 1 b = true ∧ ab_okd rd rp 2 c = true ∧ ab_okd rd rp 3 d = true) ∧ ab_ct pa a b c d = ab_bst pa rd rp) := by
  have s1 := ab_mno_sp (fun a => ab_mno (fun b => ab_mno (fun c => ab_mno (fun d => ab_ct pa a b c d) (ab_okd rd rp 3) 4) (ab_okd rd rp 2) 4) (ab_okd rd rp 1) 4) (ab_okd rd rp 0) 4
  have s2 := fun a => ab_mno_sp (fun b => ab_mno (fun c => ab_mno (fun d => ab_ct pa a b c d) (ab_okd rd rp 3) 4) (ab_okd rd rp 2) 4) (ab_okd rd rp 1) 4
  have s3 := fun a b => ab_mno_sp (fun c => ab_mno (fun d => ab_ct pa a b c d) (ab_okd rd rp 3) 4) (ab_okd rd rp 2) 4
  have s4 := fun a b c => ab_mno_sp (fun d => ab_ct pa a b c d) (ab_okd rd rp 3) 4
  refine ⟨fun a b c d ha hb hc hd oa ob oc od => ?_, s1.2.1, ?_⟩
  · have t1 := s1.1 a ha oa
    have t2 := (s2 a).1 b hb ob
    have t3 := (s3 a b).1 c hc oc
    have t4 := (s4 a b c).1 d hd od
    exact Nat.le_trans t1 (Nat.le_trans t2 (Nat.le_trans t3 t4))
  · rcases s1.2.2 with h | ⟨a, ha, oa, ea⟩
    · exact Or.inl h
    · rcases (s2 a).2.2 with h | ⟨b, hb, ob, eb⟩
      · exact Or.inl (ea.symm.trans h)
      · rcases (s3 a b).2.2 with h | ⟨c, hc, oc, ec⟩
        · exact Or.inl (ea.symm.trans (eb.symm.trans h))
        · rcases (s4 a b c).2.2 with h | ⟨d, hd, od, ed⟩
          · exact Or.inl (ea.symm.trans (eb.symm.trans (ec.symm.trans h)))
          · exact Or.inr ⟨a, b, c, d, ⟨ha, hb, hc, hd⟩, ⟨oa, ob, oc, od⟩, ed.trans (ec.trans (eb.trans ea))⟩
/-- the model's tries -/
def ab_dig (k v : Nat) : Nat := k / 4 ^ v % 4
def ab_td (ok : Nat → Nat → Bool) (pa : Nat → Option Nat) (k : Nat) : Nat → Nat
  | 0 => 0
  | v + 1 => if ok v (ab_dig k v) = true then ab_td ok pa k v + ab_ch1 (pa v) (ab_dig k v) (ab_dig k) else 1000
theorem ab_td_bad {ok : Nat → Nat → Bool} {pa : Nat → Option Nat} {k : Nat} : ∀ n, (∃ v, v < n ∧ ¬ ok v (ab_dig k v) = true) → 1000 ≤ ab_td ok pa k n
  | 0, h => by obtain ⟨v, hv, _⟩ := h; omega
  | n + 1, h => by
    rw [ab_td]
    by_cases ho : ok n (ab_dig k n) = true
    · rw [if_pos ho]
      obtain ⟨v, hv, hn⟩ := h
      have hvn : v < n := by
        by_cases e : v = n
        · rw [e] at hn; exact absurd ho hn
        · omega
      have := ab_td_bad (ok := ok) (pa := pa) (k := k) n ⟨v, hvn, hn⟩
      omega
    · rw [if_neg ho]; exact Nat.le_refl _
theorem ab_td_good {ok : Nat → Nat → Bool} {pa : Nat → Option Nat} {k : Nat} (hpa : ab_PAok pa) (h : ∀ v, v < 4 → ok v (ab_dig k v) = true) : ab_td ok pa k 4 = ab_ct pa (ab_dig k 0) (ab_dig k 1) (ab_dig k 2) (ab_dig k 3) := by
  have e : ∀ v, v < 4 → ab_ch1 (pa v) (ab_dig k v) (ab_dig k) = ab_ch1 (pa v) (ab_dig k v) (ab_f4 (ab_dig k 0) (ab_dig k 1) (ab_dig k 2) (ab_dig k 3)) := by
    intro v hv
    unfold ab_ch1
    cases hp : pa v with
    | none => rfl
    | some u =>
      have hu := hpa v u hv hp
      match u, hu with
      | 0, _ => rfl
      | 1, _ => rfl
      | 2, _ => rfl
      | 3, _ => rfl
  rw [ab_td, ab_td, ab_td, ab_td, ab_td, if_pos (h 0 (by omega)), if_pos (h 1 (by omega)), if_pos (h 2 (by omega)), if_pos (h 3 (by omega)), e 0 (by omega), e 1 (by omega), e 2 (by omega), e 3 (by omega)]
  unfold ab_ct
  omega
def ab_mtr (ok : Nat → Nat → Bool) (pa : Nat → Option Nat) : Nat → Nat
  | 0 => 1000
  | k + 1 => min (ab_mtr ok pa k) (ab_td ok pa k 4)
theorem ab_mtr_sp (ok : Nat → Nat → Bool) (pa : Nat → Option Nat) : ∀ n, (∀ k, k < n → ab_mtr ok pa n ≤ ab_td ok pa k 4) ∧ ab_mtr ok pa n ≤ 1000 ∧ (ab_mtr ok pa n = 1000 ∨ ∃ k, k < n ∧ ab_td ok pa k 4 = ab_mtr ok pa n)
  | 0 => ⟨fun k hk => absurd hk (Nat.not_lt_zero _), Nat.le_refl _, Or.inl rfl⟩
  | n + 1 => by
    obtain ⟨h1, h2, h3⟩ := ab_mtr_sp ok pa n
    rw [ab_mtr]
    refine ⟨fun k hk => ?_, by omega, ?_⟩
    · by_cases hkn : k = n
      · rw [hkn]; omega
      · have := h1 k (by omega); omega
    · by_cases hle : ab_mtr ok pa n ≤ ab_td ok pa n 4
      · rw [Nat.min_eq_left hle]
        rcases h3 with h3 | ⟨k, hk, h4⟩
        · exact Or.inl h3
        · exact Or.inr ⟨k, by omega, h4⟩
      · rw [Nat.min_eq_right (by omega)]
        exact Or.inr ⟨n, by omega, rfl⟩
theorem ab_mtr_bst {ok : Nat → Nat → Bool} {pa rd : Nat → Option Nat} {rp : List Nat} (hpa : ab_PAok pa) (hok : ∀ v d, v < 4 → d < 4 → ok v d = ab_okd rd rp v d) : ab_mtr ok pa 256 = ab_bst pa rd rp := by
  obtain ⟨m1, m2, m3⟩ := ab_mtr_sp ok pa 256
  obtain ⟨b1, b2, b3⟩ := ab_bst_sp pa rd rp
  have dl : ∀ k v, ab_dig k v < 4 := fun k v => Nat.mod_lt _ (by decide)
  apply Nat.le_antisymm
  · rcases b3 with h | ⟨a, b, c, d, ⟨ha, hb, hc, hd⟩, ⟨oa, ob, oc, od⟩, e⟩
    · omega
    · have hk : a + 4 * b + 16 * c + 64 * d < 256 := by omega
      have d0 : ab_dig (a + 4 * b + 16 * c + 64 * d) 0 = a := by unfold ab_dig; omega
      have d1 : ab_dig (a + 4 * b + 16 * c + 64 * d) 1 = b := by unfold ab_dig; omega
      have d2 : ab_dig (a + 4 * b + 16 * c + 64 * d) 2 = c := by unfold ab_dig; omega
      have d3 : ab_dig (a + 4 * b + 16 * c + 64 * d) 3 = d := by unfold ab_dig; omega
      have hg := ab_td_good (ok := ok) (k := a + 4 * b + 16 * c + 64 * d) hpa (fun v hv => by
        rw [hok v _ hv (dl _ _)]
        match v, hv with
        | 0, _ => rw [d0]; exact oa
        | 1, _ => rw [d1]; exact ob
        | 2, _ => rw [d2]; exact oc
        | 3, _ => rw [d3]; exact od)
      rw [d0, d1, d2, d3] at hg
      have := m1 _ hk
      omega
  · rcases m3 with h | ⟨k, hk, e⟩
    · omega
    · by_cases hall : ∀ v, v < 4 → ok v (ab_dig k v) = true
      · have hg := ab_td_good hpa hall
        have hx : ∀ v, v < 4 → ab_okd rd rp v (ab_dig k v) = true := fun v hv => by rw [← hok v _ hv (dl _ _)]; exact hall v hv
        have := b1 _ _ _ _ (dl k 0) (dl k 1) (dl k 2) (dl k 3) (hx 0 (by omega)) (hx 1 (by omega)) (hx 2 (by omega)) (hx 3 (by omega))
        omega
      · have : ∃ v, v < 4 ∧ ¬ ok v (ab_dig k v) = true := by
          apply Classical.byContradiction
          intro hno
          exact hall (fun v hv => Classical.byContradiction (fun q => hno ⟨v, hv, q⟩))
        have := ab_td_bad (pa := pa) 4 this
        omega
/-- readings in canonical form -/
theorem ab_ti_cong {R R' : Nat → Option Nat} {e : Nat → Nat → Bool} {a : Nat} : ∀ n, (∀ v, v < n → R' v = R v) → ab_ti R' e a n = ab_ti R e a n
  | 0, _ => rfl
  | n + 1, h => by
    rw [ab_ti, ab_ti, h n (by omega), ab_ti_cong n (fun v hv => h v (by omega))]
theorem ab_tr_out {fr : Nat → Bool} {e : Nat → Nat → Bool} : ∀ K v, K ≤ v → ab_tr fr e K v = none
  | 0, _, _ => rfl
  | K + 1, v, h => by
    rw [ab_tr]
    dsimp only
    rw [if_neg (by omega)]
    exact ab_tr_out K v (by omega)
theorem ab_tr_eq {fr : Nat → Bool} {e : Nat → Nat → Bool} : ∀ K k, k < K → ab_tr fr e K k = if fr k = true then none else ab_ti (ab_tr fr e K) e k k
  | 0, k, h => absurd h (Nat.not_lt_zero _)
  | K + 1, k, h => by
    have step : ∀ v, v < K → ab_tr fr e (K + 1) v = ab_tr fr e K v := fun v hv => by
      rw [ab_tr]
      dsimp only
      rw [if_neg (by omega)]
    by_cases hk : k = K
    · subst hk
      rw [ab_ti_cong (R := ab_tr fr e k) (R' := ab_tr fr e (k + 1)) k step]
      rw [ab_tr]
      dsimp only
      rw [if_pos rfl]
    · rw [ab_ti_cong (R := ab_tr fr e K) (R' := ab_tr fr e (K + 1)) k (fun v hv => step v (by omega)), step k (by omega)]
      exact ab_tr_eq K k (by omega)
theorem ab_ti_sp {R : Nat → Option Nat} {e : Nat → Nat → Bool} {a : Nat} : ∀ n, (∃ x, ab_ti R e a n = some x ∧ x < n ∧ R x = some x ∧ e x a = true) ∨ (ab_ti R e a n = some a ∧ ∀ v, v < n → ¬ (R v = some v ∧ e v a = true))
  | 0 => Or.inr ⟨rfl, fun v hv => absurd hv (Nat.not_lt_zero _)⟩
  | n + 1 => by
    rw [ab_ti]
    by_cases h : R n = some n ∧ e n a = true
    · rw [if_pos h]
      exact Or.inl ⟨n, rfl, by omega, h.1, h.2⟩
    · rw [if_neg h]
      rcases ab_ti_sp (R := R) (e := e) (a := a) n with ⟨x, h1, h2, h3⟩ | ⟨h1, h2⟩
      · exact Or.inl ⟨x, h1, by omega, h3⟩
      · refine Or.inr ⟨h1, fun v hv => ?_⟩
        by_cases hvn : v = n
        · rw [hvn]; exact h
        · exact h2 v (by omega)
theorem ab_rp_mem {rd : Nat → Option Nat} {u : Nat} : ∀ k, u ∈ ab_rp rd k ↔ u < k ∧ rd u = some u
  | 0 => ⟨fun h => absurd h List.not_mem_nil, fun h => absurd h.1 (Nat.not_lt_zero _)⟩
  | k + 1 => by
    have ih := ab_rp_mem (rd := rd) (u := u) k
    rw [ab_rp]
    cases hk : rd k with
    | none =>
      dsimp only
      rw [ih]
      exact ⟨fun h => ⟨by omega, h.2⟩, fun h => ⟨by
        by_cases e : u = k
        · rw [e, hk] at h; cases h.2
        · omega, h.2⟩⟩
    | some x =>
      dsimp only
      by_cases hx : Nat.beq x k = true
      · have e := Nat.eq_of_beq_eq_true hx
        subst e
        rw [if_pos hx, List.mem_append, ih, List.mem_singleton]
        constructor
        · rintro (h | h)
          · exact ⟨by omega, h.2⟩
          · rw [h]; exact ⟨by omega, hk⟩
        · rintro ⟨h1, h2⟩
          by_cases e : u = x
          · exact Or.inr e
          · exact Or.inl ⟨by omega, h2⟩
      · rw [if_neg hx, ih]
        exact ⟨fun h => ⟨by omega, h.2⟩, fun h => ⟨by
          by_cases e : u = k
          · subst e
            rw [hk] at h
            have e2 : x = u := by have := h.2; injection this
            rw [e2] at hx
            exact absurd (Nat.beq_refl u) hx
          · omega, h.2⟩⟩
def ab_rs (q : Nat → Int32) : Nat → List Int32
  | 0 => []
  | k + 1 => if q k = -1 ∨ q k ∈ ab_rs q k then ab_rs q k else ab_rs q k ++ [q k]
/-- the readings by their numbers, and by their first witness -/
theorem ab_canon {fr : Nat → Bool} {e : Nat → Nat → Bool} {q : Nat → Int32} {R : Nat → Option Nat} (hR : R = ab_tr fr e 4) (hfr : ∀ v, v < 4 → (fr v = true ↔ q v = -1)) (he : ∀ u v, u < 4 → v < 4 → fr u = false → fr v = false → (e u v = true ↔ q u = q v)) :
    (∀ v, 4 ≤ v → R v = none) ∧ (∀ v u, v < 4 → R v = some u → u ≤ v ∧ R u = some u) ∧ ab_rs q 4 = (ab_rp R 4).map q ∧ ∀ v d, v < 4 → decide (d < (ab_rs q 4).length ∧ (q v = -1 ∨ q v = (ab_rs q 4).getD d 0)) = ab_okd R (ab_rp R 4) v d := by
  have Req : ∀ k, k < 4 → R k = if fr k = true then none else ab_ti R e k k := fun k hk => by rw [hR]; exact ab_tr_eq 4 k hk
  have nofr : ∀ v u, v < 4 → R v = some u → fr v = false := by
    intro v u hv h
    rw [Req v hv] at h
    cases hf : fr v with
    | false => rfl
    | true => rw [hf, if_pos rfl] at h; cases h
  have rep : ∀ v u, v < 4 → R v = some u → u ≤ v ∧ R u = some u ∧ q u = q v := by
    intro v u hv h
    have hf := nofr v u hv h
    have h2 := Req v hv
    rw [hf, if_neg Bool.false_ne_true] at h2
    rcases ab_ti_sp (R := R) (e := e) (a := v) v with ⟨x, h3, h4, h5, h6⟩ | ⟨h3, h4⟩
    · rw [h2, h3] at h
      cases h
      exact ⟨by omega, h5, (he u v (by omega) hv (nofr u u (by omega) h5) hf).mp h6⟩
    · have h' := h
      rw [h2, h3] at h'
      cases h'
      exact ⟨Nat.le_refl _, h, rfl⟩
  have uniq0 : ∀ u v, u < v → v < 4 → R u = some u → R v = some v → q u = q v → False := by
    intro u v huv hv hu hv2 hq
    have h2 := Req v hv
    have hf := nofr v v hv hv2
    rw [hf, if_neg Bool.false_ne_true] at h2
    rcases ab_ti_sp (R := R) (e := e) (a := v) v with ⟨x, h3, h4, h5, h6⟩ | ⟨h3, h4⟩
    · rw [h2, h3] at hv2
      cases hv2
      omega
    · exact h4 u huv ⟨hu, (he u v (by omega) hv (nofr u u (by omega) hu) hf).mpr hq⟩
  have uniq : ∀ u v, u < 4 → v < 4 → R u = some u → R v = some v → q u = q v → u = v := by
    intro u v hu hv h1 h2 hq
    rcases Nat.lt_trichotomy u v with h | h | h
    · exact (uniq0 u v h hv h1 h2 hq).elim
    · exact h
    · exact (uniq0 v u h hu h2 h1 hq.symm).elim
  have rs : ∀ k, k ≤ 4 → ab_rs q k = (ab_rp R k).map q := by
    intro k
    induction k with
    | zero => intro _; rfl
    | succ k ih =>
      intro hk
      have ih := ih (by omega)
      have h2 := Req k (by omega)
      rw [ab_rs, ab_rp, ih]
      cases hf : fr k with
      | true =>
        rw [hf, if_pos rfl] at h2
        rw [h2, if_pos (Or.inl ((hfr k (by omega)).mp hf))]
      | false =>
        rw [hf, if_neg Bool.false_ne_true] at h2
        have hq1 : ¬ q k = -1 := fun h => by rw [(hfr k (by omega)).mpr h] at hf; cases hf
        rcases ab_ti_sp (R := R) (e := e) (a := k) k with ⟨x, h3, h4, h5, h6⟩ | ⟨h3, h4⟩
        · have hx := (he x k (by omega) (by omega) (nofr x x (by omega) h5) hf).mp h6
          rw [h2, h3]
          dsimp only
          rw [if_pos (Or.inr (by rw [← hx]; exact List.mem_map.mpr ⟨x, (ab_rp_mem k).mpr ⟨h4, h5⟩, rfl⟩)), if_neg (fun h => by have := Nat.eq_of_beq_eq_true h; omega)]
        · rw [h2, h3]
          dsimp only
          rw [if_pos (Nat.beq_refl k), if_neg, List.map_append]
          · rfl
          · rintro (h | h)
            · exact hq1 h
            · obtain ⟨x, hx1, hx2⟩ := List.mem_map.mp h
              obtain ⟨h5, h6⟩ := (ab_rp_mem k).mp hx1
              exact h4 x h5 ⟨h6, (he x k (by omega) (by omega) (nofr x x (by omega) h6) hf).mpr hx2⟩
  refine ⟨fun v hv => by rw [hR]; exact ab_tr_out 4 v hv, fun v u hv h => ⟨(rep v u hv h).1, (rep v u hv h).2.1⟩, rs 4 (Nat.le_refl _), fun v d hv => ?_⟩
  rw [rs 4 (Nat.le_refl _), List.length_map]
  unfold ab_okd
  by_cases hd : d < (ab_rp R 4).length
  · have hbl : Nat.blt d (ab_rp R 4).length = true := Nat.ble_eq_true_of_le hd
    have hmem : (ab_rp R 4).getD d 9 ∈ ab_rp R 4 := by
      rw [List.getD_eq_getElem?_getD, List.getElem?_eq_getElem hd]
      exact List.getElem_mem hd
    obtain ⟨g1, g2⟩ := (ab_rp_mem 4).mp hmem
    have hget : ((ab_rp R 4).map q).getD d 0 = q ((ab_rp R 4).getD d 9) := by
      rw [List.getD_eq_getElem?_getD, List.getElem?_map, List.getD_eq_getElem?_getD, List.getElem?_eq_getElem hd]
      rfl
    rw [hbl, Bool.true_and, hget]
    generalize (ab_rp R 4).getD d 9 = r at *
    cases hRv : R v with
    | none =>
      have h2 := Req v hv
      have hf : fr v = true := by
        cases hf : fr v with
        | true => rfl
        | false =>
          rw [hf, if_neg Bool.false_ne_true, hRv] at h2
          rcases ab_ti_sp (R := R) (e := e) (a := v) v with ⟨x, h3, _⟩ | ⟨h3, _⟩ <;> rw [h3] at h2 <;> cases h2
      exact decide_eq_true ⟨hd, Or.inl ((hfr v hv).mp hf)⟩
    | some u =>
      obtain ⟨u1, u2, u3⟩ := rep v u hv hRv
      have hf := nofr v u hv hRv
      have hq1 : ¬ q v = -1 := fun h => by rw [(hfr v hv).mpr h] at hf; cases hf
      dsimp only
      by_cases hur : u = r
      · subst hur
        rw [Nat.beq_refl]
        exact decide_eq_true ⟨hd, Or.inr u3.symm⟩
      · have hb : Nat.beq u r = false := by
          cases h : Nat.beq u r with
          | false => rfl
          | true => exact absurd (Nat.eq_of_beq_eq_true h) hur
        rw [hb]
        refine decide_eq_false (fun h => ?_)
        rcases h.2 with h | h
        · exact hq1 h
        · exact hur (uniq u r (by omega) g1 u2 g2 (u3.trans h))
  · have hbl : Nat.blt d (ab_rp R 4).length = false := by
      cases h : Nat.blt d (ab_rp R 4).length with
      | false => rfl
      | true => exact absurd (Nat.le_of_ble_eq_true h) hd
    rw [hbl, Bool.false_and]
    exact decide_eq_false (fun h => hd h.1)
end AbLeast2
