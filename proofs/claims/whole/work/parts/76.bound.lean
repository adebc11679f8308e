/-! no entry is longer than 80 -/
section AbBound
def ab_gk (J l : Nat → Bool) (e : Nat → Nat → Bool) (neg : Bool) : Nat → Nat × Bool
  | 0 => if (!neg && (ab_ff (fun v => J v && l v) 4 0).isSome) = true then (14 + ab_cn (fun v => J v && l v) 4, false) else (0, true)
  | k + 1 => if (!(l k) && decide (ab_ff (fun v => J v && e v k) 4 0 = some k)) = true then ((ab_gk J l e neg k).1 + (if (ab_gk J l e neg k).2 = true then 0 else 1) + (14 + ab_cn (fun v => J v && e v k) 4), false) else ab_gk J l e neg k
def ab_b4 (a b c d : Bool) (v : Nat) : Bool := if v = 0 then a else if v = 1 then b else if v = 2 then c else d
def ab_e6 (a b c d e f : Bool) (v u : Nat) : Bool := if v = u then true else if v + u = 1 then a else if v + u = 2 then b else if v + u = 4 then e else if v + u = 5 then f else if v = 0 ∨ u = 0 then c else d
def ab_c3 (a b c : Bool) : Bool := (!(a && b) || c) && (!(a && c) || b) && (!(b && c) || a)
theorem ab_gk_dec : ∀ l0 l1 e01 : Bool, ab_c3 l0 l1 e01 = true → ∀ l2 e02 e12 : Bool, (ab_c3 l0 l2 e02 && ab_c3 l1 l2 e12 && ab_c3 e01 e02 e12) = true → ∀ l3 e03 e13 e23 : Bool, (ab_c3 l0 l3 e03 && ab_c3 l1 l3 e13 && ab_c3 l2 l3 e23 && ab_c3 e01 e03 e13 && ab_c3 e02 e03 e23 && ab_c3 e12 e13 e23) = true → ∀ j0 j1 j2 j3 neg : Bool, (ab_gk (ab_b4 j0 j1 j2 j3) (ab_b4 l0 l1 l2 l3) (ab_e6 e01 e02 e03 e12 e13 e23) neg 4).1 ≤ 63 := by decide +kernel
theorem ab_ff_cg {f g : Nat → Bool} : ∀ n k, (∀ v, v < k + n → f v = g v) → ab_ff f n k = ab_ff g n k
  | 0, _, _ => rfl
  | n + 1, k, h => by rw [ab_ff, ab_ff, h k (by omega), ab_ff_cg n (k + 1) (fun v hv => h v (by omega))]
theorem ab_cn_cg {f g : Nat → Bool} : ∀ n, (∀ v, v < n → f v = g v) → ab_cn f n = ab_cn g n
  | 0, _ => rfl
  | n + 1, h => by rw [ab_cn, ab_cn, h n (by omega), ab_cn_cg n (fun v hv => h v (by omega))]
theorem ab_gk_cg {J J' l l' : Nat → Bool} {e e' : Nat → Nat → Bool} {neg : Bool} (hJ : ∀ v, v < 4 → J v = J' v) (hl : ∀ v, v < 4 → l v = l' v) (he : ∀ v u, v < 4 → u < 4 → e v u = e' v u) : ∀ k, k ≤ 4 → ab_gk J l e neg k = ab_gk J' l' e' neg k
  | 0, _ => by
    have h1 : ∀ v, v < 4 → (J v && l v) = (J' v && l' v) := fun v hv => by rw [hJ v hv, hl v hv]
    rw [ab_gk, ab_gk, ab_ff_cg 4 0 (fun v hv => h1 v (by omega)), ab_cn_cg 4 h1]
  | k + 1, hk => by
    have ih := ab_gk_cg (neg := neg) hJ hl he k (by omega)
    have h1 : ∀ v, v < 4 → (J v && e v k) = (J' v && e' v k) := fun v hv => by rw [hJ v hv, he v k hv (by omega)]
    rw [ab_gk, ab_gk, ih, ab_ff_cg 4 0 (fun v hv => h1 v (by omega)), ab_cn_cg 4 h1, hl k (by omega)]
theorem ab_c3_of {a b c : Bool} (h1 : a = true → b = true → c = true) (h2 : a = true → c = true → b = true) (h3 : b = true → c = true → a = true) : ab_c3 a b c = true := by
  cases a <;> cases b <;> cases c <;> simp_all [ab_c3]
theorem ab_gk_le (J l : Nat → Bool) (e : Nat → Nat → Bool) (neg : Bool) (hr : ∀ v, e v v = true) (hs : ∀ v u, e v u = e u v) (h1 : ∀ v u, l v = true → l u = true → e v u = true) (h2 : ∀ v u, l v = true → e v u = true → l u = true) (h3 : ∀ v u x, e v u = true → e u x = true → e v x = true) : (ab_gk J l e neg 4).1 ≤ 63 := by
  have c1 : ∀ v u, ab_c3 (l v) (l u) (e v u) = true := fun v u => ab_c3_of (fun a b => h1 v u a b) (fun a b => h2 v u a b) (fun a b => h2 u v a (by rw [hs]; exact b))
  have c2 : ∀ v u x, ab_c3 (e v u) (e v x) (e u x) = true := fun v u x => ab_c3_of (fun a b => h3 u v x (by rw [hs]; exact a) b) (fun a b => h3 v u x a b) (fun a b => h3 v x u a (by rw [hs]; exact b))
  have h := ab_gk_dec (l 0) (l 1) (e 0 1) (c1 0 1) (l 2) (e 0 2) (e 1 2) (by rw [c1, c1, c2]; rfl) (l 3) (e 0 3) (e 1 3) (e 2 3) (by rw [c1, c1, c1, c2, c2, c2]; rfl) (J 0) (J 1) (J 2) (J 3) neg
  have four : ∀ (f : Nat → Bool) v, v < 4 → f v = ab_b4 (f 0) (f 1) (f 2) (f 3) v := by
    intro f v hv
    match v, hv with
    | 0, _ => rfl
    | 1, _ => rfl
    | 2, _ => rfl
    | 3, _ => rfl
  have six : ∀ v u, v < 4 → u < 4 → e v u = ab_e6 (e 0 1) (e 0 2) (e 0 3) (e 1 2) (e 1 3) (e 2 3) v u := by
    intro v u hv hu
    match v, u, hv, hu with
    | 0, 0, _, _ => exact hr 0
    | 0, 1, _, _ => rfl
    | 0, 2, _, _ => rfl
    | 0, 3, _, _ => rfl
    | 1, 0, _, _ => exact hs 1 0
    | 1, 1, _, _ => exact hr 1
    | 1, 2, _, _ => rfl
    | 1, 3, _, _ => rfl
    | 2, 0, _, _ => exact hs 2 0
    | 2, 1, _, _ => exact hs 2 1
    | 2, 2, _, _ => exact hr 2
    | 2, 3, _, _ => rfl
    | 3, 0, _, _ => exact hs 3 0
    | 3, 1, _, _ => exact hs 3 1
    | 3, 2, _, _ => exact hs 3 2
    | 3, 3, _, _ => exact hr 3
  rw [ab_gk_cg (four J) (four l) six 4 (Nat.le_refl _)]
  exact h
theorem ab_alk_refl (fo : Nat → Option ab_Ls) (a : Option Nat) : ab_alk fo a a = true := by
  cases a with
  | none => rfl
  | some x => exact decide_eq_true rfl
theorem ab_alk_symm (fo : Nat → Option ab_Ls) (a b : Option Nat) : ab_alk fo a b = ab_alk fo b a := by
  cases a <;> cases b <;> first | rfl | exact decide_eq_decide.mpr ⟨fun h => h.symm, fun h => h.symm⟩
theorem ab_alk_trans (fo : Nat → Option ab_Ls) {a b c : Option Nat} (h1 : ab_alk fo a b = true) (h2 : ab_alk fo b c = true) : ab_alk fo a c = true := by
  cases a with
  | none => cases b with
    | none => exact h2
    | some y => cases h1
  | some x => cases b with
    | none => cases h1
    | some y => cases c with
      | none => cases h2
      | some v => exact decide_eq_true ((of_decide_eq_true h1).trans (of_decide_eq_true h2))
theorem ab_cat_sg (T : ab_T) (fo : Nat → Option ab_Ls) (p : Nat) (x : Option Nat) : ∀ k, (ab_cat (ab_sg T fo p x) k).length = ab_cn (ab_rdr T fo p x) k
  | 0 => rfl
  | k + 1 => by
    rw [ab_cat, List.length_append, ab_cat_sg T fo p x k, ab_cn]
    unfold ab_sg
    split <;> rfl
theorem ab_ek_len {T : ab_T} {fo : Nat → Option ab_Ls} {p : Nat} (neg : Bool) (hp : p < 100) (hL : (ab_rd fo (ab_lem T p)).length ≤ 12) (hN : ∀ v, v < 4 → (ab_rd fo (ab_nat T p v)).length ≤ 12) : ∀ k, k ≤ 4 → (ab_ek T fo p neg k).1.length ≤ 16 + (ab_gk (fun v => ab_isJ T.2.2.2.1 (Int32.ofNat v)) (fun v => ab_alk fo (ab_nat T p v) (ab_lem T p)) (fun v u => ab_alk fo (ab_nat T p v) (ab_nat T p u)) neg k).1 ∧ (ab_ek T fo p neg k).2 = (ab_gk (fun v => ab_isJ T.2.2.2.1 (Int32.ofNat v)) (fun v => ab_alk fo (ab_nat T p v) (ab_lem T p)) (fun v u => ab_alk fo (ab_nat T p v) (ab_nat T p u)) neg k).2 := by
  have hgrp : ∀ x, (ab_rd fo x).length ≤ 12 → (ab_grp T fo p x).length ≤ 14 + ab_cn (ab_rdr T fo p x) 4 := by
    intro x hx
    have h := ab_cat_sg T fo p x 4
    unfold ab_grp
    rw [List.length_append, List.length_append, List.length_append, h]
    show 1 + _ + 1 + _ ≤ _
    omega
  have h0 : (ab_e0 T fo p).length ≤ 16 := by
    unfold ab_e0
    rw [List.length_append, List.length_append, List.length_append]
    have h1 : (ab_nm p).length ≤ 2 := by unfold ab_nm; split <;> simp
    show _ + 1 + _ + 1 ≤ 16
    omega
  intro k
  induction k with
  | zero =>
    intro _
    rw [ab_ek, ab_gk]
    show (if (!neg && (ab_ff (ab_rdr T fo p (ab_lem T p)) 4 0).isSome) = true then (ab_e0 T fo p ++ ab_grp T fo p (ab_lem T p), false) else (ab_e0 T fo p, true)).1.length ≤ 16 + (if (!neg && (ab_ff (ab_rdr T fo p (ab_lem T p)) 4 0).isSome) = true then (14 + ab_cn (ab_rdr T fo p (ab_lem T p)) 4, false) else (0, true)).1 ∧ (if (!neg && (ab_ff (ab_rdr T fo p (ab_lem T p)) 4 0).isSome) = true then (ab_e0 T fo p ++ ab_grp T fo p (ab_lem T p), false) else (ab_e0 T fo p, true)).2 = (if (!neg && (ab_ff (ab_rdr T fo p (ab_lem T p)) 4 0).isSome) = true then (14 + ab_cn (ab_rdr T fo p (ab_lem T p)) 4, false) else (0, true)).2
    have h1 := hgrp _ hL
    split
    · refine ⟨?_, rfl⟩
      show (ab_e0 T fo p ++ ab_grp T fo p (ab_lem T p)).length ≤ 16 + (14 + ab_cn (ab_rdr T fo p (ab_lem T p)) 4)
      rw [List.length_append]
      omega
    · exact ⟨h0, rfl⟩
  | succ k ih =>
    intro hk
    obtain ⟨i1, i2⟩ := ih (by omega)
    have h1 := hgrp _ (hN k (by omega))
    rw [ab_ek, ab_gk]
    generalize ab_ek T fo p neg k = E at *
    generalize ab_gk (fun v => ab_isJ T.2.2.2.1 (Int32.ofNat v)) (fun v => ab_alk fo (ab_nat T p v) (ab_lem T p)) (fun v u => ab_alk fo (ab_nat T p v) (ab_nat T p u)) neg k = G at *
    show (if ab_cd T fo p k = true then (E.1 ++ (if E.2 = true then [] else [59]) ++ ab_grp T fo p (ab_nat T p k), false) else E).1.length ≤ 16 + (if ab_cd T fo p k = true then (G.1 + (if G.2 = true then 0 else 1) + (14 + ab_cn (ab_rdr T fo p (ab_nat T p k)) 4), false) else G).1 ∧ (if ab_cd T fo p k = true then (E.1 ++ (if E.2 = true then [] else [59]) ++ ab_grp T fo p (ab_nat T p k), false) else E).2 = (if ab_cd T fo p k = true then (G.1 + (if G.2 = true then 0 else 1) + (14 + ab_cn (ab_rdr T fo p (ab_nat T p k)) 4), false) else G).2
    split
    · refine ⟨?_, rfl⟩
      show (E.1 ++ (if E.2 = true then [] else [59]) ++ ab_grp T fo p (ab_nat T p k)).length ≤ 16 + (G.1 + (if G.2 = true then 0 else 1) + (14 + ab_cn (ab_rdr T fo p (ab_nat T p k)) 4))
      rw [List.length_append, List.length_append, i2]
      split
      · rw [List.length_nil]; omega
      · rw [List.length_singleton]; omega
    · exact ⟨i1, i2⟩
theorem ab_ent_80 {T : ab_T} {fo : Nat → Option ab_Ls} {p : Nat} (neg : Bool) (hp : p < 100) (hL : (ab_rd fo (ab_lem T p)).length ≤ 12) (hN : ∀ v, v < 4 → (ab_rd fo (ab_nat T p v)).length ≤ 12) : (ab_ent T fo p neg).length ≤ 80 := by
  have h1 := (ab_ek_len neg hp hL hN 4 (Nat.le_refl _)).1
  have h2 := ab_gk_le (fun v => ab_isJ T.2.2.2.1 (Int32.ofNat v)) (fun v => ab_alk fo (ab_nat T p v) (ab_lem T p)) (fun v u => ab_alk fo (ab_nat T p v) (ab_nat T p u)) neg (fun v => ab_alk_refl fo _) (fun v u => ab_alk_symm fo _ _) (fun v u a b => ab_alk_trans fo a (by rw [ab_alk_symm]; exact b)) (fun v u a b => ab_alk_trans fo (by rw [ab_alk_symm]; exact b) a) (fun v u x a b => ab_alk_trans fo a b)
  unfold ab_ent
  rw [List.length_append, List.length_singleton]
  omega
theorem ab_wr_len {T : ab_T} {fo : Nat → Option ab_Ls} (neg : Bool) (h : ∀ p, p < T.1 → (ab_ent T fo p neg).length ≤ 80) : ∀ k, k ≤ T.1 → (ab_wr T fo neg k).length ≤ 80 * k
  | 0, _ => Nat.le_refl _
  | k + 1, hk => by
    have ih := ab_wr_len neg h k (by omega)
    have h1 := h k (by omega)
    unfold ab_wr at ih ⊢
    rw [ab_cat, List.length_append]
    split
    · omega
    · rw [List.length_nil]; omega
end AbBound
