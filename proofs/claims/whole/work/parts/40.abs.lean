/-! what the numbers mean: rows of letters, rules, forms -/
section AbRules
abbrev ab_Ls : Type := List Int32
def ab_az (l : ab_Ls) : Prop := ∀ v ∈ l, 97 ≤ v.toInt ∧ v.toInt ≤ 122
def ab_row (m : ev_Mem) (c o : Nat) (l : ab_Ls) : Prop := ∀ k, k < l.length → m c (o + k) = l.getD k 0
def ab_L (m : ev_Mem) (x : Nat) (l : ab_Ls) : Prop := (m x 1).toInt = (l.length : Int) ∧ ab_row m (x + 1) 0 l
def ab_F (m : ev_Mem) (x : Nat) (o : Option ab_Ls) : Prop := match o with
  | none => (m x 1).toInt = -1
  | some l => ab_L m x l
theorem ab_ch {l : ab_Ls} (h : ab_az l) {v : Int32} (hv : v ∈ l) : ev_ch v := by
  have h1 := h v hv
  have key : ∀ n : Nat, n < 123 → 97 ≤ n → narrow .char (.int (Int32.ofNat n)) = .int (Int32.ofNat n) := by decide
  have h2 := key v.toInt.toNat (by omega) (by omega)
  rw [ev_ofNat_toNat (by omega)] at h2
  exact h2
theorem ab_getD_mem {l : ab_Ls} {k : Nat} (h : k < l.length) : l.getD k 0 ∈ l := by
  rw [List.getD_eq_getElem?_getD, List.getElem?_eq_getElem h]
  exact List.getElem_mem h
theorem ab_row_ch {m : ev_Mem} {c o : Nat} {l : ab_Ls} (h : ab_row m c o l) (hz : ab_az l) {k : Nat} (hk : k < l.length) : ev_ch (m c (o + k)) := by
  rw [h k hk]
  exact ab_ch hz (ab_getD_mem hk)
/-- the rule whose left stands at f: the longest, of these the first -/
def ab_pk (l : ab_Ls) (f : Nat) : List (ab_Ls × ab_Ls) → Nat → Option Nat × Nat → Option Nat × Nat
  | [], _, s => s
  | q :: rs, r, s => ab_pk l f rs (r + 1) (if s.2 < q.1.length ∧ q.1.isPrefixOf (l.drop f) = true then (some r, q.1.length) else s)
def ab_pick (rs : List (ab_Ls × ab_Ls)) (l : ab_Ls) (f : Nat) : Option Nat := (ab_pk l f rs 0 (none, 0)).1
def ab_oi (o : Option Nat) : Int32 := match o with
  | none => -1
  | some r => Int32.ofNat r
/-- the form -/
def ab_br (rs : List (ab_Ls × ab_Ls)) (l : ab_Ls) : Nat → Nat → ab_Ls
  | 0, _ => []
  | n + 1, f => if f < l.length then (match ab_pick rs l f with
    | none => l.getD f 0 :: ab_br rs l n (f + 1)
    | some r => (rs.getD r ([], [])).2 ++ ab_br rs l n (f + (rs.getD r ([], [])).1.length)) else []
def ab_form (rs : List (ab_Ls × ab_Ls)) (l : ab_Ls) : ab_Ls := ab_br rs l l.length 0
theorem ab_pk_app (l : ab_Ls) (f : Nat) : ∀ (rs : List (ab_Ls × ab_Ls)) (r : Nat) (s : Option Nat × Nat) (q : ab_Ls × ab_Ls), ab_pk l f (rs ++ [q]) r s = (fun z => if z.2 < q.1.length ∧ q.1.isPrefixOf (l.drop f) = true then (some (r + rs.length), q.1.length) else z) (ab_pk l f rs r s)
  | [], r, s, q => rfl
  | p :: rs, r, s, q => by
    have h1 := ab_pk_app l f rs (r + 1) (if s.2 < p.1.length ∧ p.1.isPrefixOf (l.drop f) = true then (some r, p.1.length) else s) q
    have e1 : r + 1 + rs.length = r + (p :: rs).length := by rw [List.length_cons]; omega
    rw [e1] at h1
    exact h1
/-- standing, of rows -/
theorem ab_std {m : ev_Mem} {x y : Nat} {l l2 : ab_Ls} (hx : ab_L m x l) (hy : ab_L m y l2) (f : Nat) : ev_std m x y (f : Int) ↔ (l.length = 0 ∧ f ≤ l2.length) ∨ (0 < l.length ∧ l.isPrefixOf (l2.drop f) = true) := by
  unfold ev_std
  rw [hx.1, hy.1]
  have e1 : ((f : Int)).toNat = f := Int.toNat_natCast f
  rw [e1]
  have key : ∀ k, k < l.length → m (x + 1) k = l.getD k 0 := fun k hk => by have := hx.2 k hk; rwa [Nat.zero_add] at this
  have key2 : ∀ k, k < l2.length → m (y + 1) k = l2.getD k 0 := fun k hk => by have := hy.2 k hk; rwa [Nat.zero_add] at this
  rw [List.isPrefixOf_iff_prefix, List.prefix_iff_getElem?]
  constructor
  · rintro ⟨h1, h2⟩
    rcases Nat.eq_zero_or_pos l.length with hz | hz
    · exact Or.inl ⟨hz, by omega⟩
    · refine Or.inr ⟨hz, fun i hi => ?_⟩
      have h3 := h2 i (by omega)
      rw [key i hi, key2 (f + i) (by omega)] at h3
      rw [List.getElem?_drop, List.getElem?_eq_getElem (by omega)]
      rw [List.getD_eq_getElem?_getD, List.getD_eq_getElem?_getD, List.getElem?_eq_getElem hi, List.getElem?_eq_getElem (by omega : f + i < l2.length)] at h3
      exact congrArg some h3.symm
  · rintro (⟨h1, h2⟩ | ⟨h1, h2⟩)
    · exact ⟨by omega, fun k hk => by omega⟩
    · have hlen : f + l.length ≤ l2.length := by
        have h3 := h2 (l.length - 1) (by omega)
        rw [List.getElem?_drop] at h3
        have h4 := (List.getElem?_eq_some_iff.mp h3).1
        omega
      refine ⟨by omega, fun k hk => ?_⟩
      have hk' : k < l.length := by omega
      have h3 := h2 k hk'
      rw [List.getElem?_drop] at h3
      rw [key k hk', key2 (f + k) (by omega), List.getD_eq_getElem?_getD, List.getD_eq_getElem?_getD, h3, List.getElem?_eq_getElem hk']
end AbRules
