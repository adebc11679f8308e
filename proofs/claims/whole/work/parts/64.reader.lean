/-! the class's reader: tokens -/
section EvReader
variable {w : ev_W} {Q : ev_QT} {m : ev_Mem} {t : ev_H}
def ab_RS (m : ev_Mem) (n pm sn : Nat) (R : Nat → Option Nat) (v : Nat) : Prop := m 219 3 = Int32.ofNat v ∧ m 219 4 = Int32.ofNat n ∧ m 219 5 = Int32.ofInt ((pm : Int) - 1) ∧ m 219 6 = Int32.ofNat sn ∧ ∀ p, p < 24 → m 269 p = ab_oi (R p)
def ab_frd (m m' : ev_Mem) : Prop := ∀ c i, c ≠ 269 → ¬ (c = 219 ∧ 3 ≤ i) → m' c i = m c i
theorem ab_frd_rfl {m : ev_Mem} : ab_frd m m := fun _ _ _ _ => rfl
theorem ab_frd_tr {a b c : ev_Mem} (h1 : ab_frd a b) (h2 : ab_frd b c) : ab_frd a c := fun k i z1 z2 => (h2 k i z1 z2).trans (h1 k i z1 z2)
theorem ab_O_frd {m m' : ev_Mem} {o : ab_Ls} (h : ab_frd m m') (hO : ab_O m o) : ab_O m' o := ⟨by rw [h _ _ (by decide) (by decide)]; exact hO.1, fun k hk => by rw [h _ _ (by decide) (by omega)]; exact hO.2 k hk⟩
theorem ab_E_frd {m m' : ev_Mem} {T : ab_T} {fo : Nat → Option ab_Ls} (h : ab_frd m m') (hE : ab_E m T fo) : ab_E m' T fo := ab_E_cong (fun c i _ z => h c i (by omega) (by omega)) hE
/-- the sheet, as it may be -/
def ab_Ook (o : ab_Ls) : Prop := o.length ≤ 1920 ∧ ∀ v ∈ o, ab_c16 v
def ab_is (o : ab_Ls) (c : Int32) (n : Nat) : Bool := decide (n < o.length ∧ o.getD n 0 = c)
theorem ab_is_lt {o : ab_Ls} {c : Int32} {n : Nat} (h : ab_is o c n = true) : n < o.length := (of_decide_eq_true h).1
theorem ab_RS_next {n pm sn v k : Nat} {R : Nat → Option Nat} (h : ab_RS m n pm sn R v) : ab_RS (ev_up m 219 4 (Int32.ofNat k)) k pm sn R v := by
  obtain ⟨a, b, c, d, e⟩ := h
  exact ⟨by rw [ev_up_idx _ _ (by decide)]; exact a, ev_up_same _ _ _ _, by rw [ev_up_idx _ _ (by decide)]; exact c, by rw [ev_up_idx _ _ (by decide)]; exact d, fun p hp => by rw [ev_up_cell _ (by decide)]; exact e p hp⟩
theorem ab_frd_up {m : ev_Mem} {i : Nat} {x : Int32} (h : 3 ≤ i) : ab_frd m (ev_up m 219 i x) := fun c k _ z2 => if_neg (fun q => z2 ⟨q.1, by omega⟩)
/-- Reader.readSign -/
theorem ev_S78 {n pm sn v : Nat} {R : Nat → Option Nat} {c : Int32} {o : ab_Ls} (A : ev_all w) (hO : ab_O m o) (ho : ab_Ook o) (hS : ab_RS m n pm sn R v) (hn : n ≤ o.length)
    (h1 : ab_is o c n = true → ∀ m', ab_frd m m' → ab_RS m' (n + 1) pm sn R v → Q (.inl (some (.int 1))) m' t) (h0 : ab_is o c n = false → Q (.inl (some (.int 0))) m t) : ev_K w 78 [.ref 219, .ref 217, .int c] m t Q := by
  have hp : ev_prog[78]? = some ev_m78 := rfl
  have hlen := ho.1
  have e4 := hS.2.1
  have i4 := ev_toI e4 (by omega)
  have el := ev_toI hO.1 (by omega)
  refine ⟨Or.inr ⟨219, _, rfl, rfl⟩, ev_m78, rfl, ev_gK A hp [] 10 ?_⟩
  refine ev_S69 A ?_
  refine And.intro (fun (h : (m 217 1).toInt ≤ (m 219 4).toInt) => ?_) (fun (h : (m 219 4).toInt < (m 217 1).toInt) => ?_)
  · exact ⟨rfl, h0 (decide_eq_false (by omega))⟩
  · have hlt : n < o.length := by omega
    show ev_K w 70 [.ref 217, .int (m 219 4)] m t _
    rw [e4]
    refine ev_S70 A hO hlen ho.2 hlt ?_
    refine ev_gK A hp [25] 10 ?_
    refine And.intro (fun (h : (o.getD n 0).toInt = c.toInt) => ?_) (fun (h : ¬ (o.getD n 0).toInt = c.toInt) => ?_)
    · show ev_J w ev_m78 (ev_nd 78) Q 25 [ev_vr 219, ev_vr 217, ev_vi c] [] m t
      refine ev_gK A hp [] 10 ?_
      show narrow .boolean (.int 1) = .int 1 ∧ Q (.inl (some (.int 1))) (ev_up m 219 4 (m 219 4 + 1)) t
      rw [e4, ev_succ (by omega)]
      exact ⟨rfl, h1 (decide_eq_true ⟨hlt, ev_eq_of h⟩) _ (ab_frd_up (by decide)) (ab_RS_next hS)⟩
    · exact ⟨rfl, h0 (decide_eq_false (fun q => h (by rw [q.2])))⟩
theorem ab_run_le (o : ab_Ls) (a b : Int) : ∀ (n f : Nat), ab_run o f a b n ≤ n
  | 0, _ => Nat.le_refl _
  | n + 1, f => by
    have h := ab_run_le o a b n (f + 1)
    rw [ab_run]
    split <;> omega
theorem ab_run_in (o : ab_Ls) (a b : Int) : ∀ (n f k : Nat), k < ab_run o f a b n → f + k < o.length ∧ a ≤ (o.getD (f + k) 0).toInt ∧ (o.getD (f + k) 0).toInt ≤ b
  | 0, _, _, h => by rw [ab_run] at h; omega
  | n + 1, f, k, h => by
    rw [ab_run] at h
    split at h
    · rename_i q
      cases k with
      | zero => exact q
      | succ k =>
        have h1 := ab_run_in o a b n (f + 1) k (by omega)
        rw [(by omega : f + 1 + k = f + (k + 1))] at h1
        exact h1
    · omega
def ab_dg (o : ab_Ls) (n : Nat) : Nat := ((o.getD n 0).toInt - 48).toNat
def ab_pv (o : ab_Ls) (n d : Nat) : Nat := if d = 1 then ab_dg o n else 10 * ab_dg o n + ab_dg o (n + 1)
def ab_pl (o : ab_Ls) (N pm n : Nat) : Option (Nat × Nat) := if ab_run o n 48 57 2 = 0 ∨ (1 < ab_run o n 48 57 2 ∧ (o.getD n 0).toInt = 48) ∨ ab_pv o n (ab_run o n 48 57 2) < pm ∨ N ≤ ab_pv o n (ab_run o n 48 57 2) then none else some (ab_run o n 48 57 2, ab_pv o n (ab_run o n 48 57 2))
theorem ev_subN {x : Int32} {c : Nat} (h : (c : Int) ≤ x.toInt) (h2 : x.toInt < 65536) : x - Int32.ofNat c = Int32.ofNat (x.toInt - (c : Int)).toNat := by
  apply ev_eq_of
  have ec := ev_ofNat_i (n := c) (by omega)
  rw [ev_sub_i (by omega) (by omega), ec, ev_ofNat_i (by omega)]
  omega
/-- Reader.readPlace -/
theorem ev_S77 {n pm sn v : Nat} {R : Nat → Option Nat} {o : ab_Ls} {T : ab_T} (A : ev_all w) (hT : ab_TC m T) (hok : ab_Tok T) (hO : ab_O m o) (ho : ab_Ook o) (hS : ab_RS m n pm sn R v) (hn : n ≤ o.length) (hpm : pm ≤ 24)
    (h1 : ∀ d q, ab_pl o T.1 pm n = some (d, q) → ∀ m', ab_frd m m' → ab_RS m' (n + d) (q + 1) sn R v → Q (.inl (some (.int 1))) m' t) (h0 : ab_pl o T.1 pm n = none → Q (.inl (some (.int 0))) m t) : ev_K w 77 [.ref 219, .ref 217, .ref 209] m t Q := by
  have hp : ev_prog[77]? = some ev_m77 := rfl
  have hlen := ho.1
  have k1 := hok.1
  have t1 := hT.1
  obtain ⟨s3, e4, e5, e6, e7⟩ := id hS
  have i1 : (Int32.ofInt 1).toInt = 1 := by decide
  have i48 : ((Int8.ofInt 48).toInt32).toInt = 48 := by decide
  have hrl := ab_run_le o 48 57 2 n
  have hri := ab_run_in o 48 57 2 n
  have e5i : (m 219 5).toInt = (pm : Int) - 1 := by rw [e5, ev_ofInt_i (by omega) (by omega)]
  unfold ab_pl at h1 h0
  -- behind the digits
  have h78 : ∀ (d : Nat) (nn : Int32) (o5 : Option Value), ab_run o n 48 57 2 = d → ¬ d = 0 → ¬ (1 < d ∧ (o.getD n 0).toInt = 48) → nn = Int32.ofNat (ab_pv o n d) → ab_pv o n d < 1000 → ev_J w ev_m77 (ev_nd 77) Q 78 [ev_vr 219, ev_vr 217, ev_vr 209, ev_vn d, ev_vi nn, o5] [] m t := by
    intro d nn o5 hd hd0 hd1 hnn hlt
    rw [hd] at h1 h0
    have hnd : n + d ≤ o.length := by
      have := (hri (d - 1) (by omega)).1
      omega
    subst hnn
    have eq := ev_ofNat_i (n := ab_pv o n d) (by omega)
    refine ev_gK A hp [98] 20 ?_
    refine And.intro (fun (h : (Int32.ofNat (ab_pv o n d)).toInt ≤ (m 219 5).toInt) => ⟨rfl, h0 (if_pos (Or.inr (Or.inr (Or.inl (by omega)))))⟩) (fun (h : (m 219 5).toInt < (Int32.ofNat (ab_pv o n d)).toInt) => ?_)
    refine ev_S36 A ?_
    refine And.intro (fun (h : (Int32.ofNat (ab_pv o n d)).toInt < (m 209 2).toInt) => ?_) (fun (h : (m 209 2).toInt ≤ (Int32.ofNat (ab_pv o n d)).toInt) => ⟨rfl, h0 (if_pos (Or.inr (Or.inr (Or.inr (by omega)))))⟩)
    refine ev_gK A hp [] 20 ?_
    show narrow .boolean (.int 1) = .int 1 ∧ Q (.inl (some (.int 1))) (ev_up (ev_up m 219 5 (Int32.ofNat (ab_pv o n d))) 219 4 (ev_up m 219 5 (Int32.ofNat (ab_pv o n d)) 219 4 + Int32.ofNat d)) t
    rw [ev_up_idx _ _ (by decide), e4, ev_addN (by omega)]
    refine ⟨rfl, h1 d (ab_pv o n d) (if_neg (by omega)) _ (ab_frd_tr (ab_frd_up (by decide)) (ab_frd_up (by decide))) (ab_RS_next (n := n) ?_)⟩
    refine ⟨by rw [ev_up_idx _ _ (by decide)]; exact s3, by rw [ev_up_idx _ _ (by decide)]; exact e4, ?_, by rw [ev_up_idx _ _ (by decide)]; exact e6, fun p hp => by rw [ev_up_cell _ (by decide)]; exact e7 p hp⟩
    rw [ev_up_same]
    apply ev_eq_of
    rw [eq, ev_ofInt_i (by omega) (by omega)]
    omega
  -- one digit
  have sgn : ∀ k, k < ab_run o n 48 57 2 → (o.getD (n + k) 0 - Int32.ofNat 48 = Int32.ofNat (ab_dg o (n + k)) ∧ ab_dg o (n + k) ≤ 9) := by
    intro k hk
    obtain ⟨a, b, c⟩ := hri k hk
    refine ⟨ev_subN b (by omega), ?_⟩
    unfold ab_dg
    omega
  have e10 : ∀ a b : Nat, a ≤ 9 → b ≤ 9 → (Int8.ofInt 10).toInt32 * Int32.ofNat a + Int32.ofNat b = Int32.ofNat (10 * a + b) := by
    intro a b ha hb
    have ea := ev_ofNat_i (n := a) (by omega)
    have eb := ev_ofNat_i (n := b) (by omega)
    have i10 : ((Int8.ofInt 10).toInt32).toInt = 10 := by decide
    apply ev_eq_of
    have em : ((Int8.ofInt 10).toInt32 * Int32.ofNat a).toInt = 10 * (a : Int) := by rw [ev_mul_i (by rw [ea, i10]; omega) (by rw [ea, i10]; omega), ea, i10]
    rw [ev_add_i (by omega) (by omega), em, eb, ev_ofNat_i (by omega)]
    omega
  have body : ∀ (d k a : Nat) (aa kk : Int32), ab_run o n 48 57 2 = d → k < d → a ≤ 9 → aa = Int32.ofNat a → kk = Int32.ofNat k → (∀ (a' k' : Int32), a' = Int32.ofNat (10 * a + ab_dg o (n + k)) → k' = Int32.ofNat (k + 1) → ev_J w ev_m77 (ev_nd 77) Q 44 [ev_vr 219, ev_vr 217, ev_vr 209, ev_vn d, ev_vi a', ev_vi k'] [] m t) → ev_J w ev_m77 (ev_nd 77) Q 44 [ev_vr 219, ev_vr 217, ev_vr 209, ev_vn d, ev_vi aa, ev_vi kk] [] m t := by
    intro d k a aa kk hd hk ha haa hkk kont
    subst haa hkk
    have ek := ev_ofNat_i (n := k) (by omega)
    have ed := ev_ofNat_i (n := d) (by omega)
    refine ev_gK A hp [50] 10 ?_
    refine And.intro (fun (h : (Int32.ofNat d).toInt ≤ (Int32.ofNat k).toInt) => by omega) (fun _ => ?_)
    refine ev_gK A hp [] 8 ?_
    show ev_J w ev_m77 (ev_nd 77) Q 63 [ev_vr 219, ev_vr 217, ev_vr 209, ev_vn d, ev_vn a, ev_vn k] [.int (m 219 4 + Int32.ofNat k), .ref 217, .int ((Int8.ofInt 10).toInt32 * Int32.ofNat a)] m t
    rw [e4, ev_addN (by omega)]
    refine ev_gK A hp [] 1 ?_
    show ev_K w 70 [.ref 217, .int (Int32.ofNat (n + k))] m t _
    refine ev_S70 A hO hlen ho.2 (hri k (by omega)).1 ?_
    refine ev_gK A hp [] 2 ?_
    show ev_J w ev_m77 (ev_nd 77) Q 69 [ev_vr 219, ev_vr 217, ev_vr 209, ev_vn d, ev_vn a, ev_vn k] [.int (o.getD (n + k) 0 - Int32.ofNat 48), .int ((Int8.ofInt 10).toInt32 * Int32.ofNat a)] m t
    rw [(sgn k (by omega)).1]
    refine ev_gK A hp [44] 10 ?_
    exact kont _ _ (e10 _ _ ha (sgn k (by omega)).2) (ev_succ (by omega))
  have last : ∀ (d : Nat) (aa kk : Int32), ab_run o n 48 57 2 = d → kk = Int32.ofNat d → ¬ d = 0 → ¬ (1 < d ∧ (o.getD n 0).toInt = 48) → aa = Int32.ofNat (ab_pv o n d) → ab_pv o n d < 1000 → ev_J w ev_m77 (ev_nd 77) Q 44 [ev_vr 219, ev_vr 217, ev_vr 209, ev_vn d, ev_vi aa, ev_vi kk] [] m t := by
    intro d aa kk hd hkk y1 y2 haa y3
    subst hkk
    have ed := ev_ofNat_i (n := d) (by omega)
    refine ev_gK A hp [78] 10 ?_
    refine And.intro (fun _ => h78 d _ _ hd y1 y2 haa y3) (fun (h : (Int32.ofNat d).toInt < (Int32.ofNat d).toInt) => by omega)
  have h38 : ∀ d, ab_run o n 48 57 2 = d → ¬ d = 0 → ¬ (1 < d ∧ (o.getD n 0).toInt = 48) → ev_J w ev_m77 (ev_nd 77) Q 38 [ev_vr 219, ev_vr 217, ev_vr 209, ev_vn d, none, none] [] m t := by
    intro d hd y1 y2
    refine ev_gK A hp [44] 10 ?_
    refine body d 0 0 _ _ hd (by omega) (by omega) rfl rfl (fun a1 k1 ha1 hk1 => ?_)
    have g0 := (sgn 0 (by omega)).2
    rw [Nat.add_zero] at g0
    rw [Nat.add_zero, Nat.mul_zero, Nat.zero_add] at ha1
    by_cases hd1 : d = 1
    · subst hd1
      have ep : ab_pv o n 1 = ab_dg o n := if_pos rfl
      refine last 1 _ _ hd hk1 y1 y2 (by rw [ha1, ep]) (by rw [ep]; omega)
    · have hd2 : d = 2 := by omega
      subst hd2
      have g1 := (sgn 1 (by omega)).2
      have ep : ab_pv o n 2 = 10 * ab_dg o n + ab_dg o (n + 1) := if_neg (by decide)
      refine body 2 1 (ab_dg o n) _ _ hd (by omega) (by omega) ha1 hk1 (fun a2 k2 ha2 hk2 => ?_)
      refine last 2 _ _ hd hk2 y1 y2 (by rw [ha2, ep]) (by rw [ep]; omega)
  refine ⟨Or.inr ⟨219, _, rfl, rfl⟩, ev_m77, rfl, ev_gK A hp [] 7 ?_⟩
  show ev_K w 72 [.ref 217, .int (m 219 4), .int (Int32.ofNat 48), .int (Int32.ofNat 57), .int (Int32.ofNat 2)] m t _
  rw [e4]
  refine ev_S72 A hO hlen hn (by decide) ?_
  obtain ⟨d, hd⟩ : ∃ d, ab_run o n 48 57 2 = d := ⟨_, rfl⟩
  have hdd : ab_run o n (Int32.ofNat 48).toInt (Int32.ofNat 57).toInt 2 = d := hd
  have ed := ev_ofNat_i (n := d) (by omega)
  refine ev_gK A hp [38, 18] 10 ?_
  rw [hdd]
  refine And.intro (fun (h : (Int32.ofNat d).toInt = 0) => ⟨rfl, h0 (if_pos (Or.inl (by omega)))⟩) (fun (h : ¬ (Int32.ofNat d).toInt = 0) => ?_)
  show ev_J w ev_m77 (ev_nd 77) Q 18 [ev_vr 219, ev_vr 217, ev_vr 209, ev_vn d, none, none] [] m t
  refine ev_gK A hp [38, 23] 10 ?_
  refine And.intro (fun (h2 : (Int32.ofNat d).toInt ≤ (Int32.ofInt 1).toInt) => h38 d hd (by omega) (by omega)) (fun (h2 : (Int32.ofInt 1).toInt < (Int32.ofNat d).toInt) => ?_)
  refine ev_gK A hp [] 4 ?_
  show ev_K w 70 [.ref 217, .int (m 219 4)] m t _
  rw [e4]
  refine ev_S70 A hO hlen ho.2 (by have := (hri 0 (by omega)).1; omega) ?_
  refine ev_gK A hp [38] 10 ?_
  refine And.intro (fun (h3 : ¬ (o.getD n 0).toInt = ((Int8.ofInt 48).toInt32).toInt) => h38 d hd (by omega) (by omega)) (fun (h3 : (o.getD n 0).toInt = ((Int8.ofInt 48).toInt32).toInt) => ⟨rfl, h0 (if_pos (Or.inr (Or.inl ⟨by omega, by omega⟩)))⟩)
end EvReader
