/-! the class's sheet: groups, entries, all -/
section EvWrite
variable {w : ev_W} {Q : ev_QT} {m : ev_Mem} {t : ev_H}
def ab_E (m : ev_Mem) (T : ab_T) (fo : Nat → Option ab_Ls) : Prop := ab_TC m T ∧ ab_Tok T ∧ ab_FO m fo ∧ (∀ p v i, p < T.1 → v < 4 → T.2.1 p v = some i → ab_th m (10 * v + i) = true) ∧ (∀ y l, y < 40 → ab_th m y = true → fo y = some l → ab_az l) ∧ (∀ x y, x < 40 → y < 40 → ab_th m x = true → ab_th m y = true → ((m 204 x).toInt = (m 204 y).toInt ↔ fo x = fo y))
theorem ab_E_cong {m m' : ev_Mem} {T : ab_T} {fo : Nat → Option ab_Ls} (h : ∀ c i, 40 ≤ c → c < 213 → m' c i = m c i) (hE : ab_E m T fo) : ab_E m' T fo := by
  obtain ⟨e1, e2, e3, e4, e5, e6⟩ := hE
  have hth : ∀ z, ab_th m' z = ab_th m z := ab_th_cong (fun j => h _ _ (by decide) (by decide))
  refine ⟨ab_TC_cong (fun k j z1 z2 => h k j (by omega) (by omega)) e1, e2, fun x hx ht => ?_, fun p v i z1 z2 z3 => by rw [hth]; exact e4 p v i z1 z2 z3, fun y l z1 z2 z3 => e5 y l z1 (by rw [← hth]; exact z2) z3, fun x y z1 z2 z3 z4 => ?_⟩
  · rw [hth] at ht
    obtain ⟨a, b⟩ := e3 x hx ht
    exact ⟨ab_F_cong (fun j => h _ _ (by omega) (by omega)) (fun j => h _ _ (by omega) (by omega)) a, b⟩
  · rw [hth] at z3 z4
    rw [h 204 x (by decide) (by decide), h 204 y (by decide) (by decide)]
    exact e6 x y z1 z2 z3 z4
theorem ab_E_frs {m m' : ev_Mem} {T : ab_T} {fo : Nat → Option ab_Ls} (h : ab_frs m m') (hE : ab_E m T fo) : ab_E m' T fo := ab_E_cong (fun c i _ z => h c i (by omega) (by omega)) hE
def ab_okx (m : ev_Mem) (x : Option Nat) : Prop := ∀ y, x = some y → y < 40 ∧ ab_th m y = true
theorem ab_okx_frs {m m' : ev_Mem} {x : Option Nat} (h : ab_frs m m') (hx : ab_okx m x) : ab_okx m' x := fun y hy => ⟨(hx y hy).1, by rw [ab_th_cong (fun j => h _ _ (by decide) (by decide))]; exact (hx y hy).2⟩
def ab_nat (T : ab_T) (p v : Nat) : Option Nat := ab_num v (T.2.1 p v)
def ab_alk (fo : Nat → Option ab_Ls) (a b : Option Nat) : Bool := match a, b with
  | none, none => true
  | some x, some y => decide (fo x = fo y)
  | _, _ => false
theorem ab_nat_ok {T : ab_T} {fo : Nat → Option ab_Ls} (hE : ab_E m T fo) {p v : Nat} (hp : p < T.1) (hv : v < 4) : ab_okx m (ab_nat T p v) := by
  intro y hy
  unfold ab_nat ab_num at hy
  cases hc : T.2.1 p v with
  | none => rw [hc] at hy; cases hy
  | some i =>
    rw [hc] at hy
    cases hy
    have h1 := hE.2.1.2.1 p v i hc
    exact ⟨(by show 10 * v + i < 40; omega), hE.2.2.2.1 p v i hp hv hc⟩
theorem ab_lem_ok {T : ab_T} {fo : Nat → Option ab_Ls} (hE : ab_E m T fo) {p : Nat} (hp : p < T.1) : ab_okx m (ab_lem T p) := by
  intro y hy
  have key : ∀ r : Option Nat, (∀ v, r = some v → v < 4) → (match r with | none => none | some v => ab_num v (T.2.1 p v)) = some y → y < 40 ∧ ab_th m y = true := by
    intro r hr h
    cases r with
    | none => cases h
    | some v => exact ab_nat_ok hE hp (hr v rfl) y h
  unfold ab_lem at hy
  cases hch : T.2.2.1 p with
  | none => rw [hch] at hy; exact key _ (fun v hv => hE.2.1.2.2.2.2.2 v hv) hy
  | some v => rw [hch] at hy; exact key (some v) (fun u hu => by cases hu; exact hE.2.1.2.2.1 p v hch) hy
theorem ab_E_alk {T : ab_T} {fo : Nat → Option ab_Ls} (hE : ab_E m T fo) {a b : Option Nat} (ha : ab_okx m a) (hb : ab_okx m b) : ab_eqm m 204 a b = ab_alk fo a b := by
  cases a with
  | none => cases b <;> rfl
  | some x =>
    cases b with
    | none => rfl
    | some y =>
      obtain ⟨x1, x2⟩ := ha x rfl
      obtain ⟨y1, y2⟩ := hb y rfl
      exact decide_eq_decide.mpr (hE.2.2.2.2.2 x y x1 y1 x2 y2)
def ab_rdr (T : ab_T) (fo : Nat → Option ab_Ls) (p : Nat) (x : Option Nat) (v : Nat) : Bool := ab_isJ T.2.2.2.1 (Int32.ofNat v) && ab_alk fo (ab_nat T p v) x
def ab_ff (f : Nat → Bool) : Nat → Nat → Option Nat
  | 0, _ => none
  | n + 1, k => if f k = true then some k else ab_ff f n (k + 1)
theorem ab_ff_next {f : Nat → Bool} {k : Nat} (hk : k < 4) : ab_ff f (4 - k) k = if f k = true then some k else ab_ff f (4 - (k + 1)) (k + 1) := by
  obtain ⟨n, hn⟩ : ∃ n, 4 - k = n + 1 := ⟨4 - k - 1, by omega⟩
  have e : 4 - (k + 1) = n := by omega
  rw [hn, e]
  rfl
/-- Sheet.firstReader -/
theorem ev_S67 {p : Nat} {x : Option Nat} {T : ab_T} {fo : Nat → Option ab_Ls} (A : ev_all w) (hE : ab_E m T fo) (hpT : p < T.1) (hx : ab_okx m x) (hQ : Q (.inl (some (.int (ab_oi (ab_ff (ab_rdr T fo p x) 4 0))))) m t) : ev_K w 67 [.ref 209, .ref 40, .int (Int32.ofNat p), .int (ab_oi x)] m t Q := by
  have hp : ev_prog[67]? = some ev_m67 := rfl
  have k1 := hE.2.1.1
  have i4 := ev_i4
  have loop := ev_lup (P := fun k => ∀ kk : Int32, kk = Int32.ofNat k → ab_ff (ab_rdr T fo p x) 4 0 = ab_ff (ab_rdr T fo p x) (4 - k) k → ev_J w ev_m67 (ev_nd 67) Q 3 [ev_vr 209, ev_vr 40, ev_vn p, ev_vi (ab_oi x), ev_vi kk] [] m t) 4 (by
    intro k hk ih kk ekk hff
    subst ekk
    have ek := ev_ofNat_i (n := k) (by omega)
    refine ev_gK A hp [3] 30 ?_
    refine And.intro (fun (h : (Int32.ofInt 4).toInt ≤ (Int32.ofNat k).toInt) => ?_) (fun (h : (Int32.ofNat k).toInt < (Int32.ofInt 4).toInt) => ?_)
    · have e4 : 4 - k = 0 := by omega
      rw [e4] at hff
      rw [hff] at hQ
      exact hQ
    · have hk4 : k < 4 := by omega
      rw [ab_ff_next hk4] at hff
      refine ev_S40 A hE.1 hE.2.1 ?_
      refine And.intro (fun h => ?_) (fun h => ?_)
      · have h1 := ab_bi_eq h
        refine ih hk4 _ (ev_succ (by omega)) (hff.trans (if_neg ?_))
        unfold ab_rdr
        rw [h1]
        exact Bool.false_ne_true
      · have h1 := ab_bi_neq h
        refine ev_S38 A (by omega) hk4 (hE.1.2.1 p hpT k hk4) (fun i hi => hE.2.1.2.1 p k i hi) ?_
        refine ev_S20 A (fun y hy => (ab_nat_ok hE hpT hk4 y hy).1) (fun y hy => (hx y hy).1) ?_
        have ea := ab_E_alk hE (ab_nat_ok hE hpT hk4) hx
        refine And.intro (fun h => ?_) (fun h => ?_)
        · have h2 := ab_bi_eq h
          refine ih hk4 _ (ev_succ (by omega)) (hff.trans (if_neg ?_))
          unfold ab_rdr
          rw [← ea, h1]
          exact fun z => Bool.false_ne_true (h2.symm.trans z)
        · have h2 := ab_bi_neq h
          rw [hff, if_pos] at hQ
          · exact hQ
          · unfold ab_rdr
            rw [← ea, h1]
            exact h2)
  refine ⟨Or.inl rfl, ev_m67, rfl, ev_gK A hp [3] 20 ?_⟩
  exact loop 0 (by omega) _ rfl rfl
def ab_cat (h : Nat → ab_Ls) : Nat → ab_Ls
  | 0 => []
  | k + 1 => ab_cat h k ++ h k
def ab_sg (T : ab_T) (fo : Nat → Option ab_Ls) (p : Nat) (x : Option Nat) (v : Nat) : ab_Ls := if ab_rdr T fo p x v = true then [Int32.ofNat (65 + v)] else []
def ab_grp (T : ab_T) (fo : Nat → Option ab_Ls) (p : Nat) (x : Option Nat) : ab_Ls := [32] ++ ab_rd fo x ++ [32] ++ ab_cat (ab_sg T fo p x) 4
theorem ab_cat_mono (h : Nat → ab_Ls) : ∀ (n k : Nat), (ab_cat h k).length ≤ (ab_cat h (k + n)).length
  | 0, _ => Nat.le_refl _
  | n + 1, k => by
    have h1 := ab_cat_mono h n k
    rw [← Nat.add_assoc, ab_cat, List.length_append]
    omega
/-- Sheet.putGroup -/
theorem ev_S68 {p : Nat} {x : Option Nat} {T : ab_T} {fo : Nat → Option ab_Ls} {o : ab_Ls} (A : ev_all w) (hE : ab_E m T fo) (hpT : p < T.1) (hx : ab_okx m x) (hO : ab_O m o) (hl : o.length + (ab_grp T fo p x).length ≤ 1920) (hQ : ∀ m', ab_frs m m' → ab_O m' (o ++ ab_grp T fo p x) → Q (.inl none) m' t) : ev_K w 68 [.ref 217, .ref 209, .ref 40, .int (Int32.ofNat p), .int (ab_oi x)] m t Q := by
  have hp : ev_prog[68]? = some ev_m68 := rfl
  have k1 := hE.2.1.1
  have i4 := ev_i4
  have hl2 : o.length + (1 + (ab_rd fo x).length + 1 + (ab_cat (ab_sg T fo p x) 4).length) ≤ 1920 := by
    unfold ab_grp at hl
    rw [List.length_append, List.length_append, List.length_append] at hl
    exact hl
  have loop := ev_lup (P := fun k => ∀ (kk : Int32) (mk : ev_Mem), kk = Int32.ofNat k → ab_frs m mk → ab_O mk (o ++ [32] ++ ab_rd fo x ++ [32] ++ ab_cat (ab_sg T fo p x) k) → ev_J w ev_m68 (ev_nd 68) Q 22 [ev_vr 217, ev_vr 209, ev_vr 40, ev_vn p, ev_vi (ab_oi x), ev_vi kk] [] mk t) 4 (by
    intro k hk ih kk mk ekk hf hOk
    subst ekk
    have ek := ev_ofNat_i (n := k) (by omega)
    have hEk := ab_E_frs hf hE
    refine ev_gK A hp [22, 53] 30 ?_
    refine And.intro (fun (h : (Int32.ofInt 4).toInt ≤ (Int32.ofNat k).toInt) => ?_) (fun (h : (Int32.ofNat k).toInt < (Int32.ofInt 4).toInt) => ?_)
    · have e4 : k = 4 := by omega
      rw [e4] at hOk
      refine hQ mk hf ?_
      unfold ab_grp
      rw [← List.append_assoc, ← List.append_assoc, ← List.append_assoc]
      exact hOk
    · have hk4 : k < 4 := by omega
      have hno : ab_rdr T fo p x k = false → ab_O mk (o ++ [32] ++ ab_rd fo x ++ [32] ++ ab_cat (ab_sg T fo p x) (k + 1)) := by
        intro hr
        have e : ab_cat (ab_sg T fo p x) (k + 1) = ab_cat (ab_sg T fo p x) k := by
          rw [ab_cat, ab_sg, hr]
          exact List.append_nil _
        rw [e]; exact hOk
      refine ev_S40 A hEk.1 hEk.2.1 ?_
      refine And.intro (fun h => ?_) (fun h => ?_)
      · have h1 := ab_bi_eq h
        refine ih hk4 _ _ (ev_succ (by omega)) hf (hno ?_)
        unfold ab_rdr
        rw [h1]; rfl
      · have h1 := ab_bi_neq h
        refine ev_S38 A (by omega) hk4 (hEk.1.2.1 p hpT k hk4) (fun i hi => hEk.2.1.2.1 p k i hi) ?_
        refine ev_S20 A (fun y hy => (ab_nat_ok hEk hpT hk4 y hy).1) (fun y hy => (hx y hy).1) ?_
        have ea := ab_E_alk hEk (ab_nat_ok hEk hpT hk4) (ab_okx_frs hf hx)
        refine And.intro (fun h => ?_) (fun h => ?_)
        · have h2 := ab_bi_eq h
          refine ih hk4 _ _ (ev_succ (by omega)) hf (hno ?_)
          unfold ab_rdr
          rw [← ea, h1]
          exact h2
        · have h2 := ab_bi_neq h
          show ev_J w ev_m68 (ev_nd 68) Q 53 [ev_vr 217, ev_vr 209, ev_vr 40, ev_vn p, ev_vi (ab_oi x), ev_vn k] [] mk t
          have hr : ab_rdr T fo p x k = true := by
            unfold ab_rdr
            rw [← ea, h1]
            exact h2
          have es : ab_sg T fo p x k = [Int32.ofNat (65 + k)] := if_pos hr
          have hmono := ab_cat_mono (ab_sg T fo p x) (4 - (k + 1)) (k + 1)
          rw [(by omega : k + 1 + (4 - (k + 1)) = 4), ab_cat, es, List.length_append, List.length_singleton] at hmono
          refine ev_gK A hp [] 4 ?_
          show ev_J w ev_m68 (ev_nd 68) Q 59 [ev_vr 217, ev_vr 209, ev_vr 40, ev_vn p, ev_vi (ab_oi x), ev_vn k] [.int (Int32.ofNat 65 + Int32.ofNat k), .ref 217] mk t
          rw [ev_addN (by omega)]
          refine ev_gK A hp [] 1 ?_
          show ev_J w ev_m68 (ev_nd 68) Q 60 [ev_vr 217, ev_vr 209, ev_vr 40, ev_vn p, ev_vi (ab_oi x), ev_vn k] [.int ((Int32.ofNat (65 + k)).toUInt32 % 65536).toInt32, .ref 217] mk t
          rw [ev_i2c0 (by omega)]
          refine ev_gK A hp [22] 10 ?_
          refine ev_S64 A hOk ?_ (ab_c16N (by omega)) (fun m' z1 z2 => ?_)
          · rw [List.length_append, List.length_append, List.length_append, List.length_append, List.length_singleton]; omega
          · refine ih hk4 _ _ (ev_succ (by omega)) (ab_frs_tr hf z1) ?_
            rw [ab_cat, es, ← List.append_assoc]
            exact z2)
  refine ⟨Or.inr ⟨217, _, rfl, rfl⟩, ev_m68, rfl, ev_gK A hp [22] 30 ?_⟩
  refine ev_S64 (c := 32) A hO (by omega) (by unfold ab_c16; decide) (fun m1 f1 O1 => ?_)
  refine ev_S65 A (ab_okx_frs f1 hx) (ab_E_frs f1 hE).2.2.1 (ab_E_frs f1 hE).2.2.2.2.1 O1 (by rw [List.length_append, List.length_singleton]; omega) (fun m2 f2 O2 => ?_)
  refine ev_S64 (c := 32) A O2 (by rw [List.length_append, List.length_append, List.length_singleton]; omega) (by unfold ab_c16; decide) (fun m3 f3 O3 => ?_)
  exact loop 0 (by omega) _ _ rfl (ab_frs_tr f1 (ab_frs_tr f2 f3)) (by rw [ab_cat, List.append_nil]; exact O3)
/-- Sheet.needsEntry -/
def ab_need (T : ab_T) (fo : Nat → Option ab_Ls) (p : Nat) : Bool := (ab_ff (fun v => ab_isJ T.2.2.2.1 (Int32.ofNat v) && !(ab_alk fo (ab_nat T p v) (ab_lem T p))) 4 0).isSome
theorem ev_S61 {p : Nat} {T : ab_T} {fo : Nat → Option ab_Ls} (A : ev_all w) (hE : ab_E m T fo) (hpT : p < T.1) (hQ : Q (.inl (some (.int (ab_bi (ab_need T fo p))))) m t) : ev_K w 61 [.ref 209, .ref 40, .int (Int32.ofNat p)] m t Q := by
  have hp : ev_prog[61]? = some ev_m61 := rfl
  have k1 := hE.2.1.1
  have i4 := ev_i4
  have hlem := ab_lem_ok hE hpT
  have loop := ev_lup (P := fun k => ∀ kk : Int32, kk = Int32.ofNat k → ab_need T fo p = (ab_ff (fun v => ab_isJ T.2.2.2.1 (Int32.ofNat v) && !(ab_alk fo (ab_nat T p v) (ab_lem T p))) (4 - k) k).isSome → ev_J w ev_m61 (ev_nd 61) Q 9 [ev_vr 209, ev_vr 40, ev_vn p, ev_vi (ab_oi (ab_lem T p)), ev_vi kk] [] m t) 4 (by
    intro k hk ih kk ekk hff
    subst ekk
    have ek := ev_ofNat_i (n := k) (by omega)
    refine ev_gK A hp [9] 30 ?_
    refine And.intro (fun (h : (Int32.ofInt 4).toInt ≤ (Int32.ofNat k).toInt) => ?_) (fun (h : (Int32.ofNat k).toInt < (Int32.ofInt 4).toInt) => ?_)
    · have e4 : 4 - k = 0 := by omega
      rw [e4] at hff
      rw [hff] at hQ
      exact ⟨rfl, hQ⟩
    · have hk4 : k < 4 := by omega
      rw [ab_ff_next hk4] at hff
      refine ev_S40 A hE.1 hE.2.1 ?_
      refine And.intro (fun h => ?_) (fun h => ?_)
      · have h1 := ab_bi_eq h
        refine ih hk4 _ (ev_succ (by omega)) (hff.trans ?_)
        rw [if_neg (by rw [h1]; exact Bool.false_ne_true)]
      · have h1 := ab_bi_neq h
        refine ev_S38 A (by omega) hk4 (hE.1.2.1 p hpT k hk4) (fun i hi => hE.2.1.2.1 p k i hi) ?_
        refine ev_S20 A (fun y hy => (ab_nat_ok hE hpT hk4 y hy).1) (fun y hy => (hlem y hy).1) ?_
        have ea := ab_E_alk hE (ab_nat_ok hE hpT hk4) hlem
        refine And.intro (fun h => ?_) (fun h => ?_)
        · have h2 := ab_bi_ne h
          refine ih hk4 _ (ev_succ (by omega)) (hff.trans ?_)
          have h3 : ab_alk fo (ab_nat T p k) (ab_lem T p) = true := ea.symm.trans h2
          rw [if_neg (by rw [h1, h3]; exact Bool.false_ne_true)]
        · have h2 := ab_bi_nne h
          have h3 : ab_alk fo (ab_nat T p k) (ab_lem T p) = false := ea.symm.trans h2
          rw [if_pos (by rw [h1, h3]; rfl)] at hff
          rw [hff] at hQ
          exact ⟨rfl, hQ⟩)
  refine ⟨Or.inl rfl, ev_m61, rfl, ev_gK A hp [9] 20 ?_⟩
  refine ev_S37 A hE.1 hE.2.1 hpT ?_
  exact loop 0 (by omega) _ rfl rfl
end EvWrite
