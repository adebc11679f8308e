/-! the model: the apparatus -/
section EvMwrite
variable {w : ev_W} {Q : ev_QT} {m : ev_Mem} {t : ev_H} {z : ab_Z}
def ab_RE (m : ev_Mem) (z : ab_Z) : Prop := ab_MT m (zT z) ∧ ab_ML m (zW z) ∧ ab_MF m (zt z) (zf z) 40
def ab_fro (m m' : ev_Mem) : Prop := ∀ c i, ¬ (c = 277 ∧ i = 28) → c ≠ 298 → m' c i = m c i
theorem ab_fro_rfl {m : ev_Mem} : ab_fro m m := fun _ _ _ _ => rfl
theorem ab_fro_tr {a b c : ev_Mem} (h1 : ab_fro a b) (h2 : ab_fro b c) : ab_fro a c := fun k i z1 z2 => (h2 k i z1 z2).trans (h1 k i z1 z2)
theorem ab_RE_cg {m m' : ev_Mem} (h : ∀ c i, ab_gT c i ∨ ab_gW c i → m' c i = m c i) (hE : ab_RE m z) : ab_RE m' z := by
  obtain ⟨a, b, c⟩ := hE
  exact ⟨ab_MT_cg (fun k i hc => h k i (Or.inl hc)) a, fun x hx ht => ⟨by rw [h _ _ (Or.inr (by unfold ab_gW; omega))]; exact (b x hx ht).1, fun k hk => by rw [h _ _ (Or.inr (by unfold ab_gW; omega))]; exact (b x hx ht).2 k hk⟩, fun x hx ht => ⟨⟨by rw [h _ _ (Or.inr (by unfold ab_gW; omega))]; exact (c x hx ht).1.1, (c x hx ht).1.2⟩, fun k hk => by rw [h _ _ (Or.inr (by unfold ab_gW; omega))]; exact (c x hx ht).2 k hk⟩⟩
theorem ab_RE_fro {m m' : ev_Mem} (h : ab_fro m m') (hE : ab_RE m z) : ab_RE m' z := ab_RE_cg (fun c i hc => h c i (by unfold ab_gT ab_gW at hc; omega) (by unfold ab_gT ab_gW at hc; omega)) hE
def ab_okz (z : ab_Z) (x : Option Nat) : Prop := ∀ y, x = some y → y < 40 ∧ zt z y = true
theorem ab_nat_okz (hok : ab_ok z) {p v : Nat} (hv : v < 4) : ab_okz z (ab_nat (zT z) p v) := fun y hy => ⟨(ab_nat_lt hok hv hy).1, (ab_nat_lt hok hv hy).2.1⟩
theorem ab_lem_okz (hok : ab_ok z) {p : Nat} : ab_okz z (ab_lem (zT z) p) := by
  intro y hy
  have key : ∀ r : Option Nat, (∀ v, r = some v → v < 4) → (match r with | none => none | some v => ab_num v ((zT z).2.1 p v)) = some y → y < 40 ∧ zt z y = true := by
    intro r hr h
    cases r with
    | none => cases h
    | some v => exact ab_nat_okz hok (hr v rfl) y h
  have hk := hok.2.2.2.2.1.1
  unfold ab_lem at hy
  cases hch : (zT z).2.2.1 p with
  | none => rw [hch] at hy; exact key _ (fun v hv => hk.2.2.2.2.2 v hv) hy
  | some v => rw [hch] at hy; exact key (some v) (fun u hu => by cases hu; exact hk.2.2.1 p v hch) hy
theorem ab_rd_okz (hok : ab_ok z) {x : Option Nat} (hx : ab_okz z x) : (ab_rd (zf z) x).length ≤ 12 :=
  ab_rd_len (fun y hy => ab_fo_len hok.2.1.2 hok.2.2.1 (hx y hy).1 (hx y hy).2)
theorem ab_zwr2 (hok : ab_ok z) (neg : Bool) : (ab_wr (zT z) (zf z) neg (zT z).1).length ≤ 1920 := by
  have k1 := hok.2.2.2.2.1.1.1
  have h := ab_wr_len (T := zT z) (fo := zf z) neg (fun p hp => ab_ent_80 neg (by omega) (ab_rd_okz hok (ab_lem_okz hok)) (fun v hv => ab_rd_okz hok (ab_nat_okz hok hv))) (zT z).1 (Nat.le_refl _)
  omega
/-- lemma -/
theorem ev_S177 {p : Nat} (A : ev_all w) (hT : ab_MT m (zT z)) (hok : ab_ok z) (hpT : p < (zT z).1) (hQ : Q (.inl (some (.int (ab_oi (ab_lem (zT z) p))))) m t) : ev_K w 177 [.ref 277, .int (Int32.ofNat p)] m t Q := by
  have hp : ev_prog[177]? = some ev_m177 := rfl
  obtain ⟨t1, t2, t3, t4, t6⟩ := hT
  obtain ⟨k1, k2, k3, -, -, k6⟩ := hok.2.2.2.2.1.1
  have np : (Int32.ofNat p).toNatClampNeg = p := ev_on (by omega)
  have hc : m 294 (Int32.ofNat p).toNatClampNeg = ab_oi ((zT z).2.2.1 p) := by rw [np]; exact t3 p hpT
  have hcn := ab_oi_neg (o := (zT z).2.2.1 p) (fun x hx => by have := k3 p x hx; omega)
  have h22 : ∀ r : Option Nat, (∀ v, r = some v → v < 4) → (match r with | none => none | some v => ab_num v ((zT z).2.1 p v)) = ab_lem (zT z) p → ev_J w ev_m177 (ev_nd 177) Q 22 [ev_vr 277, ev_vn p, none] [.int (ab_oi r)] m t := by
    intro r hr hl
    cases r with
    | none =>
      refine ev_gK A hp [] 20 ?_
      refine And.intro (fun (h : 0 ≤ (-1 : Int32).toInt) => absurd h (by decide)) (fun _ => ?_)
      dsimp only at hl
      rw [← hl] at hQ
      exact hQ
    | some v =>
      have hv4 := hr v rfl
      have evi := ev_ofNat_i (n := v) (by omega)
      have ei : Int32.ofInt 4 * Int32.ofNat p + Int32.ofNat v = Int32.ofNat (4 * p + v) := ev_lin (c := 4) (by omega) (by omega) (by omega)
      refine ev_gK A hp [31] 10 ?_
      refine And.intro (fun _ => ?_) (fun (h : (Int32.ofNat v).toInt < 0) => by omega)
      refine ev_gK A hp [] 10 ?_
      refine And.intro (ev_iin ei (by omega) (by decide)) ?_
      show Q (.inl (some (.int (m 293 (Int32.ofInt 4 * Int32.ofNat p + Int32.ofNat v).toNatClampNeg)))) m t
      rw [ev_at ei (by omega), t2 p hpT v hv4]
      dsimp only at hl
      rw [← hl] at hQ
      exact hQ
  refine ⟨Or.inr ⟨277, _, rfl, rfl⟩, ev_m177, rfl, ev_gK A hp [22] 20 ?_⟩
  refine And.intro (ev_oin (by omega) (by decide)) ?_
  refine And.intro (fun (h : 0 ≤ (m 294 (Int32.ofNat p).toNatClampNeg).toInt) => ?_) (fun (h : (m 294 (Int32.ofNat p).toNatClampNeg).toInt < 0) => ?_)
  · rw [hc] at h
    refine And.intro (ev_oin (by omega) (by decide)) ?_
    show ev_J w ev_m177 (ev_nd 177) Q 22 [ev_vr 277, ev_vn p, none] [.int (m 294 (Int32.ofNat p).toNatClampNeg)] m t
    rw [hc]
    refine h22 _ (fun v hv => k3 p v hv) ?_
    unfold ab_lem
    cases hch : (zT z).2.2.1 p with
    | none => rw [hch] at h; exact absurd h (by decide)
    | some v => rfl
  · rw [hc] at h
    have h3 := hcn.mp h
    show ev_J w ev_m177 (ev_nd 177) Q 22 [ev_vr 277, ev_vn p, none] [.int (m 277 21)] m t
    rw [t6]
    refine h22 _ (fun v hv => k6 v hv) ?_
    unfold ab_lem
    rw [h3]
    rfl
/-- readsAlike -/
theorem ev_S178 {x y : Option Nat} (A : ev_all w) (hE : ab_RE m z) (hok : ab_ok z) (hx : ab_okz z x) (hy : ab_okz z y) (hQ : Q (.inl (some (.int (ab_bi (ab_alk (zf z) x y))))) m t) : ev_K w 178 [.ref 277, .int (ab_oi x), .int (ab_oi y)] m t Q := by
  have hp : ev_prog[178]? = some ev_m178 := rfl
  refine ⟨Or.inr ⟨277, _, rfl, rfl⟩, ev_m178, rfl, ev_gK A hp [8, 24] 10 ?_⟩
  cases x with
  | none =>
    refine And.intro (fun _ => ?_) (fun (h : 0 ≤ (-1 : Int32).toInt) => absurd h (by decide))
    refine ev_gK A hp [] 10 ?_
    refine And.intro (fun (h : 0 ≤ (-1 : Int32).toInt) => absurd h (by decide)) (fun _ => ?_)
    cases y with
    | none => exact And.intro (fun (h : 0 ≤ (-1 : Int32).toInt) => absurd h (by decide)) (fun _ => ⟨rfl, hQ⟩)
    | some b =>
      have eb := ev_ofNat_i (n := b) (by have := (hy b rfl).1; omega)
      exact And.intro (fun _ => ⟨rfl, hQ⟩) (fun (h : (Int32.ofNat b).toInt < 0) => by omega)
  | some a =>
    obtain ⟨ha, hat⟩ := hx a rfl
    have ea := ev_ofNat_i (n := a) (by omega)
    refine And.intro (fun (h : (Int32.ofNat a).toInt < 0) => by omega) (fun _ => ?_)
    cases y with
    | none =>
      refine And.intro (fun (h : 0 ≤ (-1 : Int32).toInt) => absurd h (by decide)) (fun _ => ?_)
      refine ev_gK A hp [] 10 ?_
      exact And.intro (fun _ => ⟨rfl, hQ⟩) (fun (h : (Int32.ofNat a).toInt < 0) => by omega)
    | some b =>
      obtain ⟨hb, hbt⟩ := hy b rfl
      have eb := ev_ofNat_i (n := b) (by omega)
      refine And.intro (fun _ => ?_) (fun (h : (Int32.ofNat b).toInt < 0) => by omega)
      refine ev_gK A hp [] 10 ?_
      refine ev_S148 (R := zR z) A hE.2.1 hok.2.2.1 hE.2.2 ha hb hat hbt ?_
      refine ⟨?_, hQ⟩
      cases decide (ab_fo (zR z) (zW z) a = ab_fo (zR z) (zW z) b) <;> rfl
/-- say -/
theorem ev_S180 {c : Int32} {o : ab_Ls} (A : ev_all w) (hO : ab_MO m o) (hl : o.length < 2400) (hQ : ∀ m', ab_fro m m' → ab_MO m' (o ++ [c]) → Q (.inl none) m' t) : ev_K w 180 [.ref 277, .int c] m t Q := by
  have hp : ev_prog[180]? = some ev_m180 := rfl
  refine ⟨Or.inr ⟨277, _, rfl, rfl⟩, ev_m180, rfl, ev_gK A hp [] 30 ?_⟩
  refine And.intro (ev_iin hO.1 hl (by decide)) ?_
  refine hQ _ (fun k i z1 z2 => ?_) ⟨?_, fun k hk => ?_⟩
  · rw [show ev_up (ev_up m 298 (m 277 28).toNatClampNeg c) 277 28 _ k i = ev_up m 298 (m 277 28).toNatClampNeg c k i from if_neg z1, ev_up_cell _ z2]
  · rw [ev_up_same, ev_up_cell _ (by decide), hO.1, List.length_append, List.length_singleton]
    exact ev_succ (by omega)
  · rw [ev_up_cell _ (by decide), ev_at hO.1 (by omega)]
    rw [List.length_append, List.length_singleton] at hk
    by_cases hkl : k = o.length
    · rw [hkl, ev_up_same, List.getD_eq_getElem?_getD, List.getElem?_append_right (Nat.le_refl _), Nat.sub_self]; rfl
    · rw [ev_up_idx _ _ hkl, ab_getD_app1 (by omega)]; exact hO.2 k (by omega)
/-- sayReading -/
theorem ev_S181 {x : Option Nat} {o : ab_Ls} (A : ev_all w) (hE : ab_RE m z) (hok : ab_ok z) (hx : ab_okz z x) (hO : ab_MO m o) (hl : o.length + (ab_rd (zf z) x).length ≤ 2400) (hQ : ∀ m', ab_fro m m' → ab_MO m' (o ++ ab_rd (zf z) x) → Q (.inl none) m' t) : ev_K w 181 [.ref 277, .int (ab_oi x)] m t Q := by
  have hp : ev_prog[181]? = some ev_m181 := rfl
  refine ⟨Or.inr ⟨277, _, rfl, rfl⟩, ev_m181, rfl, ev_gK A hp [13] 20 ?_⟩
  cases x with
  | none =>
    refine And.intro (fun (h : 0 ≤ (-1 : Int32).toInt) => absurd h (by decide)) (fun _ => ?_)
    have hl1 : o.length + 1 ≤ 2400 := hl
    exact ev_S180 (c := 45) A hO (by omega) hQ
  | some y =>
    obtain ⟨hy, hyt⟩ := hx y rfl
    have ey := ev_ofNat_i (n := y) (by omega)
    obtain ⟨⟨f1, f2⟩, f3⟩ := hE.2.2 y hy hyt
    have hrd : ab_rd (zf z) (some y) = ab_rdf (zf z y) := rfl
    rw [hrd] at hl hQ
    refine And.intro (fun _ => ?_) (fun (h : (Int32.ofNat y).toInt < 0) => by omega)
    show ev_J w ev_m181 (ev_nd 181) Q 13 [ev_vr 277, ev_vn y, none] [] m t
    refine ev_gK A hp [30] 20 ?_
    refine ev_S149 (R := zR z) A hE.2.1 hok.2.2.1 hy hyt ?_
    refine And.intro (fun h => ?_) (fun h => ?_)
    · have hn : ¬ zf z y = none := of_decide_eq_false (ab_bi_eq h)
      show ev_J w ev_m181 (ev_nd 181) Q 30 [ev_vr 277, ev_vn y, none] [] m t
      cases hfy : zf z y with
      | none => exact absurd hfy hn
      | some l =>
        rw [hfy] at hl hQ f1 f2 f3
        have f1' : m 283 (Int32.ofNat y).toNatClampNeg = Int32.ofNat l.length := by rw [ev_on (by omega)]; exact f1
        have hl12 : l.length ≤ 12 := f2
        have e1 := ev_toI f1' (by omega)
        refine ev_gK A hp [50] 20 ?_
        refine And.intro (ev_oin hy (by decide)) ?_
        refine And.intro (fun (h2 : ¬ (m 283 (Int32.ofNat y).toNatClampNeg).toInt = 0) => ?_) (fun (h2 : (m 283 (Int32.ofNat y).toNatClampNeg).toInt = 0) => ?_)
        · have e0 : ab_rdf (some l) = l := by
            cases l with
            | nil => exact absurd e1 h2
            | cons c l => rfl
          rw [e0] at hl hQ
          have loop := ev_lup (P := fun k => ∀ (kk : Int32) (mk : ev_Mem), kk = Int32.ofNat k → ab_fro m mk → ab_MO mk (o ++ l.take k) → ev_J w ev_m181 (ev_nd 181) Q 50 [ev_vr 277, ev_vn y, ev_vi kk] [] mk t) l.length (by
            intro k hk ih kk mk ekk fk hOk
            subst ekk
            have ek := ev_ofNat_i (n := k) (by omega)
            have ek1 : (mk 283 (Int32.ofNat y).toNatClampNeg).toInt = (l.length : Int) := by rw [fk _ _ (by omega) (by decide)]; exact e1
            have ei : (Int8.ofInt 12).toInt32 * Int32.ofNat y + Int32.ofNat k = Int32.ofNat (12 * y + k) := ev_lin (c := 12) (by omega) (by omega) (by omega)
            refine ev_gK A hp [50] 30 ?_
            refine And.intro (ev_oin hy (by decide)) ?_
            refine And.intro (fun (h3 : (mk 283 (Int32.ofNat y).toNatClampNeg).toInt ≤ (Int32.ofNat k).toInt) => ?_) (fun (h3 : (Int32.ofNat k).toInt < (mk 283 (Int32.ofNat y).toNatClampNeg).toInt) => ?_)
            · rw [List.take_of_length_le (by omega)] at hOk
              exact hQ mk fk hOk
            · have hkl : k < l.length := by omega
              refine And.intro (ev_iin ei (by omega) (by decide)) ?_
              refine ev_S180 A hOk (by rw [List.length_append, List.length_take]; omega) (fun m' z1 z2 => ?_)
              refine ih hkl _ m' (ev_succ (by omega)) (ab_fro_tr fk z1) ?_
              rw [ab_take_succ (d := 0) hkl, ← List.append_assoc]
              rw [ev_at ei (by omega), fk _ _ (by omega) (by decide), f3 k hkl] at z2
              exact z2)
          exact loop 0 (by omega) _ m rfl ab_fro_rfl (by rw [List.take_zero, List.append_nil]; exact hO)
        · have e2 : l = [] := List.eq_nil_of_length_eq_zero (by omega)
          rw [e2] at hl hQ
          have hl1 : o.length + 1 ≤ 2400 := hl
          exact ev_S180 (c := 46) A hO (by omega) hQ
    · have hn : zf z y = none := of_decide_eq_true (ab_bi_neq h)
      rw [hn] at hl hQ
      have hl1 : o.length + 1 ≤ 2400 := hl
      exact ev_S180 (c := 63) A hO (by omega) hQ
def ab_anyb (f : Nat → Bool) : Nat → Bool
  | 0 => false
  | k + 1 => ab_anyb f k || f k
/-- isReadBelow -/
theorem ev_S182 {p n : Nat} {x : Option Nat} (A : ev_all w) (hE : ab_RE m z) (hok : ab_ok z) (hpT : p < (zT z).1) (hx : ab_okz z x) (hn : n ≤ 4) (hQ : Q (.inl (some (.int (ab_bi (ab_anyb (ab_rdr (zT z) (zf z) p x) n))))) m t) : ev_K w 182 [.ref 277, .int (Int32.ofNat p), .int (ab_oi x), .int (Int32.ofNat n)] m t Q := by
  have hp : ev_prog[182]? = some ev_m182 := rfl
  have k1 := hok.2.2.2.2.1.1.1
  have en := ev_ofNat_i (n := n) (by omega)
  have loop := ev_lup (P := fun k => ∀ (kk bb : Int32), kk = Int32.ofNat k → bb = ab_bi (ab_anyb (ab_rdr (zT z) (zf z) p x) k) → ev_J w ev_m182 (ev_nd 182) Q 6 [ev_vr 277, ev_vn p, ev_vi (ab_oi x), ev_vn n, ev_vi bb, ev_vi kk] [] m t) n (by
    intro k hk ih kk bb ekk ebb
    subst ekk ebb
    have ek := ev_ofNat_i (n := k) (by omega)
    refine ev_gK A hp [17, 50] 10 ?_
    refine And.intro (fun (h : (Int32.ofNat n).toInt ≤ (Int32.ofNat k).toInt) => ?_) (fun (h : (Int32.ofNat k).toInt < (Int32.ofNat n).toInt) => ?_)
    · have e : k = n := by omega
      subst e
      refine ⟨?_, hQ⟩
      cases ab_anyb (ab_rdr (zT z) (zf z) p x) k <;> rfl
    have hkn : k < n := by omega
    have h50 : ∀ b : Bool, b = ab_anyb (ab_rdr (zT z) (zf z) p x) (k + 1) → ev_J w ev_m182 (ev_nd 182) Q 50 [ev_vr 277, ev_vn p, ev_vi (ab_oi x), ev_vn n, ev_vi (ab_bi (ab_anyb (ab_rdr (zT z) (zf z) p x) k)), ev_vn k] [.int (ab_bi b)] m t := by
      intro b hb
      refine ev_gK A hp [6] 10 ?_
      exact ih hkn _ _ (ev_succ (by omega)) (by rw [hb])
    refine And.intro (fun h2 => h50 true (by rw [ab_anyb, ab_bi_ne h2]; rfl)) (fun h2 => ?_)
    have h3 := ab_bi_nne h2
    have ei : Int32.ofInt 4 * Int32.ofNat p + Int32.ofNat k = Int32.ofNat (4 * p + k) := ev_lin (c := 4) (by omega) (by omega) (by omega)
    refine ev_gK A hp [26, 50] 10 ?_
    refine ev_S141 A hE.1.2.2.2.1 hok.2.2.2.2.1.1.2.2.2.1 ?_
    refine And.intro (fun h4 => h50 false (by rw [ab_anyb, h3, ab_rdr, ab_bi_eq h4]; rfl)) (fun h4 => ?_)
    have h5 := ab_bi_neq h4
    refine ev_gK A hp [] 9 ?_
    refine And.intro (ev_iin ei (by omega) (by decide)) ?_
    show ev_J w ev_m182 (ev_nd 182) Q 38 [ev_vr 277, ev_vn p, ev_vi (ab_oi x), ev_vn n, ev_vi (ab_bi (ab_anyb (ab_rdr (zT z) (zf z) p x) k)), ev_vn k] [.int (m 293 (Int32.ofInt 4 * Int32.ofNat p + Int32.ofNat k).toNatClampNeg), .ref 277] m t
    rw [ev_at ei (by omega), hE.1.2.1 p hpT k (by omega)]
    refine ev_gK A hp [50] 10 ?_
    refine ev_S178 A hE hok (ab_nat_okz hok (by omega)) hx ?_
    refine And.intro (fun h6 => h50 false (by rw [ab_anyb, h3, ab_rdr, h5, ab_bi_eq h6]; rfl)) (fun h6 => h50 true (by rw [ab_anyb, ab_rdr, h5, ab_bi_neq h6]; simp)))
  refine ⟨Or.inr ⟨277, _, rfl, rfl⟩, ev_m182, rfl, ev_gK A hp [6] 10 ?_⟩
  exact loop 0 (by omega) _ _ rfl rfl
/-- sayGroup -/
theorem ev_S183 {p : Nat} {x : Option Nat} {o : ab_Ls} {first : Bool} (A : ev_all w) (hE : ab_RE m z) (hok : ab_ok z) (hpT : p < (zT z).1) (hx : ab_okz z x) (hO : ab_MO m o) (hl : o.length + (if first = true then ([] : ab_Ls) else [59]).length + (ab_grp (zT z) (zf z) p x).length ≤ 2400) (hQ : ∀ m', ab_fro m m' → ab_MO m' (o ++ (if first = true then [] else [59]) ++ ab_grp (zT z) (zf z) p x) → Q (.inl none) m' t) : ev_K w 183 [.ref 277, .int (Int32.ofNat p), .int (ab_oi x), .int (ab_bi first)] m t Q := by
  have hp : ev_prog[183]? = some ev_m183 := rfl
  have k1 := hok.2.2.2.2.1.1.1
  have i4 := ev_i4
  have hl2 : o.length + (if first = true then ([] : ab_Ls) else [59]).length + (1 + (ab_rd (zf z) x).length + 1 + (ab_cat (ab_sg (zT z) (zf z) p x) 4).length) ≤ 2400 := by
    unfold ab_grp at hl
    rw [List.length_append, List.length_append, List.length_append] at hl
    exact hl
  have h10 : ∀ (mk : ev_Mem) (o1 : ab_Ls), ab_fro m mk → ab_MO mk o1 → o1.length + (1 + (ab_rd (zf z) x).length + 1 + (ab_cat (ab_sg (zT z) (zf z) p x) 4).length) ≤ 2400 → (∀ m', ab_fro m m' → ab_MO m' (o1 ++ ab_grp (zT z) (zf z) p x) → Q (.inl none) m' t) → ev_J w ev_m183 (ev_nd 183) Q 10 [ev_vr 277, ev_vn p, ev_vi (ab_oi x), ev_vi (ab_bi first), none] [] mk t := by
    intro mk o1 fk hO1 hl1 hQ1
    have loop := ev_lup (P := fun k => ∀ (kk : Int32) (mk : ev_Mem), kk = Int32.ofNat k → ab_fro m mk → ab_MO mk (o1 ++ [32] ++ ab_rd (zf z) x ++ [32] ++ ab_cat (ab_sg (zT z) (zf z) p x) k) → ev_J w ev_m183 (ev_nd 183) Q 30 [ev_vr 277, ev_vn p, ev_vi (ab_oi x), ev_vi (ab_bi first), ev_vi kk] [] mk t) 4 (by
      intro k hk ih kk mk ekk hf hOk
      subst ekk
      have ek := ev_ofNat_i (n := k) (by omega)
      have hEk := ab_RE_fro hf hE
      refine ev_gK A hp [36, 79] 10 ?_
      refine And.intro (fun (h : (Int32.ofInt 4).toInt ≤ (Int32.ofNat k).toInt) => ?_) (fun (h : (Int32.ofNat k).toInt < (Int32.ofInt 4).toInt) => ?_)
      · have e4 : k = 4 := by omega
        rw [e4] at hOk
        refine ev_gK A hp [] 10 (hQ1 mk hf ?_)
        unfold ab_grp
        rw [← List.append_assoc, ← List.append_assoc, ← List.append_assoc]
        exact hOk
      · have hk4 : k < 4 := by omega
        have hno : ab_rdr (zT z) (zf z) p x k = false → ab_MO mk (o1 ++ [32] ++ ab_rd (zf z) x ++ [32] ++ ab_cat (ab_sg (zT z) (zf z) p x) (k + 1)) := by
          intro hr
          have e : ab_cat (ab_sg (zT z) (zf z) p x) (k + 1) = ab_cat (ab_sg (zT z) (zf z) p x) k := by
            rw [ab_cat, ab_sg, hr]
            exact List.append_nil _
          rw [e]; exact hOk
        have h73 : ab_rdr (zT z) (zf z) p x k = false → ev_J w ev_m183 (ev_nd 183) Q 73 [ev_vr 277, ev_vn p, ev_vi (ab_oi x), ev_vi (ab_bi first), ev_vn k] [] mk t := by
          intro hr
          refine ev_gK A hp [30] 10 ?_
          exact ih hk4 _ _ (ev_succ (by omega)) hf (hno hr)
        have ei : Int32.ofInt 4 * Int32.ofNat p + Int32.ofNat k = Int32.ofNat (4 * p + k) := ev_lin (c := 4) (by omega) (by omega) (by omega)
        refine ev_gK A hp [45, 73] 10 ?_
        refine ev_S141 A hEk.1.2.2.2.1 hok.2.2.2.2.1.1.2.2.2.1 ?_
        refine And.intro (fun h4 => h73 (by rw [ab_rdr, ab_bi_eq h4]; rfl)) (fun h4 => ?_)
        have h5 := ab_bi_neq h4
        refine ev_gK A hp [] 9 ?_
        refine And.intro (ev_iin ei (by omega) (by decide)) ?_
        show ev_J w ev_m183 (ev_nd 183) Q 57 [ev_vr 277, ev_vn p, ev_vi (ab_oi x), ev_vi (ab_bi first), ev_vn k] [.int (mk 293 (Int32.ofInt 4 * Int32.ofNat p + Int32.ofNat k).toNatClampNeg), .ref 277] mk t
        rw [ev_at ei (by omega), hEk.1.2.1 p hpT k hk4]
        refine ev_gK A hp [64, 73] 10 ?_
        refine ev_S178 A hEk hok (ab_nat_okz hok hk4) hx ?_
        refine And.intro (fun h6 => h73 (by rw [ab_rdr, h5, ab_bi_eq h6]; rfl)) (fun h6 => ?_)
        have hr : ab_rdr (zT z) (zf z) p x k = true := by rw [ab_rdr, h5, ab_bi_neq h6]; rfl
        have es : ab_sg (zT z) (zf z) p x k = [Int32.ofNat (65 + k)] := if_pos hr
        have hmono := ab_cat_mono (ab_sg (zT z) (zf z) p x) (4 - (k + 1)) (k + 1)
        rw [(by omega : k + 1 + (4 - (k + 1)) = 4), ab_cat, es, List.length_append, List.length_singleton] at hmono
        refine ev_gK A hp [] 4 ?_
        show ev_J w ev_m183 (ev_nd 183) Q 70 [ev_vr 277, ev_vn p, ev_vi (ab_oi x), ev_vi (ab_bi first), ev_vn k] [.int (Int32.ofNat 65 + Int32.ofNat k), .ref 277] mk t
        rw [ev_addN (by omega)]
        refine ev_gK A hp [30] 10 ?_
        refine ev_S180 A hOk ?_ (fun m' z1 z2 => ?_)
        · rw [List.length_append, List.length_append, List.length_append, List.length_append, List.length_singleton]; omega
        · refine ih hk4 _ _ (ev_succ (by omega)) (ab_fro_tr hf z1) ?_
          rw [ab_cat, es, ← List.append_assoc]
          exact z2)
    refine ev_gK A hp [30] 20 ?_
    refine ev_S180 (c := 32) A hO1 (by omega) (fun m1 f1 O1 => ?_)
    refine ev_S181 A (ab_RE_fro (ab_fro_tr fk f1) hE) hok hx O1 (by rw [List.length_append, List.length_singleton]; omega) (fun m2 f2 O2 => ?_)
    refine ev_S180 (c := 32) A O2 (by rw [List.length_append, List.length_append, List.length_singleton]; omega) (fun m3 f3 O3 => ?_)
    exact loop 0 (by omega) _ _ rfl (ab_fro_tr fk (ab_fro_tr f1 (ab_fro_tr f2 f3))) (by rw [ab_cat, List.append_nil]; exact O3)
  refine ⟨Or.inr ⟨277, _, rfl, rfl⟩, ev_m183, rfl, ev_gK A hp [10] 10 ?_⟩
  refine And.intro (fun h => ?_) (fun h => ?_)
  · have hb := ab_bi_ne h
    rw [if_pos hb] at hQ hl2
    rw [List.append_nil] at hQ
    exact h10 m o ab_fro_rfl hO (by rw [List.length_nil] at hl2; omega) hQ
  · have hb := ab_bi_nne h
    rw [if_neg (by rw [hb]; exact Bool.false_ne_true)] at hQ hl2
    rw [List.length_singleton] at hl2
    refine ev_S180 (c := 59) A hO (by omega) (fun m1 f1 O1 => ?_)
    exact h10 m1 _ f1 O1 (by rw [List.length_append, List.length_singleton]; omega) hQ
theorem ab_ff4 (f : Nat → Bool) : ab_ff f 4 0 = if f 0 = true then some 0 else if f 1 = true then some 1 else if f 2 = true then some 2 else if f 3 = true then some 3 else none := rfl
theorem ab_ff_some (f : Nat → Bool) : (ab_ff f 4 0).isSome = ab_anyb f 4 := by
  have e : ab_anyb f 4 = ((((false || f 0) || f 1) || f 2) || f 3) := rfl
  rw [e, ab_ff4]
  cases f 0 <;> cases f 1 <;> cases f 2 <;> cases f 3 <;> rfl
theorem ab_ff_eq (f : Nat → Bool) {k : Nat} (hk : k < 4) : decide (ab_ff f 4 0 = some k) = (f k && !(ab_anyb f k)) := by
  rw [ab_ff4]
  match k, hk with
  | 0, _ =>
    have e : ab_anyb f 0 = false := rfl
    rw [e]
    cases f 0 <;> cases f 1 <;> cases f 2 <;> cases f 3 <;> rfl
  | 1, _ =>
    have e : ab_anyb f 1 = (false || f 0) := rfl
    rw [e]
    cases f 0 <;> cases f 1 <;> cases f 2 <;> cases f 3 <;> rfl
  | 2, _ =>
    have e : ab_anyb f 2 = ((false || f 0) || f 1) := rfl
    rw [e]
    cases f 0 <;> cases f 1 <;> cases f 2 <;> cases f 3 <;> rfl
  | 3, _ =>
    have e : ab_anyb f 3 = (((false || f 0) || f 1) || f 2) := rfl
    rw [e]
    cases f 0 <;> cases f 1 <;> cases f 2 <;> cases f 3 <;> rfl
/-- sayEntry -/
theorem ev_S179 {p : Nat} {neg : Bool} {o : ab_Ls} (A : ev_all w) (hE : ab_RE m z) (hok : ab_ok z) (hpT : p < (zT z).1) (hO : ab_MO m o) (hl : o.length + (ab_ent (zT z) (zf z) p neg).length ≤ 2400) (hQ : ∀ m', ab_fro m m' → ab_MO m' (o ++ ab_ent (zT z) (zf z) p neg) → Q (.inl none) m' t) : ev_K w 179 [.ref 277, .int (Int32.ofNat p), .int (ab_bi neg)] m t Q := by
  have hp : ev_prog[179]? = some ev_m179 := rfl
  have k1 := hok.2.2.2.2.1.1.1
  have i4 := ev_i4
  have i9 : ((Int8.ofInt 9).toInt32).toInt = 9 := by decide
  have n10 : ¬ (10 : Int32) = 0 := by decide
  have ep := ev_ofNat_i (n := p) (by omega)
  have hlem := ab_lem_okz (p := p) hok
  obtain ⟨T, hT⟩ : ∃ T, zT z = T := ⟨_, rfl⟩
  have hl4 : o.length + (ab_ek (zT z) (zf z) p neg 4).1.length + 1 ≤ 2400 := by
    unfold ab_ent at hl
    rw [List.length_append, List.length_singleton] at hl
    omega
  have hek : ∀ k, k ≤ 4 → o.length + (ab_ek (zT z) (zf z) p neg k).1.length + 1 ≤ 2400 := by
    intro k hk
    have h1 := ab_ek_mono (zT z) (zf z) p neg (4 - k) k
    rw [(by omega : k + (4 - k) = 4)] at h1
    omega
  have loop := ev_lup (P := fun k => ∀ (kk bb : Int32) (mk : ev_Mem) (o8 : Option Value), kk = Int32.ofNat k → bb = ab_bi (ab_ek (zT z) (zf z) p neg k).2 → ab_fro m mk → ab_MO mk (o ++ (ab_ek (zT z) (zf z) p neg k).1) → ev_J w ev_m179 (ev_nd 179) Q 81 [ev_vr 277, ev_vn p, ev_vi (ab_bi neg), ev_vi (ab_oi (ab_lem (zT z) p)), ev_vi bb, ev_vi kk, o8] [] mk t) 4 (by
    intro k hk ih kk bb mk o8 ekk ebb hf hOk
    subst ekk ebb
    have ek := ev_ofNat_i (n := k) (by omega)
    have hEk := ab_RE_fro hf hE
    refine ev_gK A hp [87, 149] 10 ?_
    refine And.intro (fun (h : (Int32.ofInt 4).toInt ≤ (Int32.ofNat k).toInt) => ?_) (fun (h : (Int32.ofNat k).toInt < (Int32.ofInt 4).toInt) => ?_)
    · have e4 : k = 4 := by omega
      subst e4
      refine ev_gK A hp [] 10 ?_
      refine ev_S180 (c := 10) A hOk (by rw [List.length_append]; omega) (fun m' f' O' => ?_)
      refine hQ m' (ab_fro_tr hf f') ?_
      unfold ab_ent
      rw [← List.append_assoc]
      exact O'
    have hk4 : k < 4 := by omega
    have hnok := ab_nat_okz (p := p) hok hk4
    have ei : Int32.ofInt 4 * Int32.ofNat p + Int32.ofNat k = Int32.ofNat (4 * p + k) := ev_lin (c := 4) (by omega) (by omega) (by omega)
    have h143 : ∀ (bb x6 : Int32) (m2 : ev_Mem), bb = ab_bi (ab_ek (zT z) (zf z) p neg (k + 1)).2 → ab_fro m m2 → ab_MO m2 (o ++ (ab_ek (zT z) (zf z) p neg (k + 1)).1) → ev_J w ev_m179 (ev_nd 179) Q 143 [ev_vr 277, ev_vn p, ev_vi (ab_bi neg), ev_vi (ab_oi (ab_lem (zT z) p)), ev_vi bb, ev_vn k, ev_vi x6] [] m2 t := by
      intro bb x6 m2 hb f2 O2
      refine ev_gK A hp [81] 10 ?_
      exact ih hk4 _ _ _ _ (ev_succ (by omega)) hb f2 O2
    have hcd : ab_cd (zT z) (zf z) p k = (!(ab_alk (zf z) (ab_nat (zT z) p k) (ab_lem (zT z) p)) && (ab_isJ (zT z).2.2.2.1 (Int32.ofNat k) && !(ab_anyb (ab_rdr (zT z) (zf z) p (ab_nat (zT z) p k)) k))) := by
      unfold ab_cd
      rw [ab_ff_eq _ hk4]
      have : ab_rdr (zT z) (zf z) p (ab_nat (zT z) p k) k = ab_isJ (zT z).2.2.2.1 (Int32.ofNat k) := by unfold ab_rdr; rw [ab_alk_refl, Bool.and_true]
      rw [this]
    have skip : ab_cd (zT z) (zf z) p k = false → ev_J w ev_m179 (ev_nd 179) Q 143 [ev_vr 277, ev_vn p, ev_vi (ab_bi neg), ev_vi (ab_oi (ab_lem (zT z) p)), ev_vi (ab_bi (ab_ek (zT z) (zf z) p neg k).2), ev_vn k, ev_vi (ab_oi (ab_nat (zT z) p k))] [] mk t := by
      intro hc
      have hsame : ab_ek (zT z) (zf z) p neg (k + 1) = ab_ek (zT z) (zf z) p neg k := by rw [ab_ek, hc]; exact if_neg Bool.false_ne_true
      exact h143 _ _ mk (by rw [hsame]) hf (by rw [hsame]; exact hOk)
    refine ev_gK A hp [100] 20 ?_
    refine And.intro (ev_iin ei (by omega) (by decide)) ?_
    show ev_J w ev_m179 (ev_nd 179) Q 100 [ev_vr 277, ev_vn p, ev_vi (ab_bi neg), ev_vi (ab_oi (ab_lem (zT z) p)), ev_vi (ab_bi (ab_ek (zT z) (zf z) p neg k).2), ev_vn k, ev_vi (mk 293 (Int32.ofInt 4 * Int32.ofNat p + Int32.ofNat k).toNatClampNeg)] [] mk t
    rw [ev_at ei (by omega), hEk.1.2.1 p hpT k hk4]
    refine ev_gK A hp [143] 40 ?_
    refine ev_S141 A hEk.1.2.2.2.1 hok.2.2.2.2.1.1.2.2.2.1 ?_
    refine And.intro (fun h2 => skip (by rw [hcd, ab_bi_eq h2]; simp)) (fun h2 => ?_)
    have j1 := ab_bi_neq h2
    refine ev_S178 A hEk hok hnok hlem ?_
    refine And.intro (fun h3 => skip (by rw [hcd, ab_bi_ne h3]; rfl)) (fun h3 => ?_)
    have j2 := ab_bi_nne h3
    refine ev_S182 A hEk hok hpT hnok (by omega) ?_
    refine And.intro (fun h4 => skip (by rw [hcd, ab_bi_ne h4]; simp)) (fun h4 => ?_)
    have j3 := ab_bi_nne h4
    have hc : ab_cd (zT z) (zf z) p k = true := by rw [hcd, j1, j2, j3]; rfl
    have hn : ab_ek (zT z) (zf z) p neg (k + 1) = ((ab_ek (zT z) (zf z) p neg k).1 ++ (if (ab_ek (zT z) (zf z) p neg k).2 = true then [] else [59]) ++ ab_grp (zT z) (zf z) p (ab_nat (zT z) p k), false) := by rw [ab_ek]; exact if_pos hc
    have hln := hek (k + 1) (by omega)
    rw [hn] at hln
    rw [List.length_append, List.length_append] at hln
    refine ev_S183 A hEk hok hpT hnok hOk (by rw [List.length_append]; omega) (fun m3 f3 O3 => ?_)
    refine h143 _ _ m3 (by rw [hn]; rfl) (ab_fro_tr hf f3) ?_
    rw [hn]
    rw [List.append_assoc, List.append_assoc] at O3
    rw [List.append_assoc]
    exact O3)
  have h00 := hek 0 (by omega)
  have he0 := ab_e0_le (zT z) (zf z) p neg
  have hle0 : (ab_e0 (zT z) (zf z) p).length = (ab_nm p).length + 1 + (ab_rd (zf z) (ab_lem (zT z) p)).length + 1 := by
    unfold ab_e0
    rw [List.length_append, List.length_append, List.length_append]; rfl
  have h78 : ∀ (bb : Int32) (mk : ev_Mem), bb = ab_bi (ab_ek (zT z) (zf z) p neg 0).2 → ab_fro m mk → ab_MO mk (o ++ (ab_ek (zT z) (zf z) p neg 0).1) → ev_J w ev_m179 (ev_nd 179) Q 78 [ev_vr 277, ev_vn p, ev_vi (ab_bi neg), ev_vi (ab_oi (ab_lem (zT z) p)), ev_vi bb, none, none] [] mk t := by
    intro bb mk hb f O
    refine ev_gK A hp [81] 10 ?_
    exact loop 0 (by omega) _ _ mk _ rfl hb f O
  have h34 : ∀ (mk : ev_Mem), ab_fro m mk → ab_MO mk (o ++ ab_nm p) → ev_J w ev_m179 (ev_nd 179) Q 34 [ev_vr 277, ev_vn p, ev_vi (ab_bi neg), ev_vi (ab_oi (ab_lem (zT z) p)), none, none, none] [] mk t := by
    intro mk fk Ok
    refine ev_gK A hp [51] 20 ?_
    refine ev_S180 (c := 32) A Ok (by rw [List.length_append]; omega) (fun m2 f2 O2 => ?_)
    have f12 := ab_fro_tr fk f2
    refine ev_S181 A (ab_RE_fro f12 hE) hok hlem O2 (by rw [List.length_append, List.length_append, List.length_singleton]; omega) (fun m3 f3 O3 => ?_)
    refine ev_S180 (c := 93) A O3 (by rw [List.length_append, List.length_append, List.length_append, List.length_singleton]; omega) (fun m4 f4 O4 => ?_)
    have f14 := ab_fro_tr f12 (ab_fro_tr f3 f4)
    have O5 : ab_MO m4 (o ++ ab_e0 (zT z) (zf z) p) := by
      unfold ab_e0
      rw [← List.append_assoc, ← List.append_assoc, ← List.append_assoc]
      exact O4
    have hE4 := ab_RE_fro f14 hE
    have hlg : ab_lg (zT z) (zf z) p neg = (!neg && ab_anyb (ab_rdr (zT z) (zf z) p (ab_lem (zT z) p)) 4) := by unfold ab_lg; rw [ab_ff_some]
    show ev_J w ev_m179 (ev_nd 179) Q 51 [ev_vr 277, ev_vn p, ev_vi (ab_bi neg), ev_vi (ab_oi (ab_lem (zT z) p)), none, none, none] [] m4 t
    have no : ab_lg (zT z) (zf z) p neg = false → ev_J w ev_m179 (ev_nd 179) Q 78 [ev_vr 277, ev_vn p, ev_vi (ab_bi neg), ev_vi (ab_oi (ab_lem (zT z) p)), ev_vi 1, none, none] [] m4 t := by
      intro hg
      have e0 : ab_ek (zT z) (zf z) p neg 0 = (ab_e0 (zT z) (zf z) p, true) := by rw [ab_ek, hg]; exact if_neg Bool.false_ne_true
      exact h78 _ m4 (by rw [e0]; rfl) f14 (by rw [e0]; exact O5)
    refine ev_gK A hp [68, 78] 30 ?_
    refine And.intro (fun h => no (by rw [hlg, ab_bi_ne h]; rfl)) (fun h => ?_)
    have hb := ab_bi_nne h
    refine ev_S182 (n := 4) A hE4 hok hpT hlem (by omega) ?_
    refine And.intro (fun h2 => no (by rw [hlg, ab_bi_eq h2]; simp)) (fun h2 => ?_)
    have hg : ab_lg (zT z) (zf z) p neg = true := by rw [hlg, hb, ab_bi_neq h2]; rfl
    have e0 : ab_ek (zT z) (zf z) p neg 0 = (ab_e0 (zT z) (zf z) p ++ ab_grp (zT z) (zf z) p (ab_lem (zT z) p), false) := by rw [ab_ek, hg]; exact if_pos rfl
    rw [e0] at h00
    rw [List.length_append] at h00
    refine ev_gK A hp [78] 20 ?_
    refine ev_S183 (first := true) A hE4 hok hpT hlem O5 (by rw [if_pos rfl, List.length_nil, List.length_append]; omega) (fun m5 f5 O6 => ?_)
    refine h78 _ m5 (by rw [e0]; rfl) (ab_fro_tr f14 f5) ?_
    rw [e0]
    rw [if_pos rfl, List.append_nil, List.append_assoc] at O6
    exact O6
  have h23 : ∀ (mk : ev_Mem) (o1 : ab_Ls), ab_fro m mk → ab_MO mk o1 → o1 ++ [Int32.ofNat (48 + p % 10)] = o ++ ab_nm p → ev_J w ev_m179 (ev_nd 179) Q 23 [ev_vr 277, ev_vn p, ev_vi (ab_bi neg), ev_vi (ab_oi (ab_lem (zT z) p)), none, none, none] [] mk t := by
    intro mk o1 fk Ok heq
    have hlen : o1.length + 1 = o.length + (ab_nm p).length := by
      have := congrArg List.length heq
      rw [List.length_append, List.length_append, List.length_singleton] at this
      exact this
    refine ev_gK A hp [] 5 ?_
    refine And.intro n10 ?_
    show ev_J w ev_m179 (ev_nd 179) Q 30 [ev_vr 277, ev_vn p, ev_vi (ab_bi neg), ev_vi (ab_oi (ab_lem (zT z) p)), none, none, none] [.int (Int32.ofNat p - Int32.ofNat p / 10 * 10), .int (Int32.ofNat 48), .ref 277] mk t
    rw [ev_r10 (by omega)]
    refine ev_gK A hp [] 1 ?_
    show ev_J w ev_m179 (ev_nd 179) Q 31 [ev_vr 277, ev_vn p, ev_vi (ab_bi neg), ev_vi (ab_oi (ab_lem (zT z) p)), none, none, none] [.int (Int32.ofNat 48 + Int32.ofNat (p % 10)), .ref 277] mk t
    rw [ev_addN (by omega)]
    refine ev_gK A hp [34] 10 ?_
    refine ev_S180 A Ok (by omega) (fun m2 f2 O2 => ?_)
    exact h34 m2 (ab_fro_tr fk f2) (by rw [← heq]; exact O2)
  refine ⟨Or.inr ⟨277, _, rfl, rfl⟩, ev_m179, rfl, ev_gK A hp [12, 23] 20 ?_⟩
  refine ev_S177 A hE.1 hok hpT ?_
  refine And.intro (fun (h : (Int32.ofNat p).toInt ≤ ((Int8.ofInt 9).toInt32).toInt) => ?_) (fun (h : ((Int8.ofInt 9).toInt32).toInt < (Int32.ofNat p).toInt) => ?_)
  · exact h23 m o ab_fro_rfl hO (by unfold ab_nm; rw [if_neg (by omega)])
  · have hnm : ab_nm p = [Int32.ofNat (48 + p / 10), Int32.ofNat (48 + p % 10)] := by unfold ab_nm; rw [if_pos (by omega)]
    have hnml : (ab_nm p).length = 2 := by rw [hnm]; rfl
    refine ev_gK A hp [] 5 ?_
    refine And.intro n10 ?_
    show ev_J w ev_m179 (ev_nd 179) Q 19 [ev_vr 277, ev_vn p, ev_vi (ab_bi neg), ev_vi (ab_oi (ab_lem (zT z) p)), none, none, none] [.int (Int32.ofNat p / 10), .int (Int32.ofNat 48), .ref 277] m t
    rw [ev_d10 (by omega)]
    refine ev_gK A hp [] 1 ?_
    show ev_J w ev_m179 (ev_nd 179) Q 20 [ev_vr 277, ev_vn p, ev_vi (ab_bi neg), ev_vi (ab_oi (ab_lem (zT z) p)), none, none, none] [.int (Int32.ofNat 48 + Int32.ofNat (p / 10)), .ref 277] m t
    rw [ev_addN (by omega)]
    refine ev_gK A hp [23] 10 ?_
    refine ev_S180 A hO (by omega) (fun m2 f2 O2 => ?_)
    exact h23 m2 _ f2 O2 (by rw [hnm, List.append_assoc]; rfl)
/-- apparatus -/
theorem ev_S176 {neg : Bool} (A : ev_all w) (hs : ab_RepM m z) (hok : ab_ok z) (hQ : ab_PM m t true (ab_app z neg) Q) : ev_K w 176 [.ref 277, .int (ab_bi neg)] m t Q := by
  have hp : ev_prog[176]? = some ev_m176 := rfl
  have k1 := hok.2.2.2.2.1.1.1
  have i4 := ev_i4
  have hE0 : ab_RE m z := ⟨hs.2.2.2.2.2.2.2.1, hs.2.2.2.1, hs.2.2.2.2.1⟩
  have hlen := ab_zwr2 hok neg
  -- the start
  have q1 : ∀ c i, ¬ (c = 277 ∧ (i = 0 ∨ i = 28)) → ev_up (ev_up m 277 0 (Int32.ofInt 0)) 277 28 (Int32.ofInt 0) c i = m c i := fun c i hc => by
    unfold ev_up
    rw [if_neg (by omega), if_neg (by omega)]
  have q0 : ev_up (ev_up m 277 0 (Int32.ofInt 0)) 277 28 (Int32.ofInt 0) 277 0 = Int32.ofNat 0 := by rw [ev_up_idx _ _ (by decide), ev_up_same]; rfl
  have q28 : ev_up (ev_up m 277 0 (Int32.ofInt 0)) 277 28 (Int32.ofInt 0) 277 28 = Int32.ofNat 0 := ev_up_same _ _ _ _
  refine ⟨Or.inr ⟨277, _, rfl, rfl⟩, ev_m176, rfl, ev_gK A hp [12] 20 ?_⟩
  show ev_J w ev_m176 (ev_nd 176) Q 12 [ev_vr 277, ev_vi (ab_bi neg), ev_vn 0, none, none] [] (ev_up (ev_up m 277 0 (Int32.ofInt 0)) 277 28 (Int32.ofInt 0)) t
  generalize ev_up (ev_up m 277 0 (Int32.ofInt 0)) 277 28 (Int32.ofInt 0) = m1 at *
  have hE1 : ab_RE m1 z := ab_RE_cg (fun c i hc => q1 c i (by unfold ab_gT ab_gW at hc; omega)) hE0
  have loop := ev_lup (P := fun k => ∀ (kk : Int32) (mk : ev_Mem) (o3 o4 : Option Value), kk = Int32.ofNat k → ab_fro m1 mk → ab_MO mk (ab_wr (zT z) (zf z) neg k) → ev_J w ev_m176 (ev_nd 176) Q 12 [ev_vr 277, ev_vi (ab_bi neg), ev_vi kk, o3, o4] [] mk t) (zT z).1 (by
    intro k hk ih kk mk o3 o4 ekk fk Ok
    subst ekk
    have ek := ev_ofNat_i (n := k) (by omega)
    have hEk := ab_RE_fro fk hE1
    have e22 := ev_toI hEk.1.1 (by omega)
    refine ev_gK A hp [25, 95] 10 ?_
    refine And.intro (fun (h : (mk 277 22).toInt ≤ (Int32.ofNat k).toInt) => ?_) (fun (h : (Int32.ofNat k).toInt < (mk 277 22).toInt) => ?_)
    · have e : k = (zT z).1 := by omega
      subst e
      refine ev_gK A hp [] 10 ?_
      show Q (.inl (some (.int (mk 277 28)))) mk t
      rw [Ok.1]
      refine hQ mk _ (ab_RM_O hs (fun c i z1 z2 => ?_) Ok) (fun c i hc => ?_) ?_ (fun _ => rfl)
      · rw [fk c i (fun q => z2 (Or.inl q)) (fun q => z2 (Or.inr q))]
        exact q1 c i (fun q => by rcases q.2 with r | r; exact z1 (by unfold ab_sM; omega); exact z2 (Or.inl ⟨q.1, r⟩))
      · rw [fk c i (by omega) (by omega)]; exact q1 c i (by omega)
      · rw [fk _ _ (by omega) (by decide)]; exact q0
    have hkT : k < (zT z).1 := by omega
    have hm := ab_cat_mono (fun p => if ab_need (zT z) (zf z) p = true then ab_ent (zT z) (zf z) p neg else []) ((zT z).1 - (k + 1)) (k + 1)
    rw [(by omega : k + 1 + ((zT z).1 - (k + 1)) = (zT z).1)] at hm
    have hm2 : (ab_wr (zT z) (zf z) neg (k + 1)).length ≤ (ab_wr (zT z) (zf z) neg (zT z).1).length := hm
    have h79 : ∀ (b : Bool) (x4 : Int32), b = ab_need (zT z) (zf z) k → ev_J w ev_m176 (ev_nd 176) Q 79 [ev_vr 277, ev_vi (ab_bi neg), ev_vn k, ev_vi (ab_bi b), ev_vi x4] [] mk t := by
      intro b x4 hb
      refine ev_gK A hp [12, 83] 10 ?_
      refine And.intro (fun h2 => ?_) (fun h2 => ?_)
      · have hn := ab_bi_eq h2
        rw [hb] at hn
        refine ih hkT _ mk _ _ (ev_succ (by omega)) fk ?_
        have e : ab_wr (zT z) (zf z) neg (k + 1) = ab_wr (zT z) (zf z) neg k := by
          unfold ab_wr
          rw [ab_cat, hn]
          exact List.append_nil _
        rw [e]; exact Ok
      · have hn := ab_bi_neq h2
        rw [hb] at hn
        have e : ab_wr (zT z) (zf z) neg (k + 1) = ab_wr (zT z) (zf z) neg k ++ ab_ent (zT z) (zf z) k neg := by
          unfold ab_wr
          rw [ab_cat, hn]
          rfl
        rw [e, List.length_append] at hm2
        refine ev_gK A hp [12] 10 ?_
        refine ev_S179 A hEk hok hkT Ok (by omega) (fun m2 f2 O2 => ?_)
        refine ih hkT _ m2 _ _ (ev_succ (by omega)) (ab_fro_tr fk f2) ?_
        rw [e]; exact O2
    have hneed : ab_need (zT z) (zf z) k = ab_anyb (fun v => ab_isJ (zT z).2.2.2.1 (Int32.ofNat v) && !(ab_alk (zf z) (ab_nat (zT z) k v) (ab_lem (zT z) k))) 4 := by unfold ab_need; rw [ab_ff_some]
    have inner := ev_lup (P := fun u => ∀ (uu bb : Int32), uu = Int32.ofNat u → bb = ab_bi (ab_anyb (fun v => ab_isJ (zT z).2.2.2.1 (Int32.ofNat v) && !(ab_alk (zf z) (ab_nat (zT z) k v) (ab_lem (zT z) k))) u) → ev_J w ev_m176 (ev_nd 176) Q 25 [ev_vr 277, ev_vi (ab_bi neg), ev_vn k, ev_vi bb, ev_vi uu] [] mk t) 4 (by
      intro u hu ihu uu bb euu ebb
      subst euu ebb
      have eu := ev_ofNat_i (n := u) (by omega)
      refine ev_gK A hp [35, 72, 79] 10 ?_
      refine And.intro (fun (h : (Int32.ofInt 4).toInt ≤ (Int32.ofNat u).toInt) => ?_) (fun (h : (Int32.ofNat u).toInt < (Int32.ofInt 4).toInt) => ?_)
      · have e4 : u = 4 := by omega
        subst e4
        exact h79 _ _ hneed.symm
      have hu4 : u < 4 := by omega
      have h72 : ∀ b : Bool, b = ab_anyb (fun v => ab_isJ (zT z).2.2.2.1 (Int32.ofNat v) && !(ab_alk (zf z) (ab_nat (zT z) k v) (ab_lem (zT z) k))) (u + 1) → ev_J w ev_m176 (ev_nd 176) Q 72 [ev_vr 277, ev_vi (ab_bi neg), ev_vn k, ev_vi (ab_bi (ab_anyb (fun v => ab_isJ (zT z).2.2.2.1 (Int32.ofNat v) && !(ab_alk (zf z) (ab_nat (zT z) k v) (ab_lem (zT z) k))) u)), ev_vn u] [.int (ab_bi b)] mk t := by
        intro b hb
        refine ev_gK A hp [25] 10 ?_
        exact ihu hu4 _ _ (ev_succ (by omega)) (by rw [hb])
      refine And.intro (fun h2 => h72 true (by rw [ab_anyb, ab_bi_ne h2]; rfl)) (fun h2 => ?_)
      have h3 := ab_bi_nne h2
      have ei : Int32.ofInt 4 * Int32.ofNat k + Int32.ofNat u = Int32.ofNat (4 * k + u) := ev_lin (c := 4) (by omega) (by omega) (by omega)
      refine ev_gK A hp [44, 72] 10 ?_
      refine ev_S141 A hEk.1.2.2.2.1 hok.2.2.2.2.1.1.2.2.2.1 ?_
      refine And.intro (fun h4 => h72 false (by rw [ab_anyb, h3, ab_bi_eq h4]; rfl)) (fun h4 => ?_)
      have h5 := ab_bi_neq h4
      refine ev_gK A hp [] 9 ?_
      refine And.intro (ev_iin ei (by omega) (by decide)) ?_
      show ev_J w ev_m176 (ev_nd 176) Q 56 [ev_vr 277, ev_vi (ab_bi neg), ev_vn k, ev_vi (ab_bi (ab_anyb (fun v => ab_isJ (zT z).2.2.2.1 (Int32.ofNat v) && !(ab_alk (zf z) (ab_nat (zT z) k v) (ab_lem (zT z) k))) u)), ev_vn u] [.int (mk 293 (Int32.ofInt 4 * Int32.ofNat k + Int32.ofNat u).toNatClampNeg), .ref 277] mk t
      rw [ev_at ei (by omega), hEk.1.2.1 k hkT u hu4]
      refine ev_gK A hp [72] 20 ?_
      refine ev_S177 A hEk.1 hok hkT ?_
      refine ev_S178 A hEk hok (ab_nat_okz hok hu4) (ab_lem_okz hok) ?_
      refine And.intro (fun h6 => h72 false (by rw [ab_anyb, h3, h5, ab_bi_ne h6]; rfl)) (fun h6 => h72 true (by rw [ab_anyb, h5, ab_bi_nne h6]; simp)))
    exact inner 0 (by omega) _ _ rfl rfl)
  exact loop 0 (by omega) _ m1 _ _ rfl ab_fro_rfl ⟨q28, fun k hk => absurd hk (Nat.not_lt_zero _)⟩
end EvMwrite
