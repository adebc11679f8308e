/-! the class's reader: lemmas, readings, witnesses, groups -/
section EvReader2
variable {w : ev_W} {Q : ev_QT} {m : ev_Mem} {t : ev_H}
def ab_si (o : ab_Ls) (c : Int32) (n : Nat) : Option Nat := if ab_is o c n = true then some (n + 1) else none
def ab_lt (o l : ab_Ls) (n : Nat) : Option Nat := if ab_run o n 97 122 12 = l.length ∧ (∀ k, k < l.length → o.getD (n + k) 0 = l.getD k 0) then some (n + l.length) else none
/-- Reader.readLetters -/
theorem ev_S80 {n pm sn v x c : Nat} {R : Nat → Option Nat} {o l : ab_Ls} (A : ev_all w) (hO : ab_O m o) (ho : ab_Ook o) (hS : ab_RS m n pm sn R v) (hn : n ≤ o.length) (hx : ev_isL x c) (hc : c < 100) (hL : ab_L m x l) (hlc : l.length ≤ c) (hz : ab_az l)
    (h1 : ∀ n', ab_lt o l n = some n' → ∀ m', ab_frd m m' → ab_RS m' n' pm sn R v → Q (.inl (some (.int 1))) m' t) (h0 : ab_lt o l n = none → Q (.inl (some (.int 0))) m t) : ev_K w 80 [.ref 219, .ref 217, .ref x] m t Q := by
  have hp : ev_prog[80]? = some ev_m80 := rfl
  have hlen := ho.1
  have e4 := hS.2.1
  have hri := ab_run_in o 97 122 12 n
  have hrl := ab_run_le o 97 122 12 n
  unfold ab_lt at h1 h0
  refine ⟨Or.inr ⟨219, _, rfl, rfl⟩, ev_m80, rfl, ev_gK A hp [] 7 ?_⟩
  show ev_K w 72 [.ref 217, .int (m 219 4), .int (Int32.ofNat 97), .int (Int32.ofNat 122), .int (Int32.ofNat 12)] m t _
  rw [e4]
  refine ev_S72 A hO hlen hn (by decide) ?_
  obtain ⟨d, hd⟩ : ∃ d, ab_run o n 97 122 12 = d := ⟨_, rfl⟩
  have hdd : ab_run o n (Int32.ofNat 97).toInt (Int32.ofNat 122).toInt 12 = d := hd
  rw [hd] at h1 h0 hri hrl
  have ed := ev_ofNat_i (n := d) (by omega)
  have loop : d = l.length → ∀ k, k ≤ d → ∀ kk : Int32, kk = Int32.ofNat k → (∀ j, j < k → o.getD (n + j) 0 = l.getD j 0) → ev_J w ev_m80 (ev_nd 80) Q 28 [ev_vr 219, ev_vr 217, ev_vr x, ev_vn d, ev_vi kk] [] m t := by
    intro hdl
    refine ev_lup (P := fun k => ∀ kk : Int32, kk = Int32.ofNat k → (∀ j, j < k → o.getD (n + j) 0 = l.getD j 0) → ev_J w ev_m80 (ev_nd 80) Q 28 [ev_vr 219, ev_vr 217, ev_vr x, ev_vn d, ev_vi kk] [] m t) d (fun k hk ih kk ekk hall => ?_)
    subst ekk
    have ek := ev_ofNat_i (n := k) (by omega)
    refine ev_gK A hp [34, 62] 10 ?_
    refine And.intro (fun (h : (Int32.ofNat d).toInt ≤ (Int32.ofNat k).toInt) => ?_) (fun (h : (Int32.ofNat k).toInt < (Int32.ofNat d).toInt) => ?_)
    · refine ev_gK A hp [] 20 ?_
      show narrow .boolean (.int 1) = .int 1 ∧ Q (.inl (some (.int 1))) (ev_up m 219 4 (m 219 4 + Int32.ofNat d)) t
      have hnd : n + d ≤ o.length := by
        rcases Nat.eq_zero_or_pos d with z | z
        · omega
        · have := (hri (d - 1) (by omega)).1; omega
      rw [e4, ev_addN (by omega)]
      exact ⟨rfl, h1 (n + d) (by rw [hdl]; exact if_pos ⟨rfl, fun j hj => hall j (by omega)⟩) _ (ab_frd_up (by decide)) (ab_RS_next hS)⟩
    · have hkd : k < d := by omega
      obtain ⟨r1, r2, r3⟩ := hri k hkd
      have haz := hz _ (ab_getD_mem (l := l) (k := k) (by omega))
      have hv : m (x + 1) (Int32.ofNat k).toNatClampNeg = l.getD k 0 := by
        rw [ev_on (by omega)]
        have := hL.2 k (by omega)
        rwa [Nat.zero_add] at this
      refine ev_gK A hp [] 5 ?_
      show ev_J w ev_m80 (ev_nd 80) Q 42 [ev_vr 219, ev_vr 217, ev_vr x, ev_vn d, ev_vn k] [.int (m 219 4 + Int32.ofNat k), .ref 217] m t
      rw [e4, ev_addN (by omega)]
      refine ev_gK A hp [28] 20 ?_
      refine ev_S70 A hO hlen ho.2 r1 ?_
      refine ev_S6 A hx (ev_oin (by omega) (by omega)) (by rw [hv]; exact ab_c16_ch ⟨by omega, by omega⟩) ?_
      rw [hv]
      refine And.intro (fun (h : (o.getD (n + k) 0).toInt = (l.getD k 0).toInt) => ?_) (fun (h : ¬ (o.getD (n + k) 0).toInt = (l.getD k 0).toInt) => ?_)
      · refine ih hkd _ (ev_succ (by omega)) (fun j hj => ?_)
        by_cases hjk : j = k
        · rw [hjk]; exact ev_eq_of h
        · exact hall j (by omega)
      · exact ⟨rfl, h0 (if_neg (fun q => h (by rw [q.2 k (by omega)])))⟩
  refine ev_gK A hp [25] 10 ?_
  rw [hdd]
  refine ev_S5 A hx ?_
  have hL1 := hL.1
  refine And.intro (fun (h : (Int32.ofNat d).toInt = (m x 1).toInt) => ?_) (fun (h : ¬ (Int32.ofNat d).toInt = (m x 1).toInt) => ⟨rfl, h0 (if_neg (fun q => by omega))⟩)
  refine ev_gK A hp [28] 10 ?_
  exact loop (by omega) 0 (by omega) _ rfl (fun j hj => by omega)
def ab_lm (fo : Nat → Option ab_Ls) (x : Option Nat) (o : ab_Ls) (n : Nat) : Option Nat := match x with
  | none => ab_si o 45 n
  | some y => match fo y with
    | none => ab_si o 63 n
    | some [] => ab_si o 46 n
    | some (c :: l) => ab_lt o (c :: l) n
/-- Reader.readLemma -/
theorem ev_S79 {n q sn v : Nat} {R : Nat → Option Nat} {o : ab_Ls} {T : ab_T} {fo : Nat → Option ab_Ls} (A : ev_all w) (hE : ab_E m T fo) (hO : ab_O m o) (ho : ab_Ook o) (hS : ab_RS m n (q + 1) sn R v) (hn : n ≤ o.length) (hq : q < T.1)
    (h1 : ∀ n', ab_lm fo (ab_lem T q) o n = some n' → ∀ m', ab_frd m m' → ab_RS m' n' (q + 1) sn R v → Q (.inl (some (.int 1))) m' t) (h0 : ab_lm fo (ab_lem T q) o n = none → Q (.inl (some (.int 0))) m t) : ev_K w 79 [.ref 219, .ref 217, .ref 209, .ref 40] m t Q := by
  have hp : ev_prog[79]? = some ev_m79 := rfl
  have k1 := hE.2.1.1
  have em1 := ev_im1
  have e5 : m 219 5 = Int32.ofNat q := by rw [hS.2.2.1]; exact ev_inc1 (by omega)
  have hlem := ab_lem_ok hE hq
  refine ⟨Or.inr ⟨219, _, rfl, rfl⟩, ev_m79, rfl, ev_gK A hp [] 4 ?_⟩
  show ev_K w 37 [.ref 209, .int (m 219 5)] m t _
  rw [e5]
  refine ev_S37 A hE.1 hE.2.1 hq ?_
  refine ev_gK A hp [24] 20 ?_
  cases hx : ab_lem T q with
  | none =>
    rw [hx] at h1 h0
    refine And.intro (fun (h : ¬ (-1 : Int32).toInt = (-1 : Int32).toInt) => absurd rfl h) (fun _ => ?_)
    refine ev_S78 (c := 45) A hO ho hS hn (fun hi m' f' S' => ⟨rfl, h1 (n + 1) (if_pos hi) m' f' S'⟩) (fun hi => ⟨rfl, h0 (if_neg (by rw [hi]; exact Bool.false_ne_true))⟩)
  | some y =>
    obtain ⟨hy, hyt⟩ := hlem y hx
    have ey := ev_ofNat_i (n := y) (by omega)
    obtain ⟨hF, hol⟩ := hE.2.2.1 y hy hyt
    rw [hx] at h1 h0
    unfold ab_lm at h1 h0
    refine And.intro (fun _ => ?_) (fun (h : (Int32.ofNat y).toInt = (Int32.ofInt (-1)).toInt) => by omega)
    show ev_J w ev_m79 (ev_nd 79) Q 24 [ev_vr 219, ev_vr 217, ev_vr 209, ev_vr 40, ev_vn y, none] [] m t
    refine ev_gK A hp [41] 20 ?_
    refine ev_S21 A hy ?_
    cases hfy : fo y with
    | none =>
      rw [hfy] at hF
      simp only [hfy] at h1 h0
      have hF2 : (m (45 + 4 * y) 1).toInt = -1 := hF
      refine And.intro (fun h => absurd hF2 (of_decide_eq_false (ab_bi_eq h))) (fun _ => ?_)
      refine ev_S78 (c := 63) A hO ho hS hn (fun hi m' f' S' => ⟨rfl, h1 (n + 1) (if_pos hi) m' f' S'⟩) (fun hi => ⟨rfl, h0 (if_neg (by rw [hi]; exact Bool.false_ne_true))⟩)
    | some l =>
      rw [hfy] at hF hol
      have hL : ab_L m (45 + 4 * y) l := hF
      have hL1 := hL.1
      have hl12 : l.length ≤ 12 := hol
      refine And.intro (fun _ => ?_) (fun h => by have := of_decide_eq_true (ab_bi_neq h); omega)
      refine ev_gK A hp [] 3 ?_
      refine ev_S22 A hy ?_
      show ev_J w ev_m79 (ev_nd 79) Q 47 [ev_vr 219, ev_vr 217, ev_vr 209, ev_vr 40, ev_vn y, none] [.ref (45 + 4 * y)] m t
      refine ev_gK A hp [57, 67] 10 ?_
      refine ev_S5 A (ev_isLf hy) ?_
      refine And.intro (fun (h : ¬ (m (45 + 4 * y) 1).toInt = 0) => ?_) (fun (h : (m (45 + 4 * y) 1).toInt = 0) => ?_)
      · refine ev_gK A hp [] 20 ?_
        have haz := hE.2.2.2.2.1 y l hy hyt hfy
        cases l with
        | nil => exact absurd hL1 h
        | cons c l =>
          simp only [hfy] at h1 h0
          exact ev_S80 A hO ho hS hn (ev_isLf hy) (by decide) hL hl12 haz (fun n' z m' f' S' => ⟨rfl, h1 n' z m' f' S'⟩) (fun z => ⟨rfl, h0 z⟩)
      · refine ev_gK A hp [] 20 ?_
        cases l with
        | cons c l => rw [List.length_cons] at hL1; omega
        | nil =>
          simp only [hfy] at h1 h0
          exact ev_S78 (c := 46) A hO ho hS hn (fun hi m' f' S' => ⟨rfl, h1 (n + 1) (if_pos hi) m' f' S'⟩) (fun hi => ⟨rfl, h0 (if_neg (by rw [hi]; exact Bool.false_ne_true))⟩)
def ab_rr (o : ab_Ls) (n : Nat) : Option Nat := if ab_run o n 97 122 12 = 0 then (if (ab_is o 45 n || ab_is o 63 n || ab_is o 46 n) = true then some (n + 1) else none) else some (n + ab_run o n 97 122 12)
/-- Reader.readReading -/
theorem ev_S82 {n pm sn v : Nat} {R : Nat → Option Nat} {o : ab_Ls} (A : ev_all w) (hO : ab_O m o) (ho : ab_Ook o) (hS : ab_RS m n pm sn R v) (hn : n ≤ o.length)
    (h1 : ∀ n', ab_rr o n = some n' → ∀ m', ab_frd m m' → ab_RS m' n' pm sn R v → Q (.inl (some (.int 1))) m' t) (h0 : ab_rr o n = none → Q (.inl (some (.int 0))) m t) : ev_K w 82 [.ref 219, .ref 217] m t Q := by
  have hp : ev_prog[82]? = some ev_m82 := rfl
  have hlen := ho.1
  have e4 := hS.2.1
  have hri := ab_run_in o 97 122 12 n
  have hrl := ab_run_le o 97 122 12 n
  unfold ab_rr at h1 h0
  refine ⟨Or.inr ⟨219, _, rfl, rfl⟩, ev_m82, rfl, ev_gK A hp [] 7 ?_⟩
  show ev_K w 72 [.ref 217, .int (m 219 4), .int (Int32.ofNat 97), .int (Int32.ofNat 122), .int (Int32.ofNat 12)] m t _
  rw [e4]
  refine ev_S72 A hO hlen hn (by decide) ?_
  obtain ⟨d, hd⟩ : ∃ d, ab_run o n 97 122 12 = d := ⟨_, rfl⟩
  have hdd : ab_run o n (Int32.ofNat 97).toInt (Int32.ofNat 122).toInt 12 = d := hd
  rw [hd] at h1 h0 hri hrl
  have ed := ev_ofNat_i (n := d) (by omega)
  refine ev_gK A hp [19, 55] 10 ?_
  rw [hdd]
  refine And.intro (fun (h : ¬ (Int32.ofNat d).toInt = 0) => ?_) (fun (h : (Int32.ofNat d).toInt = 0) => ?_)
  · have hd0 : ¬ d = 0 := by omega
    rw [if_neg hd0] at h1
    refine ev_gK A hp [] 20 ?_
    show narrow .boolean (.int 1) = .int 1 ∧ Q (.inl (some (.int 1))) (ev_up m 219 4 (m 219 4 + Int32.ofNat d)) t
    have hnd := (hri (d - 1) (by omega)).1
    rw [e4, ev_addN (by omega)]
    exact ⟨rfl, h1 (n + d) rfl _ (ab_frd_up (by decide)) (ab_RS_next hS)⟩
  · have hd0 : d = 0 := by omega
    rw [if_pos hd0] at h1 h0
    show ev_J w ev_m82 (ev_nd 82) Q 19 [ev_vr 219, ev_vr 217, ev_vn d] [] m t
    have yes : (ab_is o 45 n || ab_is o 63 n || ab_is o 46 n) = true → ∀ m', ab_frd m m' → ab_RS m' (n + 1) pm sn R v → Q (.inl (some (.int 1))) m' t := fun z m' f' S' => h1 (n + 1) (if_pos z) m' f' S'
    refine ev_gK A hp [] 20 ?_
    refine ev_S78 (c := 45) A hO ho hS hn (fun hi m' f' S' => ?_) (fun hi => ?_)
    · refine And.intro (fun _ => ⟨rfl, yes (by rw [hi]; rfl) m' f' S'⟩) (fun h => absurd (h : (1 : Int32).toInt = 0) ev_ne10)
    refine And.intro (fun h => absurd ev_eq00 h) (fun _ => ?_)
    refine ev_S78 (c := 63) A hO ho hS hn (fun hi2 m' f' S' => ?_) (fun hi2 => ?_)
    · refine And.intro (fun _ => ⟨rfl, yes (by rw [hi, hi2]; rfl) m' f' S'⟩) (fun h => absurd (h : (1 : Int32).toInt = 0) ev_ne10)
    refine And.intro (fun h => absurd ev_eq00 h) (fun _ => ?_)
    refine ev_S78 (c := 46) A hO ho hS hn (fun hi3 m' f' S' => ?_) (fun hi3 => ?_)
    · refine And.intro (fun h => absurd (h : (1 : Int32).toInt = 0) ev_ne10) (fun _ => ⟨rfl, yes (by rw [hi, hi2, hi3]; rfl) m' f' S'⟩)
    · refine And.intro (fun _ => ⟨rfl, h0 (if_neg (by rw [hi, hi2, hi3]; exact Bool.false_ne_true))⟩) (fun h => absurd ev_eq00 h)
theorem ev_bt {s v : Nat} (hs : s < 16) (hv : v < 4) : (Int32.ofNat s >>> (Int32.ofNat v &&& 31)) &&& 1 = ab_bi (s.testBit v) := (by decide +kernel : ∀ s, s < 16 → ∀ v, v < 4 → (Int32.ofNat s >>> (Int32.ofNat v &&& 31)) &&& 1 = ab_bi (s.testBit v)) s hs v hv
theorem ev_bo {s v : Nat} (hs : s < 16) (hv : v < 4) : Int32.ofNat s ||| ((1 : Int32) <<< (Int32.ofNat v &&& 31)) = Int32.ofNat (s ||| 2 ^ v) := (by decide +kernel : ∀ s, s < 16 → ∀ v, v < 4 → Int32.ofNat s ||| ((1 : Int32) <<< (Int32.ofNat v &&& 31)) = Int32.ofNat (s ||| 2 ^ v)) s hs v hv
theorem ev_bor {s v : Nat} (hs : s < 16) (hv : v < 16) : Int32.ofNat s ||| Int32.ofNat v = Int32.ofNat (s ||| v) := (by decide +kernel : ∀ s, s < 16 → ∀ v, v < 16 → Int32.ofNat s ||| Int32.ofNat v = Int32.ofNat (s ||| v)) s hs v hv
theorem ab_or16 {s v : Nat} (hs : s < 16) (hv : v < 16) : s ||| v < 16 := (by decide +kernel : ∀ s, s < 16 → ∀ v, v < 16 → s ||| v < 16) s hs v hv
theorem ab_pw16 {v : Nat} (hv : v < 4) : 2 ^ v < 16 := (by decide +kernel : ∀ v, v < 4 → 2 ^ v < 16) v hv
theorem ab_isJ_lt {T : ab_T} (hok : ab_Tok T) {u : Nat} (hu : u < 100000) (h : ab_isJ T.2.2.2.1 (Int32.ofNat u) = true) : u < 4 := by
  unfold ab_isJ at h
  obtain ⟨v, hv, hv2⟩ := List.any_eq_true.mp h
  have h1 := of_decide_eq_true hv2
  have h2 := hok.2.2.2.2.1 v hv
  have h3 := congrArg Int32.toInt h1
  rw [ev_ofNat_i (by omega), ev_ofNat_i (by omega)] at h3
  omega
def ab_wn (o : ab_Ls) (f : Nat) : Nat := ((o.getD f 0).toInt - 65).toNat
def ab_wl (o : ab_Ls) (js : List Nat) (sn : Nat) : Nat → Nat → Nat → Nat → Option Nat
  | 0, _, _, h => some h
  | d + 1, f, lp, h => if lp ≤ ab_wn o f ∧ ab_isJ js (Int32.ofNat (ab_wn o f)) = true ∧ sn.testBit (ab_wn o f) = false then ab_wl o js sn d (f + 1) (ab_wn o f + 1) (h ||| 2 ^ ab_wn o f) else none
def ab_wt (o : ab_Ls) (js : List Nat) (sn n : Nat) : Option (Nat × Nat) := if ab_run o n 65 90 4 = 0 then none else (ab_wl o js sn (ab_run o n 65 90 4) n 0 0).map (fun h => (ab_run o n 65 90 4, h))
def ab_up1 (R : Nat → Option Nat) (p a : Nat) : Nat → Option Nat := fun q => if q = p then some a else R q
/-- Reader.readWitnesses -/
theorem ev_S83 {n q sn v a : Nat} {R : Nat → Option Nat} {o : ab_Ls} {T : ab_T} (A : ev_all w) (hT : ab_TC m T) (hok : ab_Tok T) (hO : ab_O m o) (ho : ab_Ook o) (hS : ab_RS m n (q + 1) sn R v) (hn : n ≤ o.length) (hq : q < 24) (hsn : sn < 16) (hv : v < 4)
    (h1 : ∀ d h, ab_wt o T.2.2.2.1 sn n = some (d, h) → h < 16 → n + d ≤ o.length → ∀ m', ab_frd m m' → ab_RS m' (n + d) (q + 1) (sn ||| h) (if h.testBit v = true then ab_up1 R q a else R) v → Q (.inl (some (.int 1))) m' t)
    (h0 : ab_wt o T.2.2.2.1 sn n = none → ∀ m', ab_frd m m' → m' 219 4 = Int32.ofNat n → Q (.inl (some (.int 0))) m' t) : ev_K w 83 [.ref 219, .ref 217, .ref 209, .int (Int32.ofNat a)] m t Q := by
  have hp : ev_prog[83]? = some ev_m83 := rfl
  have hlen := ho.1
  obtain ⟨s3, e4, s5, e6, e7⟩ := id hS
  have e5 : m 219 5 = Int32.ofNat q := by rw [s5]; exact ev_inc1 (by omega)
  have hri := ab_run_in o 65 90 4 n
  have hrl := ab_run_le o 65 90 4 n
  have i1 : (Int32.ofInt 1).toInt = 1 := by decide
  unfold ab_wt at h1 h0
  refine ⟨Or.inr ⟨219, _, rfl, rfl⟩, ev_m83, rfl, ev_gK A hp [] 7 ?_⟩
  show ev_K w 72 [.ref 217, .int (m 219 4), .int (Int32.ofNat 65), .int (Int32.ofNat 90), .int (Int32.ofNat 4)] m t _
  rw [e4]
  refine ev_S72 A hO hlen hn (by decide) ?_
  obtain ⟨d, hd⟩ : ∃ d, ab_run o n 65 90 4 = d := ⟨_, rfl⟩
  have hdd : ab_run o n (Int32.ofNat 65).toInt (Int32.ofNat 90).toInt 4 = d := hd
  rw [hd] at h1 h0 hri hrl
  have ed := ev_ofNat_i (n := d) (by omega)
  have hnd : n + d ≤ o.length := by
    rcases Nat.eq_zero_or_pos d with z | z
    · omega
    · have := (hri (d - 1) (by omega)).1; omega
  -- behind the loop
  have h97 : ∀ (h : Nat) (hh bb kk : Int32) (o8 : Option Value), ab_wl o T.2.2.2.1 sn d n 0 0 = some h → h < 16 → hh = Int32.ofNat h → (d = 0 → h = 0) → ev_J w ev_m83 (ev_nd 83) Q 97 [ev_vr 219, ev_vr 217, ev_vr 209, ev_vn a, ev_vn d, ev_vi bb, ev_vi hh, ev_vi kk, o8] [] m t := by
    intro h hh bb kk o8 hwl h16 ehh hd0
    subst ehh
    have hor := ab_or16 hsn h16
    have h131 : ∀ m2 : ev_Mem, ab_frd m m2 → ab_RS m2 n (q + 1) (sn ||| h) (if h.testBit v = true then ab_up1 R q a else R) v → ev_J w ev_m83 (ev_nd 83) Q 131 [ev_vr 219, ev_vr 217, ev_vr 209, ev_vn a, ev_vn d, ev_vi bb, ev_vn h, ev_vi kk, o8] [] m2 t := by
      intro m2 f2 S2
      refine ev_gK A hp [142] 10 ?_
      show ev_J w ev_m83 (ev_nd 83) Q 142 [ev_vr 219, ev_vr 217, ev_vr 209, ev_vn a, ev_vn d, ev_vi bb, ev_vn h, ev_vi kk, o8] [] (ev_up m2 219 4 (m2 219 4 + Int32.ofNat d)) t
      rw [S2.2.1, ev_addN (by omega)]
      refine ev_gK A hp [] 10 ?_
      refine And.intro (fun (z : (Int32.ofNat d).toInt ≤ 0) => ?_) (fun (z : 0 < (Int32.ofNat d).toInt) => ?_)
      · have hdz : d = 0 := by omega
        refine ⟨rfl, h0 (if_pos hdz) _ (ab_frd_tr f2 (ab_frd_up (by decide))) ?_⟩
        rw [ev_up_same, hdz, Nat.add_zero]
      · refine ⟨rfl, h1 d h (by rw [if_neg (by omega), hwl]; rfl) h16 hnd _ (ab_frd_tr f2 (ab_frd_up (by decide))) (ab_RS_next S2)⟩
    refine ev_gK A hp [108] 10 ?_
    show ev_J w ev_m83 (ev_nd 83) Q 108 [ev_vr 219, ev_vr 217, ev_vr 209, ev_vn a, ev_vn d, ev_vi bb, ev_vn h, ev_vi kk, o8] [] (ev_up m 219 6 (m 219 6 ||| Int32.ofNat h)) t
    rw [e6, ev_bor hsn h16]
    have f1 : ab_frd m (ev_up m 219 6 (Int32.ofNat (sn ||| h))) := ab_frd_up (by decide)
    have S1 : ab_RS (ev_up m 219 6 (Int32.ofNat (sn ||| h))) n (q + 1) (sn ||| h) R v := ⟨by rw [ev_up_idx _ _ (by decide)]; exact s3, by rw [ev_up_idx _ _ (by decide)]; exact e4, by rw [ev_up_idx _ _ (by decide)]; exact s5, ev_up_same _ _ _ _, fun p hp => by rw [ev_up_cell _ (by decide)]; exact e7 p hp⟩
    have g5 : ev_up m 219 6 (Int32.ofNat (sn ||| h)) 219 5 = Int32.ofNat q := by rw [ev_up_idx _ _ (by decide)]; exact e5
    generalize ev_up m 219 6 (Int32.ofNat (sn ||| h)) = m1 at *
    have ebt : (Int32.ofNat h >>> (m1 219 3 &&& 31)) &&& 1 = ab_bi (h.testBit v) := by rw [S1.1]; exact ev_bt h16 hv
    refine ev_gK A hp [121, 131] 10 ?_
    refine And.intro (fun (z : ¬ ((Int32.ofNat h >>> (m1 219 3 &&& 31)) &&& 1).toInt = (Int32.ofInt 1).toInt) => ?_) (fun (z : ((Int32.ofNat h >>> (m1 219 3 &&& 31)) &&& 1).toInt = (Int32.ofInt 1).toInt) => ?_)
    · rw [ebt] at z
      have hb : h.testBit v = false := by
        cases hb : h.testBit v with
        | false => rfl
        | true => rw [hb] at z; exact absurd rfl z
      refine h131 m1 f1 ?_
      rw [if_neg (by rw [hb]; exact Bool.false_ne_true)]
      exact S1
    · rw [ebt] at z
      have hb : h.testBit v = true := by
        cases hb : h.testBit v with
        | true => rfl
        | false => rw [hb] at z; exact absurd z (by decide)
      refine ev_gK A hp [131] 10 ?_
      refine And.intro (by rw [g5]; exact ev_oin hq (by decide)) ?_
      refine h131 _ (fun c i z1 z2 => by rw [ev_up_cell _ z1]; exact f1 c i z1 z2) ?_
      rw [if_pos hb]
      obtain ⟨a1, a2, a3, a4, a5⟩ := S1
      refine ⟨by rw [ev_up_cell _ (by decide)]; exact a1, by rw [ev_up_cell _ (by decide)]; exact a2, by rw [ev_up_cell _ (by decide)]; exact a3, by rw [ev_up_cell _ (by decide)]; exact a4, fun p hp => ?_⟩
      rw [ev_at g5 (by omega)]
      unfold ab_up1
      by_cases hpq : p = q
      · rw [hpq, ev_up_same, if_pos rfl]; rfl
      · rw [ev_up_idx _ _ hpq, if_neg hpq]; exact a5 p hp
  have loop := ev_lup (P := fun k => ∀ (lp h : Nat) (kk bb hh : Int32) (o8 : Option Value), kk = Int32.ofNat k → bb = Int32.ofInt ((lp : Int) - 1) → lp ≤ 100 → hh = Int32.ofNat h → h < 16 → (k = 0 → h = 0) → ab_wl o T.2.2.2.1 sn d n 0 0 = ab_wl o T.2.2.2.1 sn (d - k) (n + k) lp h → ev_J w ev_m83 (ev_nd 83) Q 24 [ev_vr 219, ev_vr 217, ev_vr 209, ev_vn a, ev_vn d, ev_vi bb, ev_vi hh, ev_vi kk, o8] [] m t) d (by
    intro k hk ih lp h kk bb hh o8 ekk ebb hlp ehh h16 hk0 hwl
    subst ekk ehh
    have ek := ev_ofNat_i (n := k) (by omega)
    refine ev_gK A hp [31, 97] 10 ?_
    refine And.intro (fun (z : (Int32.ofNat d).toInt ≤ (Int32.ofNat k).toInt) => ?_) (fun (z : (Int32.ofNat k).toInt < (Int32.ofNat d).toInt) => ?_)
    · rw [(by omega : d - k = 0), ab_wl] at hwl
      exact h97 h _ _ _ _ hwl h16 rfl (fun q => hk0 (by omega))
    · have hkd : k < d := by omega
      obtain ⟨r1, r2, r3⟩ := hri k hkd
      obtain ⟨j, hj⟩ : ∃ j, d - k = j + 1 := ⟨d - k - 1, by omega⟩
      rw [hj, ab_wl] at hwl
      have hno : ¬ (lp ≤ ab_wn o (n + k) ∧ ab_isJ T.2.2.2.1 (Int32.ofNat (ab_wn o (n + k))) = true ∧ sn.testBit (ab_wn o (n + k)) = false) → Q (.inl (some (.int 0))) m t := by
        intro hc
        rw [if_neg hc] at hwl
        exact h0 (by rw [if_neg (by omega), hwl]; rfl) m ab_frd_rfl e4
      have hwb : ab_wn o (n + k) ≤ 25 := by unfold ab_wn; omega
      have ew : o.getD (n + k) 0 - Int32.ofNat 65 = Int32.ofNat (ab_wn o (n + k)) := ev_subN r2 (by omega)
      refine ev_gK A hp [] 5 ?_
      show ev_J w ev_m83 (ev_nd 83) Q 39 [ev_vr 219, ev_vr 217, ev_vr 209, ev_vn a, ev_vn d, ev_vi bb, ev_vn h, ev_vn k, o8] [.int (m 219 4 + Int32.ofNat k), .ref 217] m t
      rw [e4, ev_addN (by omega)]
      refine ev_gK A hp [47] 10 ?_
      refine ev_S70 A hO hlen ho.2 r1 ?_
      show ev_J w ev_m83 (ev_nd 83) Q 47 [ev_vr 219, ev_vr 217, ev_vr 209, ev_vn a, ev_vn d, ev_vi bb, ev_vn h, ev_vn k, ev_vi (o.getD (n + k) 0 - Int32.ofNat 65)] [] m t
      rw [ew]
      generalize ab_wn o (n + k) = W at *
      have eW := ev_ofNat_i (n := W) (by omega)
      have ebi : bb.toInt = (lp : Int) - 1 := by rw [ebb, ev_ofInt_i (by omega) (by omega)]
      refine ev_gK A hp [78] 20 ?_
      refine And.intro (fun (z : (Int32.ofNat W).toInt ≤ bb.toInt) => ⟨rfl, hno (fun y => by omega)⟩) (fun (z1 : bb.toInt < (Int32.ofNat W).toInt) => ?_)
      refine ev_S40 A hT hok ?_
      refine And.intro (fun z => ⟨rfl, hno (fun y => by rw [ab_bi_eq z] at y; exact Bool.false_ne_true y.2.1)⟩) (fun z => ?_)
      have hJ := ab_bi_neq z
      have hW4 := ab_isJ_lt hok (by omega) hJ
      have ebt : (m 219 6 >>> (Int32.ofNat W &&& 31)) &&& 1 = ab_bi (sn.testBit W) := by rw [e6]; exact ev_bt hsn hW4
      refine And.intro (fun (z2 : ¬ ((m 219 6 >>> (Int32.ofNat W &&& 31)) &&& 1).toInt = (Int32.ofInt 1).toInt) => ?_) (fun (z2 : ((m 219 6 >>> (Int32.ofNat W &&& 31)) &&& 1).toInt = (Int32.ofInt 1).toInt) => ?_)
      · rw [ebt] at z2
        have hb : sn.testBit W = false := by
          cases hb : sn.testBit W with
          | false => rfl
          | true => rw [hb] at z2; exact absurd rfl z2
        rw [if_pos ⟨by omega, hJ, hb⟩] at hwl
        refine ev_gK A hp [24] 20 ?_
        refine ih hkd (W + 1) (h ||| 2 ^ W) _ _ _ _ (ev_succ (by omega)) ?_ (by omega) (ev_bo h16 hW4) (ab_or16 h16 (ab_pw16 hW4)) (by omega) ?_
        · exact (ev_inc1 (by omega)).symm
        · rw [hwl, (by omega : d - (k + 1) = j), (by omega : n + (k + 1) = n + k + 1)]
      · rw [ebt] at z2
        have hb : sn.testBit W = true := by
          cases hb : sn.testBit W with
          | true => rfl
          | false => rw [hb] at z2; exact absurd z2 (by decide)
        exact ⟨rfl, hno (fun y => by rw [hb] at y; exact Bool.noConfusion y.2.2)⟩)
  refine ev_gK A hp [24] 10 ?_
  rw [hdd]
  exact loop 0 (by omega) 0 0 _ _ _ _ rfl rfl (by omega) rfl (by decide) (fun _ => rfl) rfl
def ab_gr (o : ab_Ls) (js : List Nat) (sn n : Nat) : Nat ⊕ (Nat × Nat × Nat) := if ab_is o 32 n = true then (match ab_rr o (n + 1) with
  | none => .inl (n + 1)
  | some n2 => if ab_is o 32 n2 = true then (match ab_wt o js sn (n2 + 1) with
    | none => .inl (n2 + 1)
    | some (d, h) => .inr (n2 + 1 + d, h, n + 1)) else .inl n2) else .inl n
theorem ab_rr_le {o : ab_Ls} {n n' : Nat} (h : ab_rr o n = some n') : n' ≤ o.length ∧ n < n' := by
  unfold ab_rr at h
  split at h
  · split at h
    · rename_i q
      cases h
      refine ⟨?_, by omega⟩
      rcases Bool.or_eq_true_iff.mp q with q | q
      · rcases Bool.or_eq_true_iff.mp q with q | q
        · have := ab_is_lt q; omega
        · have := ab_is_lt q; omega
      · have := ab_is_lt q; omega
    · cases h
  · cases h
    have := (ab_run_in o 97 122 12 n (ab_run o n 97 122 12 - 1) (by omega)).1
    omega
/-- Reader.readGroup -/
theorem ev_S81 {n q sn v : Nat} {R : Nat → Option Nat} {o : ab_Ls} {T : ab_T} (A : ev_all w) (hT : ab_TC m T) (hok : ab_Tok T) (hO : ab_O m o) (ho : ab_Ook o) (hS : ab_RS m n (q + 1) sn R v) (hn : n ≤ o.length) (hq : q < 24) (hsn : sn < 16) (hv : v < 4)
    (h1 : ∀ n4 h a, ab_gr o T.2.2.2.1 sn n = .inr (n4, h, a) → h < 16 → n4 ≤ o.length → ∀ m', ab_frd m m' → ab_RS m' n4 (q + 1) (sn ||| h) (if h.testBit v = true then ab_up1 R q a else R) v → Q (.inl (some (.int 1))) m' t)
    (h0 : ∀ e, ab_gr o T.2.2.2.1 sn n = .inl e → ∀ m', ab_frd m m' → m' 219 4 = Int32.ofNat e → Q (.inl (some (.int 0))) m' t) : ev_K w 81 [.ref 219, .ref 217, .ref 209] m t Q := by
  have hp : ev_prog[81]? = some ev_m81 := rfl
  have hlen := ho.1
  unfold ab_gr at h1 h0
  refine ⟨Or.inr ⟨219, _, rfl, rfl⟩, ev_m81, rfl, ev_gK A hp [12] 10 ?_⟩
  refine ev_S78 (c := 32) A hO ho hS hn (fun hi m1 f1 S1 => ?_) (fun hi => ?_)
  · refine And.intro (fun _ => ?_) (fun h => absurd (h : (1 : Int32).toInt = 0) ev_ne10)
    rw [if_pos hi] at h1 h0
    have hn1 : n + 1 ≤ o.length := ab_is_lt hi
    have O1 := ab_O_frd f1 hO
    show ev_J w ev_m81 (ev_nd 81) Q 12 [ev_vr 219, ev_vr 217, ev_vr 209, none] [] m1 t
    refine ev_gK A hp [25, 49] 10 ?_
    show ev_K w 82 [.ref 219, .ref 217] m1 t _
    refine ev_S82 A O1 ho S1 hn1 (fun n2 hr m2 f2 S2 => ?_) (fun hr => ?_)
    · refine And.intro (fun h => absurd (h : (1 : Int32).toInt = 0) ev_ne10) (fun _ => ?_)
      simp only [hr] at h1 h0
      have hn2 := (ab_rr_le hr).1
      have O2 := ab_O_frd f2 O1
      show ev_J w ev_m81 (ev_nd 81) Q 25 [ev_vr 219, ev_vr 217, ev_vr 209, ev_vi (m1 219 4)] [] m2 t
      rw [S1.2.1]
      refine ev_gK A hp [35, 49] 10 ?_
      refine ev_S78 (c := 32) A O2 ho S2 hn2 (fun hi2 m3 f3 S3 => ?_) (fun hi2 => ?_)
      · refine And.intro (fun h => absurd (h : (1 : Int32).toInt = 0) ev_ne10) (fun _ => ?_)
        rw [if_pos hi2] at h1 h0
        have hn3 : n2 + 1 ≤ o.length := ab_is_lt hi2
        have O3 := ab_O_frd f3 O2
        have f13 := ab_frd_tr f1 (ab_frd_tr f2 f3)
        refine ev_gK A hp [49] 20 ?_
        refine ev_S83 (T := T) (a := n + 1) A (ab_TC_cong (fun k j z1 z2 => f13 k j (by omega) (by omega)) hT) hok O3 ho S3 hn3 hq hsn hv (fun d h hw h16 hd m4 f4 S4 => ?_) (fun hw m4 f4 z4 => ?_)
        · simp only [hw] at h1
          refine And.intro (fun h => absurd (h : (1 : Int32).toInt = 0) ev_ne10) (fun _ => ?_)
          exact ⟨rfl, h1 _ _ _ rfl h16 hd m4 (ab_frd_tr f13 f4) S4⟩
        · simp only [hw] at h0
          refine And.intro (fun _ => ?_) (fun h => absurd ev_eq00 h)
          exact ev_gK A hp [] 10 ⟨rfl, h0 _ rfl m4 (ab_frd_tr f13 f4) z4⟩
      · rw [if_neg (by rw [hi2]; exact Bool.false_ne_true)] at h0
        refine And.intro (fun _ => ?_) (fun h => absurd ev_eq00 h)
        exact ev_gK A hp [] 10 ⟨rfl, h0 _ rfl m2 (ab_frd_tr f1 f2) S2.2.1⟩
    · simp only [hr] at h0
      refine And.intro (fun _ => ?_) (fun h => absurd ev_eq00 h)
      exact ev_gK A hp [] 10 ⟨rfl, h0 _ rfl m1 f1 S1.2.1⟩
  · rw [if_neg (by rw [hi]; exact Bool.false_ne_true)] at h0
    refine And.intro (fun h => absurd ev_eq00 h) (fun _ => ?_)
    exact ⟨rfl, h0 _ rfl m ab_frd_rfl hS.2.1⟩
end EvReader2
