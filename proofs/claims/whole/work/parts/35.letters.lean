/-! rows of letters -/
section EvLetters
def ev_all (w : ev_W) : Prop := ev_ok w ∧ (∀ x ∈ ev_sp, x.before w.2.2.1 w.2.1 = true)
variable {w : ev_W} {M : ev_M} {d : Nat × Nat} {Q : ev_QT} {pc : Nat} {L : List (Option Value)} {st : List Value} {m : ev_Mem} {t : ev_H} {a b : Nat}
theorem ev_dec_of {k : Nat} (hp : ev_prog[k]? = some M) : ev_dec M = true := by
  have h1 := (ev_prog_ok M (List.mem_of_getElem? hp)).1
  simp only [ev_mw, Bool.and_eq_true] at h1
  exact h1.2
theorem ev_go {k : Nat} {sp : Nat → ev_SP} {cut : List Nat} (A : ev_all w) (hp : ev_prog[k]? = some M) (hs : ∀ k vs m t Q, sp k vs m t Q → ev_K w k vs m t Q) (n : Nat) (h : ev_jv w sp cut M d Q n pc L st m t) : ev_J w M d Q pc L st m t :=
  ev_jv_ok A.1 A.2 hs (ev_dec_of hp) (ev_prog_ok M (List.mem_of_getElem? hp)).2 (List.all_eq_true.mp ev_srt_all M (List.mem_of_getElem? hp)) n pc L st m t h
def ev_no : Nat → ev_SP := fun _ _ _ _ _ => False
theorem ev_no_ok : ∀ k vs m t Q, ev_no k vs m t Q → ev_K w k vs m t Q := fun _ _ _ _ _ h => h.elim
/-- Math.min -/
theorem ev_S0 (A : ev_all w) {x y : Int32} (hQ : Q (.inl (some (.int (if x.toInt ≤ y.toInt then x else y)))) m t) : ev_K w 0 [.int x, .int y] m t Q := by
  refine ⟨Or.inl rfl, ev_m0, rfl, ev_go A (k := 0) rfl ev_no_ok (cut := []) 20 ?_⟩
  show (y.toInt < x.toInt → Q (.inl (some (.int y))) m t) ∧ (x.toInt ≤ y.toInt → Q (.inl (some (.int x))) m t)
  refine ⟨fun h => ?_, fun h => ?_⟩
  · rw [if_neg (by omega)] at hQ; exact hQ
  · rw [if_pos h] at hQ; exact hQ
/-- Rules.count -/
theorem ev_S17 (A : ev_all w) (hQ : Q (.inl (some (.int (m 5 2)))) m t) : ev_K w 17 [.ref 5] m t Q :=
  ⟨Or.inr ⟨5, [], rfl, rfl⟩, ev_m17, rfl, ev_go A (k := 17) rfl ev_no_ok (cut := []) 20 hQ⟩
/-- a row of letters at x, for so many -/
def ev_isL (x c : Nat) : Prop := ev_shs[x]? = some (.inr (.inr (0, [some (x + 1), none]))) ∧ ev_shs[x + 1]? = some (.inl (1, c))
theorem ev_isL_rv {x c k : Nat} {us : List Value} (hx : ev_isL x c) (hk : ev_mcs[k]? = some 0) : ev_rv k (.ref x :: us) := by
  refine Or.inr ⟨x, us, rfl, ?_⟩
  unfold ev_shc
  rw [hx.1, hk]
theorem ev_jL_len {k x c idx : Nat} (A : ev_all w) (hp : ev_prog[k]? = some M) (hx : ev_isL x c) (hi : ev_ins M pc = some (.getfield idx, 0, 1)) (kk : ev_J w M d Q (pc + 3) L (.int (m x 1) :: st) m t) : ev_J w M d Q pc L (.ref x :: st) m t := by
  intro h0
  refine ev_s7_ok A.1 (ev_dec_of hp) (ev_prog_ok M (List.mem_of_getElem? hp)).2 hi (F := (pc + 3, L, .int (m x 1) :: st, ev_hp m t)) ?_ (kk h0)
  simp only [ev_s7, ev_hp_get m t hx.1, ev_cell, if_true]
  rfl
theorem ev_jL_row {k x c idx : Nat} (A : ev_all w) (hp : ev_prog[k]? = some M) (hx : ev_isL x c) (hi : ev_ins M pc = some (.getfield idx, 0, 0)) (kk : ev_J w M d Q (pc + 3) L (.ref (x + 1) :: st) m t) : ev_J w M d Q pc L (.ref x :: st) m t := by
  intro h0
  refine ev_s7_ok A.1 (ev_dec_of hp) (ev_prog_ok M (List.mem_of_getElem? hp)).2 hi (F := (pc + 3, L, .ref (x + 1) :: st, ev_hp m t)) ?_ (kk h0)
  simp only [ev_s7, ev_hp_get m t hx.1, ev_cell, if_true]
  rfl
theorem ev_jL_put {k x c idx : Nat} {v : Int32} (A : ev_all w) (hp : ev_prog[k]? = some M) (hx : ev_isL x c) (hi : ev_ins M pc = some (.putfield idx, 0, 1)) (kk : ev_J w M d Q (pc + 3) L st (ev_up m x 1 v) t) : ev_J w M d Q pc L (.int v :: .ref x :: st) m t := by
  intro h0
  refine ev_s7_ok A.1 (ev_dec_of hp) (ev_prog_ok M (List.mem_of_getElem? hp)).2 hi (F := (pc + 3, L, st, ev_hp (ev_up m x 1 v) t)) ?_ (kk h0)
  have hf : ev_fitv (ev_fty ((ev_cl[0]?).getD ("", fun _ => ("", "", "", false), 0)) 1) (.int v) = true := rfl
  have hl : 1 < (([some (x + 1), none] : List (Option Nat)).mapIdx (fun j r => ev_fld m x j r)).length := by simp
  simp only [ev_s7, ev_hp_get m t hx.1, ev_cell, hf, hl, and_self, if_true]
  rw [ev_fld_set m x [some (x + 1), none] v (k := 1) rfl, ev_hp_set m t (j := 1) (v := v) hx.1 (y := .inr (0, ([some (x + 1), none] : List (Option Nat)).mapIdx (fun j r => ev_fld (ev_up m x 1 v) x j r))) rfl]
theorem ev_jL_ld {k x c : Nat} {j : Int32} (A : ev_all w) (hp : ev_prog[k]? = some M) (hx : ev_isL x c) (hj : ev_in j c) (hi : ev_ins M pc = some (.caload, a, b)) (kk : ev_J w M d Q (pc + 1) L (.int (m (x + 1) j.toNatClampNeg) :: st) m t) : ev_J w M d Q pc L (.int j :: .ref (x + 1) :: st) m t := by
  intro h0
  refine ev_s8_ok A.1 (ev_dec_of hp) hi (F := (pc + 1, L, .int (m (x + 1) j.toNatClampNeg) :: st, ev_hp m t)) ?_ (kk h0)
  simp only [ev_s8, ev_hp_get m t hx.2, ev_cell, ev_in_of hj, if_true]
theorem ev_jL_st {k x c : Nat} {j v : Int32} (A : ev_all w) (hp : ev_prog[k]? = some M) (hx : ev_isL x c) (hj : ev_in j c) (hi : ev_ins M pc = some (.castore, a, b)) (kk : ev_J w M d Q (pc + 1) L st (ev_up m (x + 1) j.toNatClampNeg (vp_nar .char v)) t) : ev_J w M d Q pc L (.int v :: .int j :: .ref (x + 1) :: st) m t := by
  intro h0
  refine ev_s8_ok A.1 (ev_dec_of hp) hi (F := (pc + 1, L, st, ev_hp (ev_up m (x + 1) j.toNatClampNeg (vp_nar .char v)) t)) ?_ (kk h0)
  simp only [ev_s8, ev_hp_get m t hx.2, ev_cell, ev_in_of hj, if_true, ev_up_arr]
  rw [ev_hp_set m t (j := j.toNatClampNeg) (v := vp_nar .char v) hx.2 (y := .inl (1, c, .inl (ev_up m (x + 1) j.toNatClampNeg (vp_nar .char v) (x + 1)))) rfl]
theorem ev_jL_al {k x c : Nat} (A : ev_all w) (hp : ev_prog[k]? = some M) (hx : ev_isL x c) (hi : ev_ins M pc = some (.arraylength, a, b)) (kk : ev_J w M d Q (pc + 1) L (.int (Int32.ofNat c) :: st) m t) : ev_J w M d Q pc L (.ref (x + 1) :: st) m t := by
  intro h0
  refine ev_s8_ok A.1 (ev_dec_of hp) hi (F := (pc + 1, L, .int (Int32.ofNat c) :: st, ev_hp m t)) ?_ (kk h0)
  simp only [ev_s8, ev_hp_get m t hx.2, ev_cell]
  rfl
/-- isGap -/
theorem ev_S4 {x c : Nat} (A : ev_all w) (hx : ev_isL x c) (hQ : Q (.inl (some (.int (if (m x 1).toInt = -1 then 1 else 0)))) m t) : ev_K w 4 [.ref x] m t Q := by
  refine ⟨ev_isL_rv hx rfl, ev_m4, rfl, ev_go A (k := 4) rfl ev_no_ok (cut := []) 1 ?_⟩
  refine ev_jL_len (idx := 15) A (k := 4) rfl hx rfl (ev_go A (k := 4) rfl ev_no_ok (cut := []) 20 ?_)
  show (¬ (m x 1).toInt = -1 → _ ∧ Q (.inl (some (.int 0))) m t) ∧ ((m x 1).toInt = -1 → _ ∧ Q (.inl (some (.int 1))) m t)
  refine ⟨fun h => ⟨rfl, ?_⟩, fun h => ⟨rfl, ?_⟩⟩
  · rw [if_neg h] at hQ; exact hQ
  · rw [if_pos h] at hQ; exact hQ
/-- size -/
theorem ev_S5 {x c : Nat} (A : ev_all w) (hx : ev_isL x c) (hQ : Q (.inl (some (.int (m x 1)))) m t) : ev_K w 5 [.ref x] m t Q :=
  ⟨ev_isL_rv hx rfl, ev_m5, rfl, ev_go A (k := 5) rfl ev_no_ok (cut := []) 1 (ev_jL_len (idx := 15) A (k := 5) rfl hx rfl (ev_go A (k := 5) rfl ev_no_ok (cut := []) 20 hQ))⟩
/-- letter -/
theorem ev_S6 {x c : Nat} {j : Int32} (A : ev_all w) (hx : ev_isL x c) (hj : ev_in j c) (hc : narrow .char (.int (m (x + 1) j.toNatClampNeg)) = .int (m (x + 1) j.toNatClampNeg)) (hQ : Q (.inl (some (.int (m (x + 1) j.toNatClampNeg)))) m t) : ev_K w 6 [.ref x, .int j] m t Q :=
  ⟨ev_isL_rv hx rfl, ev_m6, rfl, ev_go A (k := 6) rfl ev_no_ok (cut := []) 1 (ev_jL_row (idx := 9) A (k := 6) rfl hx rfl (ev_go A (k := 6) rfl ev_no_ok (cut := []) 1 (ev_jL_ld (a := 0) (b := 0) A (k := 6) rfl hx hj rfl (ev_go A (k := 6) rfl ev_no_ok (cut := []) 20 ⟨hc, hQ⟩))))⟩
/-- keep -/
theorem ev_S7 {x c : Nat} {n : Int32} (A : ev_all w) (hx : ev_isL x c) (hQ : Q (.inl none) (ev_up m x 1 n) t) : ev_K w 7 [.ref x, .int n] m t Q :=
  ⟨ev_isL_rv hx rfl, ev_m7, rfl, ev_go A (k := 7) rfl ev_no_ok (cut := []) 2 (ev_jL_put (idx := 15) A (k := 7) rfl hx rfl (ev_go A (k := 7) rfl ev_no_ok (cut := []) 20 hQ))⟩
/-- becomeGap -/
theorem ev_S11 {x c : Nat} (A : ev_all w) (hx : ev_isL x c) (hQ : Q (.inl none) (ev_up m x 1 (-1)) t) : ev_K w 11 [.ref x] m t Q :=
  ⟨ev_isL_rv hx rfl, ev_m11, rfl, ev_go A (k := 11) rfl ev_no_ok (cut := []) 2 (ev_jL_put (idx := 15) A (k := 11) rfl hx rfl (ev_go A (k := 11) rfl ev_no_ok (cut := []) 20 hQ))⟩
/-- add -/
def ev_addL (m : ev_Mem) (x c : Nat) (v : Int32) : ev_Mem := if 0 ≤ (m x 1).toInt ∧ (m x 1).toInt < (c : Int) then ev_up (ev_up m (x + 1) (m x 1).toNatClampNeg (vp_nar .char v)) x 1 (m x 1 + 1) else m
theorem ev_S9 {x c : Nat} {v : Int32} (A : ev_all w) (hx : ev_isL x c) (hc : c < 10000) (hQ : Q (.inl none) (ev_addL m x c v) t) : ev_K w 9 [.ref x, .int v] m t Q := by
  have hp : ev_prog[9]? = some ev_m9 := rfl
  have ec : (Int32.ofNat c).toInt = (c : Int) := ev_ofNat_i (by omega)
  refine ⟨ev_isL_rv hx rfl, ev_m9, rfl, ev_go A hp ev_no_ok (cut := []) 1 (ev_jL_len (idx := 15) A hp hx rfl (ev_go A hp ev_no_ok (cut := []) 1 ?_))⟩
  refine And.intro (fun h => ?_) (fun h => ?_)
  · have h' : (m x 1).toInt < 0 := h
    refine ev_go A hp ev_no_ok (cut := []) 20 ?_
    rw [ev_addL, if_neg (by omega)] at hQ
    exact hQ
  · have h' : 0 ≤ (m x 1).toInt := h
    refine ev_go A hp ev_no_ok (cut := []) 1 (ev_jL_len (idx := 15) A hp hx rfl (ev_go A hp ev_no_ok (cut := []) 1 (ev_jL_row (idx := 9) A hp hx rfl (ev_jL_al (a := 0) (b := 0) A hp hx rfl (ev_go A hp ev_no_ok (cut := []) 1 ?_)))))
    refine And.intro (fun h => ?_) (fun h => ?_)
    · have h2 : (Int32.ofNat c).toInt ≤ (m x 1).toInt := h
      refine ev_go A hp ev_no_ok (cut := []) 20 ?_
      rw [ev_addL, if_neg (by omega)] at hQ
      exact hQ
    · have h2 : (m x 1).toInt < (Int32.ofNat c).toInt := h
      rw [ev_addL, if_pos (by omega)] at hQ
      refine ev_go A hp ev_no_ok (cut := []) 1 (ev_jL_row (idx := 9) A hp hx rfl (ev_go A hp ev_no_ok (cut := []) 1 (ev_jL_len (idx := 15) A hp hx rfl (ev_go A hp ev_no_ok (cut := []) 1 (ev_jL_st (a := 0) (b := 0) A hp hx ⟨h', by omega⟩ rfl (ev_go A hp ev_no_ok (cut := []) 2 (ev_jL_len (idx := 15) A hp hx rfl (ev_go A hp ev_no_ok (cut := []) 2 (ev_jL_put (idx := 15) A hp hx rfl (ev_go A hp ev_no_ok (cut := []) 20 ?_))))))))))
      rw [ev_up_cell _ (by omega)]
      exact hQ
/-- standsIn -/
def ev_std (m : ev_Mem) (x y : Nat) (f : Int) : Prop := f + (m x 1).toInt ≤ (m y 1).toInt ∧ ∀ k : Nat, (k : Int) < (m x 1).toInt → m (x + 1) k = m (y + 1) (f.toNat + k)
theorem ev_S8 {x y c e : Nat} {f : Int32} (A : ev_all w) (hx : ev_isL x c) (hy : ev_isL y e) (hc : c < 10000) (he : e < 10000) (hf : 0 ≤ f.toInt) (hf2 : f.toInt < 10000) (hlx : -1 ≤ (m x 1).toInt) (hlx2 : (m x 1).toInt ≤ (c : Int)) (hly2 : (m y 1).toInt ≤ (e : Int))
    (ht : ev_std m x y f.toInt → Q (.inl (some (.int 1))) m t) (hn : ¬ ev_std m x y f.toInt → Q (.inl (some (.int 0))) m t) : ev_K w 8 [.ref x, .ref y, .int f] m t Q := by
  have hp : ev_prog[8]? = some ev_m8 := rfl
  have e1 : (f + m x 1).toInt = f.toInt + (m x 1).toInt := ev_add_i (by omega) (by omega)
  refine ⟨ev_isL_rv hx rfl, ev_m8, rfl, ev_go A hp ev_no_ok (cut := []) 2 (ev_jL_len (idx := 15) A hp hx rfl (ev_go A hp ev_no_ok (cut := []) 2 (ev_jL_len (idx := 15) A hp hy rfl (ev_go A hp ev_no_ok (cut := [17]) 4 ?_))))⟩
  refine And.intro (fun h => ?_) (fun h => ?_)
  · have h1 : (f + m x 1).toInt ≤ (m y 1).toInt := h
    have loop : ∀ (n k : Nat), (m x 1).toInt ≤ (k : Int) + n → (k : Int) ≤ (m x 1).toInt ∨ k = 0 → (∀ j, j < k → m (x + 1) j = m (y + 1) (f.toInt.toNat + j)) → ev_J w ev_m8 (ev_nd 8) Q 17 [some (.ref x), some (.ref y), some (.int f), some (.int (Int32.ofNat k))] [] m t := by
      intro n
      induction n with
      | zero =>
        intro k hk hk2 hall
        have ek : (Int32.ofNat k).toInt = (k : Int) := ev_ofNat_i (by omega)
        refine ev_go A hp ev_no_ok (cut := []) 2 (ev_jL_len (idx := 15) A hp hx rfl (ev_go A hp ev_no_ok (cut := []) 10 ?_))
        refine And.intro (fun h => ⟨rfl, ht ⟨by omega, fun j hj => hall j (by omega)⟩⟩) (fun h => ?_)
        have h2 : (Int32.ofNat k).toInt < (m x 1).toInt := h
        omega
      | succ n ih =>
        intro k hk hk2 hall
        have ek : (Int32.ofNat k).toInt = (k : Int) := ev_ofNat_i (by omega)
        refine ev_go A hp ev_no_ok (cut := []) 2 (ev_jL_len (idx := 15) A hp hx rfl (ev_go A hp ev_no_ok (cut := []) 1 ?_))
        refine And.intro (fun h => ?_) (fun h => ?_)
        · have h2 : (m x 1).toInt ≤ (Int32.ofNat k).toInt := h
          exact ev_go A hp ev_no_ok (cut := []) 4 ⟨rfl, ht ⟨by omega, fun j hj => hall j (by omega)⟩⟩
        · have h2 : (Int32.ofNat k).toInt < (m x 1).toInt := h
          have ef : (f + Int32.ofNat k).toInt = f.toInt + (k : Int) := by rw [ev_add_i (by omega) (by omega), ek]
          have n1 : (Int32.ofNat k).toNatClampNeg = k := by rw [ev_nat, ek]; omega
          have n2 : (f + Int32.ofNat k).toNatClampNeg = f.toInt.toNat + k := by rw [ev_nat, ef]; omega
          refine ev_go A hp ev_no_ok (cut := []) 1 (ev_jL_row (idx := 9) A hp hx rfl (ev_go A hp ev_no_ok (cut := []) 1 (ev_jL_ld (a := 0) (b := 0) A hp hx ⟨by omega, by omega⟩ rfl (ev_go A hp ev_no_ok (cut := []) 1 (ev_jL_row (idx := 9) A hp hy rfl (ev_go A hp ev_no_ok (cut := []) 3 (ev_jL_ld (a := 0) (b := 0) A hp hy ⟨by omega, by omega⟩ rfl (ev_go A hp ev_no_ok (cut := [17]) 4 ?_))))))))
          rw [n1, n2]
          refine And.intro (fun h => ?_) (fun h => ?_)
          · have h3 : m (x + 1) k = m (y + 1) (f.toInt.toNat + k) := ev_eq_of h
            show ev_J w ev_m8 (ev_nd 8) Q 17 [some (.ref x), some (.ref y), some (.int f), some (.int (Int32.ofNat k + 1))] [] m t
            rw [ev_succ (by omega)]
            refine ih (k + 1) (by omega) (Or.inl (by omega)) (fun j hj => ?_)
            rcases Nat.lt_or_eq_of_le (Nat.le_of_lt_succ hj) with q | q
            · exact hall j q
            · rw [q]; exact h3
          · have h3 : ¬ (m (x + 1) k).toInt = (m (y + 1) (f.toInt.toNat + k)).toInt := h
            exact ⟨rfl, hn (fun q => h3 (by rw [q.2 k (by omega)]))⟩
    exact loop (m x 1).toInt.toNat 0 (by omega) (Or.inr rfl) (fun j hj => absurd hj (Nat.not_lt_zero _))
  · have h1 : (m y 1).toInt < (f + m x 1).toInt := h
    exact ⟨rfl, hn (fun q => by have q1 := q.1; omega)⟩
theorem ev_gK {k : Nat} (A : ev_all w) (hp : ev_prog[k]? = some M) (cut : List Nat) (n : Nat) (h : ev_jv w (ev_K w) cut M d Q n pc L st m t) : ev_J w M d Q pc L st m t :=
  ev_go A hp (fun _ _ _ _ _ h => h) n h
theorem ev_isL_ne {x y c e : Nat} (hx : ev_isL x c) (hy : ev_isL y e) : y ≠ x + 1 := by
  intro h
  have h1 := hx.2
  rw [← h, hy.1] at h1
  cases h1
/-- a letter that fits its place -/
def ev_ch (v : Int32) : Prop := narrow .char (.int v) = .int v
theorem ev_ch_nar {v : Int32} (h : ev_ch v) : vp_nar .char v = v := by
  unfold vp_nar
  rw [h]
/-- addPart -/
theorem ev_S10 {x y c e : Nat} {f g : Int32} (A : ev_all w) (hx : ev_isL x c) (hy : ev_isL y e) (hxy : y ≠ x) (hc : c < 10000) (he : e < 10000) (hf : 0 ≤ f.toInt) (hfg : f.toInt ≤ g.toInt) (hg : g.toInt ≤ (e : Int)) (hl : 0 ≤ (m x 1).toInt) (hroom : (m x 1).toInt + (g.toInt - f.toInt) ≤ (c : Int))
    (hch : ∀ k : Nat, f.toInt ≤ (k : Int) → (k : Int) < g.toInt → ev_ch (m (y + 1) k))
    (hQ : ∀ m' : ev_Mem, (m' x 1).toInt = (m x 1).toInt + (g.toInt - f.toInt) → (∀ k : Nat, (k : Int) < (m x 1).toInt → m' (x + 1) k = m (x + 1) k) → (∀ i : Nat, (i : Int) < g.toInt - f.toInt → m' (x + 1) ((m x 1).toInt.toNat + i) = m (y + 1) (f.toInt.toNat + i)) → (∀ k j, k ≠ x → k ≠ x + 1 → m' k j = m k j) → Q (.inl none) m' t) :
    ev_K w 10 [.ref x, .ref y, .int f, .int g] m t Q := by
  have hp : ev_prog[10]? = some ev_m10 := rfl
  have d1 := ev_isL_ne hx hy
  have d2 := ev_isL_ne hy hx
  have loop : ∀ (n k : Nat) (mk : ev_Mem), (k : Int) + n = g.toInt → f.toInt ≤ (k : Int) → (mk x 1).toInt = (m x 1).toInt + ((k : Int) - f.toInt) → (∀ j : Nat, (j : Int) < (m x 1).toInt → mk (x + 1) j = m (x + 1) j) → (∀ i : Nat, (i : Int) < (k : Int) - f.toInt → mk (x + 1) ((m x 1).toInt.toNat + i) = m (y + 1) (f.toInt.toNat + i)) → (∀ k j, k ≠ x → k ≠ x + 1 → mk k j = m k j) →
      ev_J w ev_m10 (ev_nd 10) Q 3 [some (.ref x), some (.ref y), some (.int f), some (.int g), some (.int (Int32.ofNat k))] [] mk t := by
    intro n
    induction n with
    | zero =>
      intro k mk hk hfk i1 i2 i3 i4
      have ek : (Int32.ofNat k).toInt = (k : Int) := ev_ofNat_i (by omega)
      refine ev_gK A hp [] 10 ?_
      refine And.intro (fun h => hQ mk (by omega) i2 (fun i hi => i3 i (by omega)) i4) (fun h => ?_)
      have h2 : (Int32.ofNat k).toInt < g.toInt := h
      omega
    | succ n ih =>
      intro k mk hk hfk i1 i2 i3 i4
      have ek : (Int32.ofNat k).toInt = (k : Int) := ev_ofNat_i (by omega)
      have nk : (Int32.ofNat k).toNatClampNeg = k := by rw [ev_nat, ek]; omega
      refine ev_gK A hp [] 3 ?_
      refine And.intro (fun h => ?_) (fun h => ?_)
      · have h2 : g.toInt ≤ (Int32.ofNat k).toInt := h
        omega
      · refine ev_gK A hp [] 2 (ev_jL_row (idx := 9) A hp hy rfl (ev_gK A hp [] 1 (ev_jL_ld (a := 0) (b := 0) A hp hy ⟨by omega, by omega⟩ rfl (ev_gK A hp [3] 10 ?_))))
        rw [nk]
        have hv : mk (y + 1) k = m (y + 1) k := i4 _ _ d2.symm (by omega)
        refine ev_S9 A hx hc ?_
        show ev_J w ev_m10 (ev_nd 10) Q 3 [some (.ref x), some (.ref y), some (.int f), some (.int g), some (.int (Int32.ofNat k + 1))] [] (ev_addL mk x c (mk (y + 1) k)) t
        have e1 : (1 : Int32).toInt = 1 := by decide
        have e2 : (mk x 1 + 1).toInt = (mk x 1).toInt + 1 := by rw [ev_add_i (by omega) (by omega), e1]
        rw [ev_succ (by omega), ev_addL, if_pos (by omega), hv, ev_ch_nar (hch k (by omega) (by omega))]
        refine ih (k + 1) _ (by omega) (by omega) ?_ ?_ ?_ ?_
        · rw [ev_up_same, e2]; omega
        · intro j hj
          rw [ev_up_cell _ (by omega), ev_up_idx _ _ (by rw [ev_nat]; omega)]
          exact i2 j hj
        · intro i hi
          rw [ev_up_cell _ (by omega)]
          by_cases hik : (i : Int) < (k : Int) - f.toInt
          · rw [ev_up_idx _ _ (by rw [ev_nat]; omega)]
            exact i3 i hik
          · have q1 : (m x 1).toInt.toNat + i = (mk x 1).toNatClampNeg := by rw [ev_nat]; omega
            have q2 : f.toInt.toNat + i = k := by omega
            rw [q1, q2, ev_up_same]
        · intro k' j h1 h2
          rw [ev_up_cell _ h1, ev_up_cell _ h2]
          exact i4 k' j h1 h2
  refine ⟨ev_isL_rv hx rfl, ev_m10, rfl, ev_gK A hp [3] 5 ?_⟩
  show ev_J w ev_m10 (ev_nd 10) Q 3 [some (.ref x), some (.ref y), some (.int f), some (.int g), some (.int f)] [] m t
  have h0 := loop (g.toInt.toNat - f.toInt.toNat) f.toInt.toNat m (by omega) (by omega) (by omega) (fun _ _ => rfl) (fun i hi => by omega) (fun _ _ _ _ => rfl)
  rw [ev_ofNat_toNat hf] at h0
  exact h0
theorem ev_S10z {x y c : Nat} {f g : Int32} (A : ev_all w) (hx : ev_isL x c) (hfg : g.toInt ≤ f.toInt) (hQ : Q (.inl none) m t) : ev_K w 10 [.ref x, .ref y, .int f, .int g] m t Q := by
  have hp : ev_prog[10]? = some ev_m10 := rfl
  refine ⟨ev_isL_rv hx rfl, ev_m10, rfl, ev_gK A hp [] 5 ?_⟩
  refine And.intro (fun h => ev_gK A hp [] 5 hQ) (fun h => ?_)
  have h2 : f.toInt < g.toInt := h
  omega
/-- isSame -/
def ev_sm (m : ev_Mem) (x y : Nat) : Prop := (m x 1).toInt = (m y 1).toInt ∧ ∀ k : Nat, (k : Int) < (m x 1).toInt → m (x + 1) k = m (y + 1) k
theorem ev_S12 {x y c e : Nat} (A : ev_all w) (hx : ev_isL x c) (hy : ev_isL y e) (hc : c < 10000) (he : e < 10000) (hlx : -1 ≤ (m x 1).toInt) (hlx2 : (m x 1).toInt ≤ (c : Int)) (hly2 : (m y 1).toInt ≤ (e : Int))
    (ht : ev_sm m x y → Q (.inl (some (.int 1))) m t) (hn : ¬ ev_sm m x y → Q (.inl (some (.int 0))) m t) : ev_K w 12 [.ref x, .ref y] m t Q := by
  have hp : ev_prog[12]? = some ev_m12 := rfl
  refine ⟨ev_isL_rv hx rfl, ev_m12, rfl, ev_gK A hp [] 1 (ev_jL_len (idx := 15) A hp hx rfl (ev_gK A hp [] 1 (ev_jL_len (idx := 15) A hp hy rfl (ev_gK A hp [] 20 ?_))))⟩
  refine And.intro (fun h => ?_) (fun h => ?_)
  · have h1 : ¬ (m x 1).toInt = (m y 1).toInt := h
    exact ⟨rfl, hn (fun q => h1 q.1)⟩
  · have h1 : (m x 1).toInt = (m y 1).toInt := h
    have e0 : ((0 : Int32).toInt) = 0 := by decide
    refine ev_S8 (f := 0) A hx hy hc he (by decide) (by decide) hlx hlx2 hly2 (fun q => ?_) (fun q => ?_)
    · refine And.intro (fun h => (ev_ne10 h).elim) (fun h => ⟨rfl, ht ⟨h1, fun k hk => ?_⟩⟩)
      have h2 := q.2 k hk
      rw [e0] at h2
      rw [h2]
      congr 1
      omega
    · refine And.intro (fun h => ⟨rfl, hn (fun z => q ⟨by rw [e0]; omega, fun k hk => ?_⟩)⟩) (fun h => absurd ev_eq00 h)
      rw [e0, z.2 k hk]
      congr 1
      omega
/-- become -/
theorem ev_S13 {x y c e : Nat} (A : ev_all w) (hx : ev_isL x c) (hy : ev_isL y e) (hxy : y ≠ x) (hc : c < 10000) (he : e < 10000) (hly : -1 ≤ (m y 1).toInt) (hly2 : (m y 1).toInt ≤ (e : Int)) (hroom : (m y 1).toInt ≤ (c : Int)) (hch : ∀ k : Nat, (k : Int) < (m y 1).toInt → ev_ch (m (y + 1) k))
    (hQ : ∀ m' : ev_Mem, (m' x 1).toInt = (m y 1).toInt → (∀ k : Nat, (k : Int) < (m y 1).toInt → m' (x + 1) k = m (y + 1) k) → (∀ k j, k ≠ x → k ≠ x + 1 → m' k j = m k j) → Q (.inl none) m' t) : ev_K w 13 [.ref x, .ref y] m t Q := by
  have hp : ev_prog[13]? = some ev_m13 := rfl
  have d1 := ev_isL_ne hx hy
  have d2 := ev_isL_ne hy hx
  have e0 : ((0 : Int32).toInt) = 0 := by decide
  have em : ((-1 : Int32).toInt) = -1 := by decide
  refine ⟨ev_isL_rv hx rfl, ev_m13, rfl, ev_gK A hp [] 2 (ev_jL_put (idx := 15) A hp hx rfl (ev_gK A hp [] 4 (ev_jL_len (idx := 15) A hp hy rfl (ev_gK A hp [15] 20 ?_))))⟩
  show ev_K w 10 [.ref x, .ref y, .int 0, .int (ev_up m x 1 0 y 1)] (ev_up m x 1 0) t _
  have ey : ∀ j, ev_up m x 1 0 y j = m y j := fun j => ev_up_cell _ hxy _ _ _
  have er : ∀ j, ev_up m x 1 0 (y + 1) j = m (y + 1) j := fun j => ev_up_cell _ d2.symm _ _ _
  have key : ∀ m' : ev_Mem, (m' y 1 = m y 1) → ((m y 1).toInt = -1 → ∀ k j, k ≠ x → k ≠ x + 1 → m' k j = m k j) → (¬ (m y 1).toInt = -1 → Q (.inl none) m' t) →
      ev_J w ev_m13 (ev_nd 13) Q 15 [some (.ref x), some (.ref y)] [] m' t := by
    intro m' k1 k2 k3
    refine ev_gK A hp [] 20 ?_
    refine ev_S4 A hy ?_
    rw [k1]
    by_cases hg : (m y 1).toInt = -1
    · rw [if_pos hg]
      refine And.intro (fun h => (ev_ne10 h).elim) (fun h => ?_)
      refine ev_S11 A hx ?_
      exact hQ _ (by rw [ev_up_same, hg]; decide) (fun k hk => by omega) (fun k j h1 h2 => by rw [ev_up_cell _ h1]; exact k2 hg k j h1 h2)
    · rw [if_neg hg]
      exact And.intro (fun h => k3 hg) (fun h => absurd ev_eq00 h)
  by_cases hg : (m y 1).toInt = -1
  · refine ev_S10z A hx (by rw [ey, hg]; decide) ?_
    exact key _ (ey 1) (fun _ k j h1 h2 => ev_up_cell _ h1 _ _ _) (fun h => absurd hg h)
  · refine ev_S10 (f := 0) A hx hy hxy hc he (by decide) (by rw [ey, e0]; omega) (by rw [ey]; exact hly2) (by rw [ev_up_same]; decide) (by rw [ev_up_same, ey, e0]; omega) (fun k h1 h2 => by rw [er]; rw [ey] at h2; exact hch k h2) (fun m' q1 q2 q3 q4 => ?_)
    refine key m' (by rw [q4 _ _ hxy d1]; exact ey 1) (fun h => absurd h hg) (fun _ => hQ m' ?_ ?_ ?_)
    · rw [q1, ev_up_same, ey, e0]; omega
    · intro k hk
      have h1 := q3 k (by rw [ey, e0]; omega)
      rw [ev_up_same, er, e0] at h1
      simpa using h1
    · intro k j h1 h2
      rw [q4 k j h1 h2, ev_up_cell _ h1]
end EvLetters
