/-! .. and that it suffices -/
section EvWpOk
def ev_inc : ev_cd → Bool
  | a :: b :: l => Nat.blt a.1 b.1 && ev_inc (b :: l)
  | _ => true
theorem ev_inc_lt : ∀ (l : ev_cd) (a : Nat × Instr × Nat × Nat), ev_inc (a :: l) = true → ∀ z ∈ l, a.1 < z.1
  | [], _, _, z, hz => by cases hz
  | b :: l, a, h, z, hz => by
    simp only [ev_inc, Bool.and_eq_true, Nat.blt_eq] at h
    rcases List.mem_cons.mp hz with e | hz
    · rw [e]; exact h.1
    · exact Nat.lt_trans h.1 (ev_inc_lt l b h.2 z hz)
theorem ev_inc_find : ∀ (pre tl : ev_cd) (q : Nat × Instr × Nat × Nat), ev_inc (pre ++ q :: tl) = true → (pre ++ q :: tl).find? (fun z => z.1 == q.1) = some q
  | [], tl, q, _ => by simp
  | a :: pre, tl, q, h => by
    have h1 : a.1 < q.1 := ev_inc_lt _ a h q (by simp)
    have h2 : ev_inc (pre ++ q :: tl) = true := by
      cases hl : pre ++ q :: tl with
      | nil => rfl
      | cons b l =>
        rw [List.cons_append, hl] at h
        simp only [ev_inc, Bool.and_eq_true] at h
        exact h.2
    have h3 : (a.1 == q.1) = false := by simp; omega
    rw [List.cons_append, List.find?_cons, h3]
    exact ev_inc_find pre tl q h2
def ev_srt (M : ev_M) : Bool := ev_inc M.2.2.2.2.2
def ev_suf (M : ev_M) (cd : ev_cd) : Prop := ∃ pre, M.2.2.2.2.2 = pre ++ cd
theorem ev_seek_suf (M : ev_M) (pc : Nat) : ev_suf M (ev_seek M pc) := ⟨_, (List.takeWhile_append_dropWhile).symm⟩
theorem ev_suf_tl {M : ev_M} {q : Nat × Instr × Nat × Nat} {tl : ev_cd} (h : ev_suf M (q :: tl)) : ev_suf M tl := by
  obtain ⟨pre, hp⟩ := h
  exact ⟨pre ++ [q], by rw [hp, List.append_assoc]; rfl⟩
theorem ev_suf_ins {M : ev_M} (hM : ev_srt M = true) {q : Nat × Instr × Nat × Nat} {tl : ev_cd} (h : ev_suf M (q :: tl)) : ev_ins M q.1 = some q.2 := by
  obtain ⟨pre, hp⟩ := h
  unfold ev_srt at hM
  rw [hp] at hM
  unfold ev_ins
  rw [hp, ev_inc_find pre tl q hM]
  rfl
theorem ev_srt_all : ev_prog.all ev_srt = true := by decide +kernel
variable {w : ev_W} {M : ev_M} {d : Nat × Nat} {h0 : ev_H} {pc : Nat} {L : List (Option Value)} {st : List Value} {h : ev_H} {a b : Nat} {i : Instr}
theorem ev_room_of {rest : List Value} (h : ev_room a rest d = true) : ∃ M', ev_prog[a]? = some M' ∧ (ev_nd a).1 + 1 ≤ d.1 ∧ ev_csum rest + (M'.2.2.1 + 11) + (ev_nd a).2 ≤ d.2 := by
  unfold ev_room at h
  split at h
  · rename_i M' hM'
    simp only [Bool.and_eq_true, decide_eq_true_eq] at h
    exact ⟨M', hM', h.1, h.2⟩
  · cases h
theorem ev_shc_of {x c : Nat} (h : ev_shc x = some c) : ∃ fs, ev_shs[x]? = some (.inr (.inr (c, fs))) := by
  unfold ev_shc at h
  split at h
  · rename_i c' fs hx
    cases h
    exact ⟨fs, hx⟩
  · cases h
theorem ev_fld_get (m : ev_Mem) (x : Nat) (fs : List (Option Nat)) {k : Nat} {r : Option Nat} (hr : fs[k]? = some r) : (fs.mapIdx (fun j r => ev_fld m x j r))[k]? = some (ev_fld m x k r) := by
  rw [List.getElem?_mapIdx, hr]; rfl
theorem ev_fld_set (m : ev_Mem) (x : Nat) (fs : List (Option Nat)) {k : Nat} (v : Int32) (hr : fs[k]? = some none) : (fs.mapIdx (fun j r => ev_fld m x j r)).set k (.int v) = fs.mapIdx (fun j r => ev_fld (ev_up m x k v) x j r) := by
  apply List.ext_getElem?
  intro j
  rw [List.getElem?_set, List.getElem?_mapIdx, List.getElem?_mapIdx]
  by_cases hj : k = j
  · subst hj
    have hlt : k < (fs.mapIdx (fun j r => ev_fld m x j r)).length := by rw [List.length_mapIdx]; exact (List.getElem?_eq_some_iff.mp hr).1
    rw [if_pos rfl, if_pos hlt, hr]
    simp [ev_fld, ev_up]
  · rw [if_neg hj]
    cases fs[j]? with
    | none => rfl
    | some r =>
      cases r with
      | none =>
        have e1 : ev_up m x k v x j = m x j := if_neg (fun q => hj q.2.symm)
        simp only [Option.map_some, ev_fld, e1]
      | some y => rfl
/-- a call, with what is known of the callee -/
theorem ev_jcall {Q : ev_QT} (ok : ev_ok w) (hM : ev_dec M = true) (hk : ev_lnks M = true) (hi : ev_ins M pc = some (i, a, b)) {m : ev_Mem} {t : ev_H} {vs rest : List Value} (hs : ev_inv i a b st (ev_hp m t) = some (vs, rest)) (hroom : ev_room a rest d = true) (hh : M.2.2.2.2.1 = []) {Q' : ev_QT}
    (K : ∃ M', ev_prog[a]? = some M' ∧ ev_J w M' (ev_nd a) Q' 0 (ev_L0 M'.2.2.1 vs) [] m t) (k1 : ∀ v m' t', Q' (.inl v) m' t' → ev_J w M d Q (pc + 3) L (v.toList ++ rest) m' t') (k2 : ∀ k m' t', Q' (.inr k) m' t' → Q (.inr k) m' t') : ev_G w M d h0 (ev_lift Q) pc L st (ev_hp m t) := by
  obtain ⟨M', hp, r1, r2⟩ := ev_room_of hroom
  obtain ⟨M2, hp2, hJ⟩ := K
  cases hp.symm.trans hp2
  refine ev_inv_ok ok hM hk hi hs hp (ev_prog_ok M' (List.mem_of_getElem? hp)).1 r1 r2 (hJ _) (fun v h' hq => ?_) (fun k ce h' hq hce => ?_)
  · obtain ⟨m', t', e, hq⟩ := hq
    rw [e]
    exact k1 v m' t' hq _
  · obtain ⟨m', t', e, hq⟩ := hq
    rw [e] at hce ⊢
    exact ev_leaves hce (by rw [hh]; intro q hq; cases hq) ⟨m', t', rfl, k2 k m' t' hq⟩
theorem ev_jw_ok {Q : ev_QT} {sp : Nat → ev_SP} {cut : List Nat} (ok : ev_ok w) (hsp : ∀ x ∈ ev_sp, x.before w.2.2.1 w.2.1 = true) (hs : ∀ k vs m t Q, sp k vs m t Q → ev_K w k vs m t Q) (hM : ev_dec M = true) (hk : ev_lnks M = true) (hr : ev_srt M = true) :
    ∀ (n : Nat) (q : Nat × Instr × Nat × Nat) (tl : ev_cd) (L : List (Option Value)) (st : List Value) (m : ev_Mem) (t : ev_H), ev_suf M (q :: tl) → ev_jw w sp cut M d Q n (q :: tl) L st m t → ev_J w M d Q q.1 L st m t := by
  intro n
  induction n with
  | zero => exact fun _ _ _ _ _ _ _ h => h
  | succ n ih =>
    have nx : ∀ p tl L st m t, ev_suf M tl → ev_nx w cut M d Q (ev_jw w sp cut M d Q n) p tl L st m t → ev_J w M d Q p L st m t := by
      intro p tl L st m t hsf hz
      unfold ev_nx at hz
      split at hz
      · exact hz.elim
      · split at hz
        · rename_i hb _
          rw [← Nat.eq_of_beq_eq_true hb]
          exact hz
        · rename_i hb _
          rw [← Nat.eq_of_beq_eq_true hb]
          exact ih _ _ _ _ _ _ hsf hz
        · exact hz.elim
    intro q tl L st m t hsf hz h0
    obtain ⟨pc, i, a, b⟩ := q
    have hi : ev_ins M pc = some (i, a, b) := ev_suf_ins hr hsf
    have hs0 := ev_suf_tl hsf
    unfold ev_jw ev_jstep at hz
    dsimp only at hz
    cases i
    case iconst n => exact ev_iconst hM hi (nx _ _ _ _ _ _ hs0 hz h0)
    case bipush n => exact ev_bipush hM hi (nx _ _ _ _ _ _ hs0 hz h0)
    case sipush n => exact ev_sipush hM hi (nx _ _ _ _ _ _ hs0 hz h0)
    case iload_n k =>
      dsimp only at hz
      split at hz
      · rename_i x hx
        exact ev_iload_n hM hi hx (nx _ _ _ _ _ _ hs0 hz h0)
      · exact hz.elim
    case iload k =>
      dsimp only at hz
      split at hz
      · rename_i x hx
        exact ev_iload hM hi hx (nx _ _ _ _ _ _ hs0 hz h0)
      · exact hz.elim
    case aload_n k =>
      dsimp only at hz
      split at hz
      · rename_i x hx
        exact ev_aload_n hM hi hx (nx _ _ _ _ _ _ hs0 hz h0)
      · exact hz.elim
    case aload k =>
      dsimp only at hz
      split at hz
      · rename_i x hx
        exact ev_aload hM hi hx (nx _ _ _ _ _ _ hs0 hz h0)
      · exact hz.elim
    case istore_n k =>
      dsimp only at hz
      split at hz
      · split at hz
        · rename_i hb
          exact ev_istore_n hM hi (by simpa using hb) (nx _ _ _ _ _ _ hs0 hz h0)
        · exact hz.elim
      · exact hz.elim
    case istore k =>
      dsimp only at hz
      split at hz
      · split at hz
        · rename_i hb
          exact ev_istore hM hi (by simpa using hb) (nx _ _ _ _ _ _ hs0 hz h0)
        · exact hz.elim
      · exact hz.elim
    case astore_n k =>
      dsimp only at hz
      split at hz
      · split at hz
        · rename_i hb
          exact ev_astore_n hM hi (by simpa using hb) (nx _ _ _ _ _ _ hs0 hz h0)
        · exact hz.elim
      · exact hz.elim
    case astore k =>
      dsimp only at hz
      split at hz
      · split at hz
        · rename_i hb
          exact ev_astore hM hi (by simpa using hb) (nx _ _ _ _ _ _ hs0 hz h0)
        · exact hz.elim
      · exact hz.elim
    case iinc k n =>
      dsimp only at hz
      split at hz
      · rename_i x hx hb
        exact ev_iinc hM hi hx (by simpa using hb) (nx _ _ _ _ _ _ hs0 hz h0)
      · exact hz.elim
    case iadd =>
      dsimp only at hz
      split at hz
      · exact ev_iadd hM hi (nx _ _ _ _ _ _ hs0 hz h0)
      · exact hz.elim
    case isub =>
      dsimp only at hz
      split at hz
      · exact ev_isub hM hi (nx _ _ _ _ _ _ hs0 hz h0)
      · exact hz.elim
    case imul =>
      dsimp only at hz
      split at hz
      · exact ev_imul hM hi (nx _ _ _ _ _ _ hs0 hz h0)
      · exact hz.elim
    case iand =>
      dsimp only at hz
      split at hz
      · exact ev_iand hM hi (nx _ _ _ _ _ _ hs0 hz h0)
      · exact hz.elim
    case ior =>
      dsimp only at hz
      split at hz
      · exact ev_ior hM hi (nx _ _ _ _ _ _ hs0 hz h0)
      · exact hz.elim
    case ishl =>
      dsimp only at hz
      split at hz
      · exact ev_ishl hM hi (nx _ _ _ _ _ _ hs0 hz h0)
      · exact hz.elim
    case ishr =>
      dsimp only at hz
      split at hz
      · exact ev_ishr hM hi (nx _ _ _ _ _ _ hs0 hz h0)
      · exact hz.elim
    case ineg =>
      dsimp only at hz
      split at hz
      · exact ev_ineg hM hi (nx _ _ _ _ _ _ hs0 hz h0)
      · exact hz.elim
    case i2c =>
      dsimp only at hz
      split at hz
      · exact ev_i2c hM hi (nx _ _ _ _ _ _ hs0 hz h0)
      · exact hz.elim
    case dup =>
      dsimp only at hz
      split at hz
      · split at hz
        · rename_i hb
          exact ev_dup hM hi (Nat.eq_of_beq_eq_true hb) (nx _ _ _ _ _ _ hs0 hz h0)
        · exact hz.elim
      · exact hz.elim
    case pop =>
      dsimp only at hz
      split at hz
      · split at hz
        · rename_i hb
          exact ev_pop hM hi (Nat.eq_of_beq_eq_true hb) (nx _ _ _ _ _ _ hs0 hz h0)
        · exact hz.elim
      · exact hz.elim
    case dup_x1 =>
      dsimp only at hz
      split at hz
      · split at hz
        · rename_i hb
          simp only [Bool.and_eq_true] at hb
          exact ev_dup_x1 hM hi (Nat.eq_of_beq_eq_true hb.1) (Nat.eq_of_beq_eq_true hb.2) (nx _ _ _ _ _ _ hs0 hz h0)
        · exact hz.elim
      · exact hz.elim
    case dup2 =>
      dsimp only at hz
      split at hz
      · split at hz
        · rename_i hb
          simp only [Bool.and_eq_true] at hb
          exact ev_dup2 hM hi (Nat.eq_of_beq_eq_true hb.1) (Nat.eq_of_beq_eq_true hb.2) (nx _ _ _ _ _ _ hs0 hz h0)
        · exact hz.elim
      · exact hz.elim
    case goto off =>
      dsimp only at hz
      split at hz
      · rename_i p hp
        exact ev_goto hM hi (ev_tgt_of hp) (nx _ _ _ _ _ _ (ev_seek_suf M _) hz h0)
      all_goals exact False.elim hz
    case ifCond cd off =>
      dsimp only at hz
      split at hz
      · split at hz
        · rename_i p hp
          exact ev_if hM hi (ev_tgt_of hp) (fun q => nx _ _ _ _ _ _ (ev_seek_suf M _) (hz.1 (ev_p0_of q)) h0) (fun q => nx _ _ _ _ _ _ hs0 (hz.2 (ev_n0_of q)) h0)
        all_goals exact False.elim hz
      all_goals exact False.elim hz
    case if_icmp cd off =>
      dsimp only at hz
      split at hz
      · split at hz
        · rename_i p hp
          exact ev_icmp hM hi (ev_tgt_of hp) (fun q => nx _ _ _ _ _ _ (ev_seek_suf M _) (hz.1 (ev_p2_of q)) h0) (fun q => nx _ _ _ _ _ _ hs0 (hz.2 (ev_n2_of q)) h0)
        all_goals exact False.elim hz
      all_goals exact False.elim hz
    case idiv =>
      dsimp only at hz
      split at hz
      · exact ev_idiv hM hi hz.1 (nx _ _ _ _ _ _ hs0 hz.2 h0)
      all_goals exact False.elim hz
    case irem =>
      dsimp only at hz
      split at hz
      · exact ev_irem hM hi hz.1 (nx _ _ _ _ _ _ hs0 hz.2 h0)
      all_goals exact False.elim hz
    case ldc idx =>
      dsimp only at hz
      split at hz
      · rename_i hb
        have hb' := Nat.eq_of_beq_eq_true hb
        subst hb'
        have hl := ev_lnk_at hk hi
        simp only [ev_lnk] at hl
        exact ev_ldc ok hM hi hl (nx _ _ _ _ _ _ hs0 hz h0)
      · exact hz.elim
    case getfield idx =>
      dsimp only at hz
      split at hz
      · split at hz
        · rename_i x st' _ c fs hx
          split at hz
          · rename_i y hd hr
            have hc : c = a := of_decide_eq_true hd
            subst hc
            refine ev_s7_ok ok hM hk hi (F := (pc + 3, L, .ref y :: st', ev_hp m t)) ?_ (nx _ _ _ _ _ _ hs0 hz h0)
            simp only [ev_s7, ev_hp_get m t hx, ev_cell, ev_fld_get m x fs hr, if_true]
            rfl
          · rename_i hd hr
            have hc : c = a := of_decide_eq_true hd
            subst hc
            refine ev_s7_ok ok hM hk hi (F := (pc + 3, L, .int (m x b) :: st', ev_hp m t)) ?_ (nx _ _ _ _ _ _ hs0 hz h0)
            simp only [ev_s7, ev_hp_get m t hx, ev_cell, ev_fld_get m x fs hr, if_true]
            rfl
          all_goals exact False.elim hz
        all_goals exact False.elim hz
      all_goals exact False.elim hz
    case putfield idx =>
      dsimp only at hz
      split at hz
      · split at hz
        · rename_i v x st' _ c fs hx
          split at hz
          · rename_i hd hr
            have hc : c = a := of_decide_eq_true hd
            subst hc
            have hb : b < (fs.mapIdx (fun j r => ev_fld m x j r)).length := by rw [List.length_mapIdx]; exact (List.getElem?_eq_some_iff.mp hr).1
            have key : ∀ (hf : ev_fitv (ev_fty ((ev_cl[c]?).getD ("", fun _ => ("", "", "", false), 0)) b) (.int v) = true) (k : ev_nx w cut M d Q (ev_jw w sp cut M d Q n) (pc + 3) tl L st' (ev_up m x b v) t), ev_G w M d h0 (ev_lift Q) pc L (.int v :: .ref x :: st') (ev_hp m t) := by
              intro hf k
              refine ev_s7_ok ok hM hk hi (F := (pc + 3, L, st', ev_hp (ev_up m x b v) t)) ?_ (nx _ _ _ _ _ _ hs0 k h0)
              simp only [ev_s7, ev_hp_get m t hx, ev_cell, hf, hb, and_self, if_true, ev_fld_set m x fs v hr]
              rw [ev_hp_set m t (j := b) (v := v) hx (y := .inr (c, fs.mapIdx (fun j r => ev_fld (ev_up m x b v) x j r))) rfl]
            split at hz
            · rename_i hty
              exact key (by rw [hty]; rfl) hz
            · rename_i hty
              exact key (by rw [hty]; rcases hz.1 with q | q <;> subst q <;> rfl) hz.2
            all_goals exact False.elim hz
          all_goals exact False.elim hz
        all_goals exact False.elim hz
      all_goals exact False.elim hz
    case iaload =>
      dsimp only at hz
      split at hz
      · split at hz
        · rename_i j x st' _ l hx
          refine ev_s8_ok ok hM hi (F := (pc + 1, L, .int (m x j.toNatClampNeg) :: st', ev_hp m t)) ?_ (nx _ _ _ _ _ _ hs0 hz.2 h0)
          simp only [ev_s8, ev_hp_get m t hx, ev_cell, ev_in_of hz.1, if_true]
        all_goals exact False.elim hz
      all_goals exact False.elim hz
    case caload =>
      dsimp only at hz
      split at hz
      · split at hz
        · rename_i j x st' _ l hx
          refine ev_s8_ok ok hM hi (F := (pc + 1, L, .int (m x j.toNatClampNeg) :: st', ev_hp m t)) ?_ (nx _ _ _ _ _ _ hs0 hz.2 h0)
          simp only [ev_s8, ev_hp_get m t hx, ev_cell, ev_in_of hz.1, if_true]
        all_goals exact False.elim hz
      all_goals exact False.elim hz
    case aaload =>
      dsimp only at hz
      split at hz
      · split at hz
        · rename_i j x st' _ l f g hx
          refine ev_s8_ok ok hM hi (F := (pc + 1, L, .ref (f + g * j.toNatClampNeg) :: st', ev_hp m t)) ?_ (nx _ _ _ _ _ _ hs0 hz.2 h0)
          simp only [ev_s8, ev_hp_get m t hx, ev_cell, ev_in_of hz.1, if_true]
          rfl
        all_goals exact False.elim hz
      all_goals exact False.elim hz
    case iastore =>
      dsimp only at hz
      split at hz
      · split at hz
        · rename_i v j x st' _ l hx
          refine ev_s8_ok ok hM hi (F := (pc + 1, L, st', ev_hp (ev_up m x j.toNatClampNeg v) t)) ?_ (nx _ _ _ _ _ _ hs0 hz.2 h0)
          simp only [ev_s8, ev_hp_get m t hx, ev_cell, ev_in_of hz.1, if_true, ev_up_arr]
          rw [ev_hp_set m t (j := j.toNatClampNeg) (v := v) hx (y := .inl (0, l, .inl (ev_up m x j.toNatClampNeg v x))) rfl]
        all_goals exact False.elim hz
      all_goals exact False.elim hz
    case castore =>
      dsimp only at hz
      split at hz
      · split at hz
        · rename_i v j x st' _ l hx
          refine ev_s8_ok ok hM hi (F := (pc + 1, L, st', ev_hp (ev_up m x j.toNatClampNeg (vp_nar .char v)) t)) ?_ (nx _ _ _ _ _ _ hs0 hz.2 h0)
          simp only [ev_s8, ev_hp_get m t hx, ev_cell, ev_in_of hz.1, if_true, ev_up_arr]
          rw [ev_hp_set m t (j := j.toNatClampNeg) (v := vp_nar .char v) hx (y := .inl (1, l, .inl (ev_up m x j.toNatClampNeg (vp_nar .char v) x))) rfl]
        all_goals exact False.elim hz
      all_goals exact False.elim hz
    case arraylength =>
      dsimp only at hz
      split at hz
      · split at hz
        · rename_i x st' _ ty l hx
          split at hz
          · rename_i hd
            refine ev_s8_ok ok hM hi (F := (pc + 1, L, .int (Int32.ofNat l) :: st', ev_hp m t)) ?_ (nx _ _ _ _ _ _ hs0 hz h0)
            have hd' : ty < 4 := of_decide_eq_true hd
            simp only [ev_s8, ev_hp_get m t hx, ev_cell, hd', if_true]
          all_goals exact False.elim hz
        · rename_i x st' _ l fg hx
          refine ev_s8_ok ok hM hi (F := (pc + 1, L, .int (Int32.ofNat l) :: st', ev_hp m t)) ?_ (nx _ _ _ _ _ _ hs0 hz h0)
          obtain ⟨f, g⟩ := fg
          simp only [ev_s8, ev_hp_get m t hx, ev_cell]
          rfl
        all_goals exact False.elim hz
      all_goals exact False.elim hz
    case ireturn =>
      dsimp only at hz
      split at hz
      · split at hz
        · rename_i hr
          exact ev_ireturn hM hi hr rfl ⟨m, t, rfl, hz⟩
        · rename_i ty hne hr
          exact ev_ireturn hM hi hr hz.1 ⟨m, t, rfl, hz.2⟩
        all_goals exact False.elim hz
      all_goals exact False.elim hz
    case return_ =>
      dsimp only at hz
      split at hz
      · split at hz
        · rename_i hr
          exact ev_return hM hi hr ⟨m, t, rfl, hz⟩
        all_goals exact False.elim hz
      all_goals exact False.elim hz
    case areturn =>
      dsimp only at hz
      split at hz
      · split at hz
        · rename_i hr
          exact ev_areturn hM hi hr (Or.inl ⟨_, rfl⟩) ⟨m, t, rfl, hz⟩
        · rename_i hr
          exact ev_areturn hM hi hr (Or.inr ⟨_, rfl⟩) ⟨m, t, rfl, hz⟩
        all_goals exact False.elim hz
      all_goals exact False.elim hz
    case new idx =>
      dsimp only at hz
      split at hz
      · rename_i hc
        simp only [Bool.and_eq_true, Bool.not_eq_true', decide_eq_false_iff_not, decide_eq_true_eq] at hc
        obtain ⟨⟨c1, c2⟩, c3⟩ := hc
        obtain ⟨⟨r1, r2⟩, hQ⟩ := hz
        refine ev_fin_ok ok hsp hM hk hi (r := .inr (307 + t.length)) (h' := ev_hp m (t ++ [.inr (a, [])])) ?_ ⟨m, _, rfl, hQ⟩
        have g1 : (ev_hp m t).length + 1 ≤ (ev_cpw w).1 := by rw [ev_hp_len]; exact r1
        have g2 : ev_cost (ev_hp m t) + 6 ≤ (ev_cpw w).2 := by rw [ev_cost_hp]; exact r2
        simp only [ev_fin]
        rw [if_pos ⟨c1, g1, g2, c2, c3⟩, ev_hp_len]
        simp only [ev_hp, List.append_assoc]
      all_goals exact False.elim hz
    case invokestatic idx =>
      dsimp only at hz
      split at hz
      · rename_i hc hh
        simp only [Bool.and_eq_true, decide_eq_true_eq] at hc
        obtain ⟨⟨c1, c2⟩, c3⟩ := hc
        obtain ⟨-, hK⟩ := hs _ _ _ _ _ hz
        exact ev_jcall ok hM hk hi (by simp only [ev_inv]; rw [if_pos ⟨c1, c2⟩]) c3 hh hK (fun v m' t' hq => nx _ _ _ _ _ _ hs0 hq) (fun k m' t' hq => hq)
      all_goals exact False.elim hz
    case invokevirtual idx =>
      dsimp only at hz
      split at hz
      · rename_i x rest hst hh
        split at hz
        · rename_i hc
          simp only [Bool.and_eq_true, Bool.not_eq_true', decide_eq_true_eq] at hc
          obtain ⟨⟨⟨c1, c2⟩, c3⟩, c4⟩ := hc
          obtain ⟨hr, hK⟩ := hs _ _ _ _ _ hz
          rcases hr with hr | ⟨x', us, e1, hr⟩
          · rw [c4] at hr; cases hr
          cases e1
          obtain ⟨M', hM', -, -⟩ := ev_room_of c3
          cases hmc : ev_mcs[a]? with
          | none =>
            have h1 : a < ev_prog.length := (List.getElem?_eq_some_iff.mp hM').1
            have h2 : ev_mcs.length = ev_prog.length := by decide +kernel
            rw [List.getElem?_eq_none_iff] at hmc
            omega
          | some c =>
            rw [hmc] at hr
            obtain ⟨fs, hx⟩ := ev_shc_of hr
            refine ev_jcall ok hM hk hi (vs := .ref x :: (st.take b).reverse) (rest := rest) ?_ c3 hh hK (fun v m' t' hq => nx _ _ _ _ _ _ hs0 hq) (fun k m' t' hq => hq)
            simp only [ev_inv, hst, ev_hp_get m t hx, ev_cell, hmc]
            rw [if_pos ⟨trivial, c1, c2⟩]
        all_goals exact False.elim hz
      all_goals exact False.elim hz
    all_goals exact False.elim hz
theorem ev_jv_ok {Q : ev_QT} {sp : Nat → ev_SP} {cut : List Nat} (ok : ev_ok w) (hsp : ∀ x ∈ ev_sp, x.before w.2.2.1 w.2.1 = true) (hs : ∀ k vs m t Q, sp k vs m t Q → ev_K w k vs m t Q) (hM : ev_dec M = true) (hk : ev_lnks M = true) (hr : ev_srt M = true)
    (n pc : Nat) (L : List (Option Value)) (st : List Value) (m : ev_Mem) (t : ev_H) (hz : ev_jv w sp cut M d Q n pc L st m t) : ev_J w M d Q pc L st m t := by
  unfold ev_jv at hz
  have hsf := ev_seek_suf M pc
  cases hc : ev_seek M pc with
  | nil =>
    rw [hc] at hz
    cases n with
    | zero => exact hz.elim
    | succ n => exact hz.elim
  | cons q tl =>
    rw [hc] at hz hsf
    have h1 : q.1 = pc := by
      have h2 : (ev_seek M pc).head? = some q := by rw [hc]; rfl
      have h3 := List.head?_dropWhile_not (fun q : Nat × Instr × Nat × Nat => !(q.1 == pc)) M.2.2.2.2.2
      unfold ev_seek at h2
      rw [h2] at h3
      simpa using h3
    have h2 := ev_jw_ok ok hsp hs hM hk hr n q tl L st m t hsf hz
    rw [h1] at h2
    exact h2
end EvWpOk
