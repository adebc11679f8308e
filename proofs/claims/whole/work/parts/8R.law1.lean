/-! the listings of the law: more of the machine's instructions -/
section EvLaw1
variable {w : ev_W} {M : ev_M} {d : Nat × Nat} {h0 : ev_H} {pc : Nat} {L : List (Option Value)} {st : List Value} {h : ev_H} {a b : Nat} {i : Instr}
theorem ev_jstep_ok {Q : ev_QT} {sp : Nat → ev_SP} {cut : List Nat} {go : ev_cd → List (Option Value) → List Value → ev_Mem → ev_H → Prop} (ok : ev_ok w) (hsp : ∀ x ∈ ev_sp, x.before w.2.2.1 w.2.1 = true) (hs : ∀ k vs m t Q, sp k vs m t Q → ev_K w k vs m t Q) (hM : ev_dec M = true) (hk : ev_lnks M = true) (hr : ev_srt M = true)
    (hgo : ∀ (q : Nat × Instr × Nat × Nat) (tl : ev_cd) (L : List (Option Value)) (st : List Value) (m : ev_Mem) (t : ev_H), ev_suf M (q :: tl) → go (q :: tl) L st m t → ev_J w M d Q q.1 L st m t) :
    ∀ (q : Nat × Instr × Nat × Nat) (tl : ev_cd) (L : List (Option Value)) (st : List Value) (m : ev_Mem) (t : ev_H), ev_suf M (q :: tl) → ev_jstep w sp cut M d Q go (q :: tl) L st m t → ev_J w M d Q q.1 L st m t := by
  have nx : ∀ p tl L st m t, ev_suf M tl → ev_nx w cut M d Q go p tl L st m t → ev_J w M d Q p L st m t := by
    intro p tl L st m t hsf hz
    unfold ev_nx at hz
    split at hz
    · exact hz.elim
    · split at hz
      · rename_i hb _
        rw [← Nat.eq_of_beq_eq_true hb]
        exact hz
      · rename_i hb _
        rw [← Nat.eq_of_beq_eq_true hb]
        exact hgo _ _ _ _ _ _ hsf hz
      · exact hz.elim
  intro q tl L st m t hsf hz h0
  obtain ⟨pc, i, a, b⟩ := q
  have hi : ev_ins M pc = some (i, a, b) := ev_suf_ins hr hsf
  have hs0 := ev_suf_tl hsf
  unfold ev_jstep at hz
  dsimp only at hz
  cases i
  case iconst n => exact ev_iconst hM hi (nx _ _ _ _ _ _ hs0 hz h0)
  case bipush n => exact ev_bipush hM hi (nx _ _ _ _ _ _ hs0 hz h0)
  case sipush n => exact ev_sipush hM hi (nx _ _ _ _ _ _ hs0 hz h0)
  case iload_n k =>
    dsimp only at hz
    split at hz
    · rename_i x hx
      exact ev_iload_n hM hi hx (nx _ _ _ _ _ _ hs0 hz h0)
    · exact hz.elim
  case iload k =>
    dsimp only at hz
    split at hz
    · rename_i x hx
      exact ev_iload hM hi hx (nx _ _ _ _ _ _ hs0 hz h0)
    · exact hz.elim
  case aload_n k =>
    dsimp only at hz
    split at hz
    · rename_i x hx
      exact ev_aload_n hM hi hx (nx _ _ _ _ _ _ hs0 hz h0)
    · exact hz.elim
  case aload k =>
    dsimp only at hz
    split at hz
    · rename_i x hx
      exact ev_aload hM hi hx (nx _ _ _ _ _ _ hs0 hz h0)
    · exact hz.elim
  case istore_n k =>
    dsimp only at hz
    split at hz
    · split at hz
      · rename_i hb
        exact ev_istore_n hM hi (by simpa using hb) (nx _ _ _ _ _ _ hs0 hz h0)
      · exact hz.elim
    · exact hz.elim
  case istore k =>
    dsimp only at hz
    split at hz
    · split at hz
      · rename_i hb
        exact ev_istore hM hi (by simpa using hb) (nx _ _ _ _ _ _ hs0 hz h0)
      · exact hz.elim
    · exact hz.elim
  case astore_n k =>
    dsimp only at hz
    split at hz
    · split at hz
      · rename_i hb
        exact ev_astore_n hM hi (by simpa using hb) (nx _ _ _ _ _ _ hs0 hz h0)
      · exact hz.elim
    · exact hz.elim
  case astore k =>
    dsimp only at hz
    split at hz
    · split at hz
      · rename_i hb
        exact ev_astore hM hi (by simpa using hb) (nx _ _ _ _ _ _ hs0 hz h0)
      · exact hz.elim
    · exact hz.elim
  case iinc k n =>
    dsimp only at hz
    split at hz
    · rename_i x hx hb
      exact ev_iinc hM hi hx (by simpa using hb) (nx _ _ _ _ _ _ hs0 hz h0)
    · exact hz.elim
  case iadd =>
    dsimp only at hz
    split at hz
    · exact ev_iadd hM hi (nx _ _ _ _ _ _ hs0 hz h0)
    · exact hz.elim
  case isub =>
    dsimp only at hz
    split at hz
    · exact ev_isub hM hi (nx _ _ _ _ _ _ hs0 hz h0)
    · exact hz.elim
  case imul =>
    dsimp only at hz
    split at hz
    · exact ev_imul hM hi (nx _ _ _ _ _ _ hs0 hz h0)
    · exact hz.elim
  case iand =>
    dsimp only at hz
    split at hz
    · exact ev_iand hM hi (nx _ _ _ _ _ _ hs0 hz h0)
    · exact hz.elim
  case ior =>
    dsimp only at hz
    split at hz
    · exact ev_ior hM hi (nx _ _ _ _ _ _ hs0 hz h0)
    · exact hz.elim
  case ishl =>
    dsimp only at hz
    split at hz
    · exact ev_ishl hM hi (nx _ _ _ _ _ _ hs0 hz h0)
    · exact hz.elim
  case ishr =>
    dsimp only at hz
    split at hz
    · exact ev_ishr hM hi (nx _ _ _ _ _ _ hs0 hz h0)
    · exact hz.elim
  case ineg =>
    dsimp only at hz
    split at hz
    · exact ev_ineg hM hi (nx _ _ _ _ _ _ hs0 hz h0)
    · exact hz.elim
  case i2c =>
    dsimp only at hz
    split at hz
    · exact ev_i2c hM hi (nx _ _ _ _ _ _ hs0 hz h0)
    · exact hz.elim
  case dup =>
    dsimp only at hz
    split at hz
    · split at hz
      · rename_i hb
        exact ev_dup hM hi (Nat.eq_of_beq_eq_true hb) (nx _ _ _ _ _ _ hs0 hz h0)
      · exact hz.elim
    · exact hz.elim
  case pop =>
    dsimp only at hz
    split at hz
    · split at hz
      · rename_i hb
        exact ev_pop hM hi (Nat.eq_of_beq_eq_true hb) (nx _ _ _ _ _ _ hs0 hz h0)
      · exact hz.elim
    · exact hz.elim
  case dup_x1 =>
    dsimp only at hz
    split at hz
    · split at hz
      · rename_i hb
        simp only [Bool.and_eq_true] at hb
        exact ev_dup_x1 hM hi (Nat.eq_of_beq_eq_true hb.1) (Nat.eq_of_beq_eq_true hb.2) (nx _ _ _ _ _ _ hs0 hz h0)
      · exact hz.elim
    · exact hz.elim
  case dup2 =>
    dsimp only at hz
    split at hz
    · split at hz
      · rename_i hb
        simp only [Bool.and_eq_true] at hb
        exact ev_dup2 hM hi (Nat.eq_of_beq_eq_true hb.1) (Nat.eq_of_beq_eq_true hb.2) (nx _ _ _ _ _ _ hs0 hz h0)
      · exact hz.elim
    · exact hz.elim
  case goto off =>
    dsimp only at hz
    split at hz
    · rename_i p hp
      exact ev_goto hM hi (ev_tgt_of hp) (nx _ _ _ _ _ _ (ev_seek_suf M _) hz h0)
    all_goals exact False.elim hz
  case ifCond cd off =>
    dsimp only at hz
    split at hz
    · split at hz
      · rename_i p hp
        exact ev_if hM hi (ev_tgt_of hp) (fun q => nx _ _ _ _ _ _ (ev_seek_suf M _) (hz.1 (ev_p0_of q)) h0) (fun q => nx _ _ _ _ _ _ hs0 (hz.2 (ev_n0_of q)) h0)
      all_goals exact False.elim hz
    all_goals exact False.elim hz
  case if_icmp cd off =>
    dsimp only at hz
    split at hz
    · split at hz
      · rename_i p hp
        exact ev_icmp hM hi (ev_tgt_of hp) (fun q => nx _ _ _ _ _ _ (ev_seek_suf M _) (hz.1 (ev_p2_of q)) h0) (fun q => nx _ _ _ _ _ _ hs0 (hz.2 (ev_n2_of q)) h0)
      all_goals exact False.elim hz
    all_goals exact False.elim hz
  case idiv =>
    dsimp only at hz
    split at hz
    · exact ev_idiv hM hi hz.1 (nx _ _ _ _ _ _ hs0 hz.2 h0)
    all_goals exact False.elim hz
  case irem =>
    dsimp only at hz
    split at hz
    · exact ev_irem hM hi hz.1 (nx _ _ _ _ _ _ hs0 hz.2 h0)
    all_goals exact False.elim hz
  case ldc idx =>
    dsimp only at hz
    split at hz
    · rename_i hb
      have hb' := Nat.eq_of_beq_eq_true hb
      subst hb'
      have hl := ev_lnk_at hk hi
      simp only [ev_lnk] at hl
      exact ev_ldc ok hM hi hl (nx _ _ _ _ _ _ hs0 hz h0)
    · exact hz.elim
  case getfield idx =>
    dsimp only at hz
    split at hz
    · split at hz
      · rename_i x st' _ c fs hx
        split at hz
        · rename_i y hd hr
          have hc : c = a := of_decide_eq_true hd
          subst hc
          refine ev_s7_ok ok hM hk hi (F := (pc + 3, L, .ref y :: st', ev_hp m t)) ?_ (nx _ _ _ _ _ _ hs0 hz h0)
          simp only [ev_s7, ev_hp_get m t hx, ev_cell, ev_fld_get m x fs hr, if_true]
          rfl
        · rename_i hd hr
          have hc : c = a := of_decide_eq_true hd
          subst hc
          refine ev_s7_ok ok hM hk hi (F := (pc + 3, L, .int (m x b) :: st', ev_hp m t)) ?_ (nx _ _ _ _ _ _ hs0 hz h0)
          simp only [ev_s7, ev_hp_get m t hx, ev_cell, ev_fld_get m x fs hr, if_true]
          rfl
        all_goals exact False.elim hz
      all_goals exact False.elim hz
    all_goals exact False.elim hz
  case putfield idx =>
    dsimp only at hz
    split at hz
    · split at hz
      · rename_i v x st' _ c fs hx
        split at hz
        · rename_i hd hr
          have hc : c = a := of_decide_eq_true hd
          subst hc
          have hb : b < (fs.mapIdx (fun j r => ev_fld m x j r)).length := by rw [List.length_mapIdx]; exact (List.getElem?_eq_some_iff.mp hr).1
          have key : ∀ (hf : ev_fitv (ev_fty ((ev_cl[c]?).getD ("", fun _ => ("", "", "", false), 0)) b) (.int v) = true) (k : ev_nx w cut M d Q go (pc + 3) tl L st' (ev_up m x b v) t), ev_G w M d h0 (ev_lift Q) pc L (.int v :: .ref x :: st') (ev_hp m t) := by
            intro hf k
            refine ev_s7_ok ok hM hk hi (F := (pc + 3, L, st', ev_hp (ev_up m x b v) t)) ?_ (nx _ _ _ _ _ _ hs0 k h0)
            simp only [ev_s7, ev_hp_get m t hx, ev_cell, hf, hb, and_self, if_true, ev_fld_set m x fs v hr]
            rw [ev_hp_set m t (j := b) (v := v) hx (y := .inr (c, fs.mapIdx (fun j r => ev_fld (ev_up m x b v) x j r))) rfl]
          split at hz
          · rename_i hty
            exact key (by rw [hty]; rfl) hz
          · rename_i hty
            exact key (by rw [hty]; rcases hz.1 with q | q <;> subst q <;> rfl) hz.2
          all_goals exact False.elim hz
        all_goals exact False.elim hz
      all_goals exact False.elim hz
    all_goals exact False.elim hz
  case iaload =>
    dsimp only at hz
    split at hz
    · split at hz
      · rename_i j x st' _ l hx
        refine ev_s8_ok ok hM hi (F := (pc + 1, L, .int (m x j.toNatClampNeg) :: st', ev_hp m t)) ?_ (nx _ _ _ _ _ _ hs0 hz.2 h0)
        simp only [ev_s8, ev_hp_get m t hx, ev_cell, ev_in_of hz.1, if_true]
      all_goals exact False.elim hz
    all_goals exact False.elim hz
  case caload =>
    dsimp only at hz
    split at hz
    · split at hz
      · rename_i j x st' _ l hx
        refine ev_s8_ok ok hM hi (F := (pc + 1, L, .int (m x j.toNatClampNeg) :: st', ev_hp m t)) ?_ (nx _ _ _ _ _ _ hs0 hz.2 h0)
        simp only [ev_s8, ev_hp_get m t hx, ev_cell, ev_in_of hz.1, if_true]
      all_goals exact False.elim hz
    all_goals exact False.elim hz
  case aaload =>
    dsimp only at hz
    split at hz
    · split at hz
      · rename_i j x st' _ l f g hx
        refine ev_s8_ok ok hM hi (F := (pc + 1, L, .ref (f + g * j.toNatClampNeg) :: st', ev_hp m t)) ?_ (nx _ _ _ _ _ _ hs0 hz.2 h0)
        simp only [ev_s8, ev_hp_get m t hx, ev_cell, ev_in_of hz.1, if_true]
        rfl
      all_goals exact False.elim hz
    all_goals exact False.elim hz
  case iastore =>
    dsimp only at hz
    split at hz
    · split at hz
      · rename_i v j x st' _ l hx
        refine ev_s8_ok ok hM hi (F := (pc + 1, L, st', ev_hp (ev_up m x j.toNatClampNeg v) t)) ?_ (nx _ _ _ _ _ _ hs0 hz.2 h0)
        simp only [ev_s8, ev_hp_get m t hx, ev_cell, ev_in_of hz.1, if_true, ev_up_arr]
        rw [ev_hp_set m t (j := j.toNatClampNeg) (v := v) hx (y := .inl (0, l, .inl (ev_up m x j.toNatClampNeg v x))) rfl]
      all_goals exact False.elim hz
    all_goals exact False.elim hz
  case castore =>
    dsimp only at hz
    split at hz
    · split at hz
      · rename_i v j x st' _ l hx
        refine ev_s8_ok ok hM hi (F := (pc + 1, L, st', ev_hp (ev_up m x j.toNatClampNeg (vp_nar .char v)) t)) ?_ (nx _ _ _ _ _ _ hs0 hz.2 h0)
        simp only [ev_s8, ev_hp_get m t hx, ev_cell, ev_in_of hz.1, if_true, ev_up_arr]
        rw [ev_hp_set m t (j := j.toNatClampNeg) (v := vp_nar .char v) hx (y := .inl (1, l, .inl (ev_up m x j.toNatClampNeg (vp_nar .char v) x))) rfl]
      all_goals exact False.elim hz
    all_goals exact False.elim hz
  case arraylength =>
    dsimp only at hz
    split at hz
    · split at hz
      · rename_i x st' _ ty l hx
        split at hz
        · rename_i hd
          refine ev_s8_ok ok hM hi (F := (pc + 1, L, .int (Int32.ofNat l) :: st', ev_hp m t)) ?_ (nx _ _ _ _ _ _ hs0 hz h0)
          have hd' : ty < 4 := of_decide_eq_true hd
          simp only [ev_s8, ev_hp_get m t hx, ev_cell, hd', if_true]
        all_goals exact False.elim hz
      · rename_i x st' _ l fg hx
        refine ev_s8_ok ok hM hi (F := (pc + 1, L, .int (Int32.ofNat l) :: st', ev_hp m t)) ?_ (nx _ _ _ _ _ _ hs0 hz h0)
        obtain ⟨f, g⟩ := fg
        simp only [ev_s8, ev_hp_get m t hx, ev_cell]
        rfl
      all_goals exact False.elim hz
    all_goals exact False.elim hz
  case ireturn =>
    dsimp only at hz
    split at hz
    · split at hz
      · rename_i hr
        exact ev_ireturn hM hi hr rfl ⟨m, t, rfl, hz⟩
      · rename_i ty hne hr
        exact ev_ireturn hM hi hr hz.1 ⟨m, t, rfl, hz.2⟩
      all_goals exact False.elim hz
    all_goals exact False.elim hz
  case return_ =>
    dsimp only at hz
    split at hz
    · split at hz
      · rename_i hr
        exact ev_return hM hi hr ⟨m, t, rfl, hz⟩
      all_goals exact False.elim hz
    all_goals exact False.elim hz
  case areturn =>
    dsimp only at hz
    split at hz
    · split at hz
      · rename_i hr
        exact ev_areturn hM hi hr (Or.inl ⟨_, rfl⟩) ⟨m, t, rfl, hz⟩
      · rename_i hr
        exact ev_areturn hM hi hr (Or.inr ⟨_, rfl⟩) ⟨m, t, rfl, hz⟩
      all_goals exact False.elim hz
    all_goals exact False.elim hz
  case new idx =>
    dsimp only at hz
    split at hz
    · rename_i hc
      simp only [Bool.and_eq_true, Bool.not_eq_true', decide_eq_false_iff_not, decide_eq_true_eq] at hc
      obtain ⟨⟨c1, c2⟩, c3⟩ := hc
      obtain ⟨⟨r1, r2⟩, hQ⟩ := hz
      refine ev_fin_ok ok hsp hM hk hi (r := .inr (307 + t.length)) (h' := ev_hp m (t ++ [.inr (a, [])])) ?_ ⟨m, _, rfl, hQ⟩
      have g1 : (ev_hp m t).length + 1 ≤ (ev_cpw w).1 := by rw [ev_hp_len]; exact r1
      have g2 : ev_cost (ev_hp m t) + 6 ≤ (ev_cpw w).2 := by rw [ev_cost_hp]; exact r2
      simp only [ev_fin]
      rw [if_pos ⟨c1, g1, g2, c2, c3⟩, ev_hp_len]
      simp only [ev_hp, List.append_assoc]
    all_goals exact False.elim hz
  case invokestatic idx =>
    dsimp only at hz
    split at hz
    · rename_i hc hh
      simp only [Bool.and_eq_true, decide_eq_true_eq] at hc
      obtain ⟨⟨c1, c2⟩, c3⟩ := hc
      obtain ⟨-, hK⟩ := hs _ _ _ _ _ hz
      exact ev_jcall ok hM hk hi (by simp only [ev_inv]; rw [if_pos ⟨c1, c2⟩]) c3 hh hK (fun v m' t' hq => nx _ _ _ _ _ _ hs0 hq) (fun k m' t' hq => hq)
    all_goals exact False.elim hz
  case invokevirtual idx =>
    dsimp only at hz
    split at hz
    · rename_i x rest hst hh
      split at hz
      · rename_i hc
        simp only [Bool.and_eq_true, Bool.not_eq_true', decide_eq_true_eq] at hc
        obtain ⟨⟨⟨c1, c2⟩, c3⟩, c4⟩ := hc
        obtain ⟨hr, hK⟩ := hs _ _ _ _ _ hz
        rcases hr with hr | ⟨x', us, e1, hr⟩
        · rw [c4] at hr; cases hr
        cases e1
        obtain ⟨M', hM', -, -⟩ := ev_room_of c3
        cases hmc : ev_mcs[a]? with
        | none =>
          have h1 : a < ev_prog.length := (List.getElem?_eq_some_iff.mp hM').1
          have h2 : ev_mcs.length = ev_prog.length := by decide +kernel
          rw [List.getElem?_eq_none_iff] at hmc
          omega
        | some c =>
          rw [hmc] at hr
          obtain ⟨fs, hx⟩ := ev_shc_of hr
          refine ev_jcall ok hM hk hi (vs := .ref x :: (st.take b).reverse) (rest := rest) ?_ c3 hh hK (fun v m' t' hq => nx _ _ _ _ _ _ hs0 hq) (fun k m' t' hq => hq)
          simp only [ev_inv, hst, ev_hp_get m t hx, ev_cell, hmc]
          rw [if_pos ⟨trivial, c1, c2⟩]
      all_goals exact False.elim hz
    all_goals exact False.elim hz
  all_goals exact False.elim hz
/-- the law's long[1], and what else it reads -/
def ev_lc (f : Nat → Int64) : ev_E := .inl (2, 1, .inr (.inl f))
def ev_lstep (w : ev_W) (sp : Nat → ev_SP) (cut : List Nat) (M : ev_M) (d : Nat × Nat) (Q : ev_QT) (go : ev_cd → List (Option Value) → List Value → ev_Mem → ev_H → Prop) (cd : ev_cd) (L : List (Option Value)) (st : List Value) (m : ev_Mem) (t : ev_H) : Prop := match cd with
  | [] => False
  | (pc, i, a, b) :: tl => match i with
    | .aload_n k => (match L[(k : Nat)]? with
      | some (some (.ref x)) => ev_nx w cut M d Q go (pc + 1) tl L (.ref x :: st) m t
      | some (some (.retAddr x)) => ev_nx w cut M d Q go (pc + 1) tl L (.retAddr x :: st) m t
      | _ => False)
    | .iaload => (match st with
      | .int j :: .retAddr x :: st => ev_in j w.2.2.2.2.2.2.2.2.1 ∧ ev_nx w cut M d Q go (pc + 1) tl L (.int (w.2.2.2.2.2.2.2.2.2 j.toNatClampNeg) :: st) m t
      | _ => False)
    | .arraylength => (match st with
      | .retAddr x :: st => ev_nx w cut M d Q go (pc + 1) tl L (.int (Int32.ofNat w.2.2.2.2.2.2.2.2.1) :: st) m t
      | _ => False)
    | .i2l => (match st with
      | .int x :: st => ev_nx w cut M d Q go (pc + 1) tl L (.long x.toInt64 :: st) m t
      | _ => False)
    | .lcmp => (match st with
      | .long y :: .long x :: st => ev_nx w cut M d Q go (pc + 1) tl L (.int (lg_cmp x y) :: st) m t
      | _ => False)
    | .laload => (match st, t with
      | .int j :: .ref x :: st, .inl (2, 1, .inr (.inl f)) :: ths => x = 307 ∧ ev_in j 1 ∧ ev_nx w cut M d Q go (pc + 1) tl L (.long (f j.toNatClampNeg) :: st) m (ev_lc f :: ths)
      | _, _ => False)
    | .lastore => (match st, t with
      | .long v :: .int j :: .ref x :: st, .inl (2, 1, .inr (.inl f)) :: ths => x = 307 ∧ ev_in j 1 ∧ ev_nx w cut M d Q go (pc + 1) tl L st m (ev_lc (vp_updL f j.toNatClampNeg v) :: ths)
      | _, _ => False)
    | _ => ev_jstep w sp cut M d Q go ((pc, i, a, b) :: tl) L st m t
def ev_lw (w : ev_W) (sp : Nat → ev_SP) (cut : List Nat) (M : ev_M) (d : Nat × Nat) (Q : ev_QT) : Nat → ev_cd → List (Option Value) → List Value → ev_Mem → ev_H → Prop
  | 0 => fun cd L st m t => match cd with
    | [] => False
    | q :: _ => ev_J w M d Q q.1 L st m t
  | n + 1 => ev_lstep w sp cut M d Q (ev_lw w sp cut M d Q n)
theorem ev_vpin {j : Int32} {n : Nat} (h : ev_in j n) : vp_in j n := by
  obtain ⟨h1, h2⟩ := h
  have e1 : j.toNatClampNeg = j.toInt.toNat := rfl
  intro q
  rcases q with q | q
  · rw [Int32.lt_iff_toInt_lt] at q
    have e2 : (0 : Int32).toInt = 0 := by decide
    omega
  · omega
theorem ev_hp_307 (m : ev_Mem) (x : ev_E) (ths : ev_H) : (ev_hp m (x :: ths))[307]? = some x := by
  unfold ev_hp
  rw [List.getElem?_append_right (by rw [ev_st_len]; exact Nat.le_refl _), ev_st_len]
  rfl
theorem ev_hp_s307 (m : ev_Mem) (x y : ev_E) (ths : ev_H) : (ev_hp m (x :: ths)).set 307 y = ev_hp m (y :: ths) := by
  unfold ev_hp
  rw [List.set_append_right _ _ (by rw [ev_st_len]; exact Nat.le_refl _), ev_st_len]
  rfl
theorem ev_lw_ok {Q : ev_QT} {sp : Nat → ev_SP} {cut : List Nat} (ok : ev_ok w) (hsp : ∀ x ∈ ev_sp, x.before w.2.2.1 w.2.1 = true) (hs : ∀ k vs m t Q, sp k vs m t Q → ev_K w k vs m t Q) (hM : ev_dec M = true) (hk : ev_lnks M = true) (hr : ev_srt M = true) :
    ∀ (n : Nat) (q : Nat × Instr × Nat × Nat) (tl : ev_cd) (L : List (Option Value)) (st : List Value) (m : ev_Mem) (t : ev_H), ev_suf M (q :: tl) → ev_lw w sp cut M d Q n (q :: tl) L st m t → ev_J w M d Q q.1 L st m t := by
  intro n
  induction n with
  | zero => exact fun _ _ _ _ _ _ _ h => h
  | succ n ih =>
    have nx : ∀ p tl L st m t, ev_suf M tl → ev_nx w cut M d Q (ev_lw w sp cut M d Q n) p tl L st m t → ev_J w M d Q p L st m t := by
      intro p tl L st m t hsf hz
      unfold ev_nx at hz
      split at hz
      · exact hz.elim
      · split at hz
        · rename_i hb _
          rw [← Nat.eq_of_beq_eq_true hb]
          exact hz
        · rename_i hb _
          rw [← Nat.eq_of_beq_eq_true hb]
          exact ih _ _ _ _ _ _ hsf hz
        · exact hz.elim
    have old := ev_jstep_ok (go := ev_lw w sp cut M d Q n) (cut := cut) (Q := Q) (d := d) ok hsp hs hM hk hr ih
    intro q tl L st m t hsf hz
    obtain ⟨pc, i, a, b⟩ := q
    have hi : ev_ins M pc = some (i, a, b) := ev_suf_ins hr hsf
    have hs0 := ev_suf_tl hsf
    unfold ev_lw ev_lstep at hz
    cases i
    case aload_n k =>
      intro h0
      dsimp only at hz
      split at hz
      · rename_i x hx
        exact ev_aload_n hM hi hx (nx _ _ _ _ _ _ hs0 hz h0)
      · rename_i x hx
        exact ev_aload_nS hM hi hx (nx _ _ _ _ _ _ hs0 hz h0)
      · exact hz.elim
    case iaload =>
      intro h0
      dsimp only at hz
      split at hz
      · exact ev_sld ok hM hi (ev_vpin hz.1) (nx _ _ _ _ _ _ hs0 hz.2 h0)
      · exact hz.elim
    case arraylength =>
      intro h0
      dsimp only at hz
      split at hz
      · exact ev_slen ok hM hi (nx _ _ _ _ _ _ hs0 hz h0)
      · exact hz.elim
    case i2l =>
      intro h0
      dsimp only at hz
      split at hz
      · exact ev_i2l hM hi (nx _ _ _ _ _ _ hs0 hz h0)
      · exact hz.elim
    case lcmp =>
      intro h0
      dsimp only at hz
      split at hz
      · exact ev_lcmp hM hi (nx _ _ _ _ _ _ hs0 hz h0)
      · exact hz.elim
    case laload =>
      intro h0
      dsimp only at hz
      split at hz
      · rename_i j x st' f ths
        obtain ⟨e, hin, hz⟩ := hz
        subst e
        exact ev_lald ok hM hi (ev_hp_307 m _ ths) (ev_vpin hin) (nx _ _ _ _ _ _ hs0 hz h0)
      · exact hz.elim
    case lastore =>
      intro h0
      dsimp only at hz
      split at hz
      · rename_i v j x st' f ths
        obtain ⟨e, hin, hz⟩ := hz
        subst e
        refine ev_last ok hM hi (ev_hp_307 m _ ths) (ev_vpin hin) ?_
        rw [ev_hp_s307]
        exact nx _ _ _ _ _ _ hs0 hz h0
      · exact hz.elim
    all_goals exact old _ _ _ _ _ _ hsf hz
def ev_lvv (w : ev_W) (sp : Nat → ev_SP) (cut : List Nat) (M : ev_M) (d : Nat × Nat) (Q : ev_QT) (n pc : Nat) (L : List (Option Value)) (st : List Value) (m : ev_Mem) (t : ev_H) : Prop := ev_lw w sp cut M d Q n (ev_seek M pc) L st m t
theorem ev_lvv_ok {Q : ev_QT} {sp : Nat → ev_SP} {cut : List Nat} (ok : ev_ok w) (hsp : ∀ x ∈ ev_sp, x.before w.2.2.1 w.2.1 = true) (hs : ∀ k vs m t Q, sp k vs m t Q → ev_K w k vs m t Q) (hM : ev_dec M = true) (hk : ev_lnks M = true) (hr : ev_srt M = true)
    (n pc : Nat) (L : List (Option Value)) (st : List Value) (m : ev_Mem) (t : ev_H) (hz : ev_lvv w sp cut M d Q n pc L st m t) : ev_J w M d Q pc L st m t := by
  unfold ev_lvv at hz
  have hsf := ev_seek_suf M pc
  cases hc : ev_seek M pc with
  | nil =>
    rw [hc] at hz
    cases n with
    | zero => exact hz.elim
    | succ n => exact hz.elim
  | cons q tl =>
    rw [hc] at hz hsf
    have h1 : q.1 = pc := by
      have h2 : (ev_seek M pc).head? = some q := by rw [hc]; rfl
      have h3 := List.head?_dropWhile_not (fun q : Nat × Instr × Nat × Nat => !(q.1 == pc)) M.2.2.2.2.2
      unfold ev_seek at h2
      rw [h2] at h3
      simpa using h3
    have h2 := ev_lw_ok ok hsp hs hM hk hr n q tl L st m t hsf hz
    rw [h1] at h2
    exact h2
theorem ev_gH {k : Nat} {Q : ev_QT} {m : ev_Mem} {t : ev_H} (A : ev_all w) (hp : ev_prog[k]? = some M) (cut : List Nat) (n : Nat) (h : ev_lvv w (ev_K w) cut M d Q n pc L st m t) : ev_J w M d Q pc L st m t :=
  ev_lvv_ok A.1 A.2 (fun _ _ _ _ _ h => h) (ev_dec_of hp) (ev_prog_ok M (List.mem_of_getElem? hp)).2 (List.all_eq_true.mp ev_srt_all M (List.mem_of_getElem? hp)) n pc L st m t h
theorem ev_srt_law : ev_srt ev_mlaw = true := by decide +kernel
theorem ev_gL {Q : ev_QT} {m : ev_Mem} {t : ev_H} (A : ev_all w) (cut : List Nat) (n : Nat) (h : ev_lvv w (ev_K w) cut ev_mlaw d Q n pc L st m t) : ev_J w ev_mlaw d Q pc L st m t :=
  ev_lvv_ok A.1 A.2 (fun _ _ _ _ _ h => h) ev_klawd ev_klawl ev_srt_law n pc L st m t h
/-- a call under handlers -/
theorem ev_jcallH {k : Nat} {Q Q' : ev_QT} (A : ev_all w) (N : ∀ x ∈ ev_nots, x.before w.2.2.1 w.2.1 = true) (hp : ev_prog[k]? = some M) {idx x : Nat} (hi : ev_ins M pc = some (.invokevirtual idx, a, b)) {m : ev_Mem} {t : ev_H} {rest : List Value} (hst : st.drop b = .ref x :: rest) (hc : (decide (b ≤ st.length) && ev_cats (st.take b) && ev_room a rest d && !(ev_sta a)) = true)
    (K : ev_K w a (.ref x :: (st.take b).reverse) m t Q') (k1 : ∀ v m' t', Q' (.inl v) m' t' → ev_J w M d Q (pc + 3) L (v.toList ++ rest) m' t')
    (k2 : ∀ e m' t', Q' (.inr e) m' t' → ∃ (ce n : Nat) (q : vw_C), (ev_hp m' t')[e]? = some (.inr (ce, [])) ∧ ev_cl[ce]? = some q ∧ ev_fst M.1.cls q.1 pc n M.2.2.2.2.1 = true ∧ ev_J w M d Q n L [.ref e] m' t') : ev_J w M d Q pc L st m t := by
  intro h0
  simp only [Bool.and_eq_true, Bool.not_eq_true', decide_eq_true_eq] at hc
  obtain ⟨⟨⟨c1, c2⟩, c3⟩, c4⟩ := hc
  obtain ⟨hr, M2, hp2, hJ⟩ := K
  obtain ⟨M', hM', r1, r2⟩ := ev_room_of c3
  cases hM'.symm.trans hp2
  rcases hr with hr | ⟨x', us, e1, hr⟩
  · rw [c4] at hr; cases hr
  cases e1
  have hinv : ev_inv (.invokevirtual idx) a b st (ev_hp m t) = some (.ref x :: (st.take b).reverse, rest) := by
    cases hmc : ev_mcs[a]? with
    | none =>
      have h1 : a < ev_prog.length := (List.getElem?_eq_some_iff.mp hM').1
      have h2 : ev_mcs.length = ev_prog.length := by decide +kernel
      rw [List.getElem?_eq_none_iff] at hmc
      omega
    | some c =>
      rw [hmc] at hr
      obtain ⟨fs, hx⟩ := ev_shc_of hr
      simp only [ev_inv, hst, ev_hp_get m t hx, ev_cell, hmc]
      rw [if_pos ⟨trivial, c1, c2⟩]
  refine ev_inv_ok A.1 (ev_dec_of hp) (ev_prog_ok M (List.mem_of_getElem? hp)).2 hi hinv hM' (ev_prog_ok _ (List.mem_of_getElem? hM')).1 r1 r2 (hJ _) (fun v h' hq => ?_) (fun e ce h' hq hce => ?_)
  · obtain ⟨m', t', e, hq⟩ := hq
    rw [e]
    exact k1 v m' t' hq _
  · obtain ⟨m', t', ee, hq⟩ := hq
    rw [ee] at hce ⊢
    obtain ⟨ce', n, q, g1, g2, g3, g4⟩ := k2 e m' t' hq
    exact ev_catch A.1 N g1 g2 g3 (g4 _)
end EvLaw1
