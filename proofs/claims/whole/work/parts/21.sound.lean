/-! the running program is right: what it comes to, the judgement comes to -/
section EvSound
variable {w : ev_W} {M : ev_M} {d : Nat × Nat} {h0 : ev_H} {Q : ev_R → ev_H → Prop} {pc : Nat} {L : List (Option Value)} {st : List Value} {h : ev_H} {a b : Nat} {i : Instr}
theorem ev_ldc (ok : ev_ok w) (hM : ev_dec M = true) {idx : Nat} (hi : ev_ins M pc = some (.ldc idx, a, b)) (hl : ev_has (.constant M.1.cls idx (Int32.ofNat a)) = true) (k : ev_G w M d h0 Q (pc + 2) L (.int (Int32.ofNat a) :: st) h) : ev_G w M d h0 Q pc L st h := by
  intro p e R s m args below meth c H locs ls C
  exact lv_ldc C.1.1 C.1.2.1 C.1.own (ev_word ok C.1.warm hl args) (ev_dec_at hM hi) (k p e R s m args below meth c H locs ls C)
theorem ev_s1_ok (hM : ev_dec M = true) (hi : ev_ins M pc = some (i, a, b)) {F : ev_F} (hs : ev_s1 i pc L st h = some F) (k : ev_G w M d h0 Q F.1 F.2.1 F.2.2.1 F.2.2.2) : ev_G w M d h0 Q pc L st h := by
  unfold ev_s1 at hs
  split at hs
  · cases hs; exact ev_iconst hM hi k
  · cases hs; exact ev_bipush hM hi k
  · cases hs; exact ev_sipush hM hi k
  · cases hs
theorem ev_s2_ok (hM : ev_dec M = true) (hi : ev_ins M pc = some (i, a, b)) {F : ev_F} (hs : ev_s2 i pc L st h = some F) (k : ev_G w M d h0 Q F.1 F.2.1 F.2.2.1 F.2.2.2) : ev_G w M d h0 Q pc L st h := by
  unfold ev_s2 at hs
  split at hs
  · split at hs
    · rename_i hl; cases hs; exact ev_iload_n hM hi hl k
    · cases hs
  · split at hs
    · rename_i hl; cases hs; exact ev_iload hM hi hl k
    · cases hs
  · split at hs
    · rename_i hl; cases hs; exact ev_aload_n hM hi hl k
    · rename_i hl; cases hs; exact ev_aload_nS hM hi hl k
    · cases hs
  · split at hs
    · rename_i hl; cases hs; exact ev_aload hM hi hl k
    · rename_i hl; cases hs; exact ev_aloadS hM hi hl k
    · cases hs
  · cases hs
theorem ev_s3_ok (hM : ev_dec M = true) (hi : ev_ins M pc = some (i, a, b)) {F : ev_F} (hs : ev_s3 M.2.2.1 i pc L st h = some F) (k : ev_G w M d h0 Q F.1 F.2.1 F.2.2.1 F.2.2.2) : ev_G w M d h0 Q pc L st h := by
  unfold ev_s3 at hs
  split at hs
  · split at hs
    · split at hs
      · rename_i hn; cases hs; exact ev_istore_n hM hi hn k
      · cases hs
    · cases hs
  · split at hs
    · split at hs
      · rename_i hn; cases hs; exact ev_istore hM hi hn k
      · cases hs
    · cases hs
  · split at hs
    · split at hs
      · rename_i hn; cases hs; exact ev_astore_n hM hi hn k
      · cases hs
    · cases hs
  · split at hs
    · split at hs
      · rename_i hn; cases hs; exact ev_astore hM hi hn k
      · cases hs
    · cases hs
  · split at hs
    · rename_i hl
      split at hs
      · rename_i hn; cases hs; exact ev_iinc hM hi hl hn k
      · cases hs
    · cases hs
  · cases hs
theorem ev_s4_ok (hM : ev_dec M = true) (hi : ev_ins M pc = some (i, a, b)) {F : ev_F} (hs : ev_s4 i pc L st h = some F) (k : ev_G w M d h0 Q F.1 F.2.1 F.2.2.1 F.2.2.2) : ev_G w M d h0 Q pc L st h := by
  unfold ev_s4 at hs
  split at hs
  · split at hs
    · cases hs; exact ev_iadd hM hi k
    · cases hs; exact ev_isub hM hi k
    · cases hs; exact ev_imul hM hi k
    · cases hs; exact ev_iand hM hi k
    · cases hs; exact ev_ior hM hi k
    · cases hs; exact ev_ishl hM hi k
    · cases hs; exact ev_ishr hM hi k
    · split at hs
      · cases hs
      · rename_i hn; cases hs; exact ev_idiv hM hi hn k
    · split at hs
      · cases hs
      · rename_i hn; cases hs; exact ev_irem hM hi hn k
    · cases hs
  · split at hs
    · cases hs; exact ev_lcmp hM hi k
    · cases hs
  · cases hs
theorem ev_s5_ok (hM : ev_dec M = true) (hi : ev_ins M pc = some (i, a, b)) {F : ev_F} (hs : ev_s5 i pc L st h = some F) (k : ev_G w M d h0 Q F.1 F.2.1 F.2.2.1 F.2.2.2) : ev_G w M d h0 Q pc L st h := by
  unfold ev_s5 at hs
  split at hs
  · split at hs
    · cases hs; exact ev_ineg hM hi k
    · cases hs
  · split at hs
    · cases hs; exact ev_i2c hM hi k
    · cases hs
  · split at hs
    · cases hs; exact ev_i2l hM hi k
    · cases hs
  · split at hs
    · split at hs
      · rename_i hv; cases hs; exact ev_dup hM hi hv k
      · cases hs
    · cases hs
  · split at hs
    · split at hs
      · rename_i hv; cases hs; exact ev_pop hM hi hv k
      · cases hs
    · cases hs
  · split at hs
    · split at hs
      · rename_i hv; cases hs; exact ev_dup_x1 hM hi hv.1 hv.2 k
      · cases hs
    · cases hs
  · split at hs
    · split at hs
      · rename_i hv; cases hs; exact ev_dup2 hM hi hv.1 hv.2 k
      · cases hs
    · cases hs
  · cases hs
theorem ev_map_some {α β : Type} {o : Option α} {f : α → β} {y : β} (hm : o.map f = some y) : ∃ x, o = some x ∧ f x = y := by
  cases o with
  | none => cases hm
  | some x => exact ⟨x, rfl, Option.some.inj hm⟩
theorem ev_s6_ok (hM : ev_dec M = true) (hi : ev_ins M pc = some (i, a, b)) {F : ev_F} (hs : ev_s6 i pc L st h = some F) (k : ev_G w M d h0 Q F.1 F.2.1 F.2.2.1 F.2.2.2) : ev_G w M d h0 Q pc L st h := by
  unfold ev_s6 at hs
  split at hs
  · obtain ⟨t, ht, rfl⟩ := ev_map_some hs
    exact ev_goto hM hi (ev_tgt_of ht) k
  · split at hs
    · split at hs
      · rename_i hc
        obtain ⟨t, ht, rfl⟩ := ev_map_some hs
        exact ev_if hM hi (ev_tgt_of ht) (fun _ => k) (fun q => by rw [hc] at q; cases q)
      · rename_i hc
        obtain ⟨t, ht, rfl⟩ := ev_map_some hs
        exact ev_if hM hi (ev_tgt_of ht) (fun q => absurd q hc) (fun _ => k)
    · cases hs
  · split at hs
    · split at hs
      · rename_i hc
        obtain ⟨t, ht, rfl⟩ := ev_map_some hs
        exact ev_icmp hM hi (ev_tgt_of ht) (fun _ => k) (fun q => by rw [hc] at q; cases q)
      · rename_i hc
        obtain ⟨t, ht, rfl⟩ := ev_map_some hs
        exact ev_icmp hM hi (ev_tgt_of ht) (fun q => absurd q hc) (fun _ => k)
    · cases hs
  · split at hs
    · split at hs
      · rename_i hc
        obtain ⟨t, ht, rfl⟩ := ev_map_some hs
        exact ev_tableOut hM hi hc (ev_tgt_of ht) k
      · rename_i hc
        split at hs
        · rename_i ho
          obtain ⟨t, ht, rfl⟩ := ev_map_some hs
          exact ev_tableIn hM hi (fun q => hc (Or.inl q)) (fun q => hc (Or.inr q)) ho (ev_tgt_of ht) k
        · cases hs
    · cases hs
  · cases hs
theorem ev_s8_ok (ok : ev_ok w) (hM : ev_dec M = true) (hi : ev_ins M pc = some (i, a, b)) {F : ev_F} (hs : ev_s8 i pc L st h = some F) (k : ev_G w M d h0 Q F.1 F.2.1 F.2.2.1 F.2.2.2) : ev_G w M d h0 Q pc L st h := by
  unfold ev_s8 at hs
  split at hs
  · split at hs
    · split at hs
      · rename_i hx
        split at hs
        · rename_i hj; cases hs; exact ev_iald ok hM hi hx (ev_inb_of hj) k
        · cases hs
      · cases hs
    · cases hs
  · split at hs
    · split at hs
      · rename_i hx
        split at hs
        · rename_i hj; cases hs; exact ev_cald ok hM hi hx (ev_inb_of hj) k
        · cases hs
      · cases hs
    · cases hs
  · split at hs
    · split at hs
      · rename_i hx
        split at hs
        · rename_i hj; cases hs; exact ev_lald ok hM hi hx (ev_inb_of hj) k
        · cases hs
      · cases hs
    · cases hs
  · split at hs
    · split at hs
      · rename_i hx
        split at hs
        · rename_i hj; cases hs; exact ev_aald ok hM hi hx (ev_inb_of hj) k
        · cases hs
      · cases hs
    · cases hs
  · split at hs
    · split at hs
      · rename_i hx
        split at hs
        · rename_i hj; cases hs; exact ev_iast ok hM hi hx (ev_inb_of hj) k
        · cases hs
      · cases hs
    · cases hs
  · split at hs
    · split at hs
      · rename_i hx
        split at hs
        · rename_i hj; cases hs; exact ev_cast ok hM hi hx (ev_inb_of hj) k
        · cases hs
      · cases hs
    · cases hs
  · split at hs
    · split at hs
      · rename_i hx
        split at hs
        · rename_i hj; cases hs; exact ev_last ok hM hi hx (ev_inb_of hj) k
        · cases hs
      · cases hs
    · cases hs
  · split at hs
    · split at hs
      · rename_i hx hy
        split at hs
        · rename_i hj
          cases hs
          obtain ⟨hj, rfl⟩ := hj
          exact ev_aast ok hM hi hx hy ev_clL rfl (ev_inb_of hj) k
        · cases hs
      · cases hs
    · cases hs
  · split at hs
    · split at hs
      · rename_i hx
        split at hs
        · rename_i ht; cases hs; exact ev_alen ok hM ht hi hx k
        · cases hs
      · cases hs
    · cases hs
  · cases hs
theorem ev_s7_ok (ok : ev_ok w) (hM : ev_dec M = true) (hk : ev_lnks M = true) (hi : ev_ins M pc = some (i, a, b)) {F : ev_F} (hs : ev_s7 i a b pc L st h = some F) (k : ev_G w M d h0 Q F.1 F.2.1 F.2.2.1 F.2.2.2) : ev_G w M d h0 Q pc L st h := by
  have hl := ev_lnk_at hk hi
  unfold ev_s7 at hs
  split at hs
  · split at hs
    · split at hs
      · rename_i hx
        split at hs
        · rename_i hc
          subst hc
          split at hs
          · rename_i hv; cases hs; exact ev_getf ok hM hi hl hx hv k
          · cases hs
        · cases hs
      · cases hs
    · cases hs
  · have hl2 : _ ∧ _ := Bool.and_eq_true_iff.mp hl
    split at hs
    · split at hs
      · rename_i hx
        split at hs
        · rename_i hc
          obtain ⟨hc1, hc2, hc3⟩ := hc
          subst hc1
          cases hs
          obtain ⟨q, hq, -, -⟩ := ev_lkf_of hl2.1
          rw [hq] at hc3
          exact ev_putf ok hM hi hl2.1 hq (ev_lkp_of hq hl2.2) hc3 hx hc2 k
        · cases hs
      · cases hs
    · cases hs
  · cases hs
theorem ev_s9_ok (ok : ev_ok w) (hM : ev_dec M = true) (hk : ev_lnks M = true) (hi : ev_ins M pc = some (i, a, b)) {F : ev_F} (hs : ev_s9 (w.2.2.2.2.2.2.1, w.2.2.2.2.2.2.2.1) i a pc L st h = some F) (k : ev_G w M d h0 Q F.1 F.2.1 F.2.2.1 F.2.2.2) : ev_G w M d h0 Q pc L st h := by
  have hl := ev_lnk_at hk hi
  unfold ev_s9 at hs
  split at hs
  · split at hs
    · rename_i q hq
      split at hs
      · rename_i hc
        cases hs
        have hl' : (if a < ev_nc then ev_lkn M.1.cls _ a else ev_thr M pc _ a) = true := hl
        rw [if_pos hc.1] at hl'
        simp only [ev_lkn, hq, Bool.and_eq_true, decide_eq_true_eq] at hl'
        exact ev_new ok hM hi hq hl'.1.1.1 hl'.1.1.2 hl'.1.2 hl'.2 hc.2.1 hc.2.2 k
      · cases hs
    · cases hs
  · split at hs
    · split at hs
      · rename_i hc; cases hs; exact ev_newI ok hM hi hl hc.1 hc.2.1 hc.2.2.1 hc.2.2.2 k
      · cases hs
    · cases hs
  · split at hs
    · split at hs
      · rename_i hc; cases hs; exact ev_newC ok hM hi hl hc.1 hc.2.1 hc.2.2.1 hc.2.2.2 k
      · cases hs
    · cases hs
  · split at hs
    · split at hs
      · rename_i hc; cases hs; exact ev_newL ok hM hi hl hc.1 hc.2.1 hc.2.2.1 hc.2.2.2 k
      · cases hs
    · cases hs
  · have hl2 : _ ∧ _ := Bool.and_eq_true_iff.mp hl
    split at hs
    · split at hs
      · rename_i hc; cases hs; exact ev_newR ok hM hi hl2.1 hl2.2 hc.1 hc.2.1 hc.2.2.1 hc.2.2.2 k
      · cases hs
    · cases hs
  · cases hs
end EvSound
