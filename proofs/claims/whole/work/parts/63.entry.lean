/-! the class's sheet: an entry, all entries -/
section EvEntry
variable {w : ev_W} {Q : ev_QT} {m : ev_Mem} {t : ev_H}
def ab_lg (T : ab_T) (fo : Nat → Option ab_Ls) (p : Nat) (neg : Bool) : Bool := !neg && (ab_ff (ab_rdr T fo p (ab_lem T p)) 4 0).isSome
def ab_e0 (T : ab_T) (fo : Nat → Option ab_Ls) (p : Nat) : ab_Ls := ab_nm p ++ [32] ++ ab_rd fo (ab_lem T p) ++ [93]
def ab_cd (T : ab_T) (fo : Nat → Option ab_Ls) (p k : Nat) : Bool := !(ab_alk fo (ab_nat T p k) (ab_lem T p)) && decide (ab_ff (ab_rdr T fo p (ab_nat T p k)) 4 0 = some k)
def ab_ek (T : ab_T) (fo : Nat → Option ab_Ls) (p : Nat) (neg : Bool) : Nat → ab_Ls × Bool
  | 0 => if ab_lg T fo p neg = true then (ab_e0 T fo p ++ ab_grp T fo p (ab_lem T p), false) else (ab_e0 T fo p, true)
  | k + 1 => if ab_cd T fo p k = true then ((ab_ek T fo p neg k).1 ++ (if (ab_ek T fo p neg k).2 = true then [] else [59]) ++ ab_grp T fo p (ab_nat T p k), false) else ab_ek T fo p neg k
def ab_ent (T : ab_T) (fo : Nat → Option ab_Ls) (p : Nat) (neg : Bool) : ab_Ls := (ab_ek T fo p neg 4).1 ++ [10]
theorem ab_ek_mono (T : ab_T) (fo : Nat → Option ab_Ls) (p : Nat) (neg : Bool) : ∀ (n k : Nat), (ab_ek T fo p neg k).1.length ≤ (ab_ek T fo p neg (k + n)).1.length
  | 0, _ => Nat.le_refl _
  | n + 1, k => by
    have h1 := ab_ek_mono T fo p neg n k
    rw [← Nat.add_assoc, ab_ek]
    split
    · rw [List.length_append, List.length_append]; omega
    · exact h1
theorem ab_e0_le (T : ab_T) (fo : Nat → Option ab_Ls) (p : Nat) (neg : Bool) : (ab_e0 T fo p).length ≤ (ab_ek T fo p neg 0).1.length := by
  rw [ab_ek]
  split
  · rw [List.length_append]; omega
  · exact Nat.le_refl _
/-- Sheet.writeEntry -/
theorem ev_S62 {p : Nat} {neg : Bool} {T : ab_T} {fo : Nat → Option ab_Ls} {o : ab_Ls} (A : ev_all w) (hE : ab_E m T fo) (hpT : p < T.1) (hO : ab_O m o) (hl : o.length + (ab_ent T fo p neg).length ≤ 1920) (hQ : ∀ m', ab_frs m m' → ab_O m' (o ++ ab_ent T fo p neg) → Q (.inl none) m' t) : ev_K w 62 [.ref 217, .ref 209, .ref 40, .int (Int32.ofNat p), .int (ab_bi neg)] m t Q := by
  have hp : ev_prog[62]? = some ev_m62 := rfl
  have k1 := hE.2.1.1
  have i4 := ev_i4
  have em1 := ev_im1
  have hlem := ab_lem_ok hE hpT
  have hl4 : o.length + (ab_ek T fo p neg 4).1.length + 1 ≤ 1920 := by
    unfold ab_ent at hl
    rw [List.length_append, List.length_singleton] at hl
    omega
  have hek : ∀ k, k ≤ 4 → o.length + (ab_ek T fo p neg k).1.length + 1 ≤ 1920 := by
    intro k hk
    have h1 := ab_ek_mono T fo p neg (4 - k) k
    rw [(by omega : k + (4 - k) = 4)] at h1
    omega
  have loop := ev_lup (P := fun k => ∀ (kk bb : Int32) (mk : ev_Mem) (o8 : Option Value), kk = Int32.ofNat k → bb = ab_bi (ab_ek T fo p neg k).2 → ab_frs m mk → ab_O mk (o ++ (ab_ek T fo p neg k).1) → ev_J w ev_m62 (ev_nd 62) Q 66 [ev_vr 217, ev_vr 209, ev_vr 40, ev_vn p, ev_vi (ab_bi neg), ev_vi (ab_oi (ab_lem T p)), ev_vi bb, ev_vi kk, o8] [] mk t) 4 (by
    intro k hk ih kk bb mk o8 ekk ebb hf hOk
    subst ekk ebb
    have ek := ev_ofNat_i (n := k) (by omega)
    have hEk := ab_E_frs hf hE
    refine ev_gK A hp [81, 134] 30 ?_
    refine And.intro (fun (h : (Int32.ofInt 4).toInt ≤ (Int32.ofNat k).toInt) => ?_) (fun (h : (Int32.ofNat k).toInt < (Int32.ofInt 4).toInt) => ?_)
    · have e4 : k = 4 := by omega
      subst e4
      refine ev_gK A hp [] 10 ?_
      refine ev_S64 (c := 10) A hOk (by rw [List.length_append]; omega) (by unfold ab_c16; decide) (fun m' f' O' => ?_)
      refine hQ m' (ab_frs_tr hf f') ?_
      unfold ab_ent
      rw [← List.append_assoc]
      exact O'
    · have hk4 : k < 4 := by omega
      have hnok := ab_nat_ok hEk hpT hk4
      have h128 : ∀ (bb x8 : Int32) (m2 : ev_Mem), bb = ab_bi (ab_ek T fo p neg (k + 1)).2 → ab_frs m m2 → ab_O m2 (o ++ (ab_ek T fo p neg (k + 1)).1) → ev_J w ev_m62 (ev_nd 62) Q 128 [ev_vr 217, ev_vr 209, ev_vr 40, ev_vn p, ev_vi (ab_bi neg), ev_vi (ab_oi (ab_lem T p)), ev_vi bb, ev_vn k, ev_vi x8] [] m2 t := by
        intro bb x8 m2 hb f2 O2
        refine ev_gK A hp [66] 10 ?_
        exact ih hk4 _ _ _ _ (ev_succ (by omega)) hb f2 O2
      have hsame : ab_cd T fo p k = false → ab_ek T fo p neg (k + 1) = ab_ek T fo p neg k := fun hc => by rw [ab_ek, hc]; exact if_neg Bool.false_ne_true
      refine ev_S38 A (by omega) hk4 (hEk.1.2.1 p hpT k hk4) (fun i hi => hEk.2.1.2.1 p k i hi) ?_
      show ev_J w ev_m62 (ev_nd 62) Q 81 [ev_vr 217, ev_vr 209, ev_vr 40, ev_vn p, ev_vi (ab_bi neg), ev_vi (ab_oi (ab_lem T p)), ev_vi (ab_bi (ab_ek T fo p neg k).2), ev_vn k, ev_vi (ab_oi (ab_nat T p k))] [] mk t
      refine ev_gK A hp [105, 128] 30 ?_
      refine ev_S20 A (fun y hy => (hnok y hy).1) (fun y hy => (hlem y hy).1) ?_
      have ea := ab_E_alk hEk hnok (ab_okx_frs hf hlem)
      refine And.intro (fun h => ?_) (fun h => ?_)
      · have h2 := ab_bi_ne h
        have h3 : ab_alk fo (ab_nat T p k) (ab_lem T p) = true := ea.symm.trans h2
        have hc : ab_cd T fo p k = false := by unfold ab_cd; rw [h3]; rfl
        exact h128 _ _ mk (by rw [hsame hc]) hf (by rw [hsame hc]; exact hOk)
      · have h2 := ab_bi_nne h
        have h3 : ab_alk fo (ab_nat T p k) (ab_lem T p) = false := ea.symm.trans h2
        refine ev_S67 A hEk hpT hnok ?_
        have ffb : ∀ v, ab_ff (ab_rdr T fo p (ab_nat T p k)) 4 0 = some v → v < 100000 := by
          intro v hv
          unfold ab_ff at hv
          simp only [ab_ff] at hv
          repeat' split at hv
          all_goals first | (cases hv; decide) | cases hv
        refine And.intro (fun (h : ¬ (ab_oi (ab_ff (ab_rdr T fo p (ab_nat T p k)) 4 0)).toInt = (Int32.ofNat k).toInt) => ?_) (fun (h : (ab_oi (ab_ff (ab_rdr T fo p (ab_nat T p k)) 4 0)).toInt = (Int32.ofNat k).toInt) => ?_)
        · have hc : ab_cd T fo p k = false := by
            unfold ab_cd
            rw [decide_eq_false (fun z => h (by rw [z]; rfl)), Bool.and_false]
          exact h128 _ _ mk (by rw [hsame hc]) hf (by rw [hsame hc]; exact hOk)
        · have h4 : ab_ff (ab_rdr T fo p (ab_nat T p k)) 4 0 = some k := ab_oi_inj ffb (fun x hx => by cases hx; omega) (h.trans rfl)
          have hc : ab_cd T fo p k = true := by unfold ab_cd; rw [h3, decide_eq_true h4]; rfl
          have hn : ab_ek T fo p neg (k + 1) = ((ab_ek T fo p neg k).1 ++ (if (ab_ek T fo p neg k).2 = true then [] else [59]) ++ ab_grp T fo p (ab_nat T p k), false) := by rw [ab_ek]; exact if_pos hc
          have hln := hek (k + 1) (by omega)
          rw [hn] at hln
          rw [List.length_append, List.length_append] at hln
          have h116 : ∀ m2 : ev_Mem, ab_frs m m2 → ab_O m2 (o ++ (ab_ek T fo p neg k).1 ++ (if (ab_ek T fo p neg k).2 = true then [] else [59])) → ev_J w ev_m62 (ev_nd 62) Q 116 [ev_vr 217, ev_vr 209, ev_vr 40, ev_vn p, ev_vi (ab_bi neg), ev_vi (ab_oi (ab_lem T p)), ev_vi (ab_bi (ab_ek T fo p neg k).2), ev_vn k, ev_vi (ab_oi (ab_nat T p k))] [] m2 t := by
            intro m2 f2 O2
            refine ev_gK A hp [128] 20 ?_
            refine ev_S68 A (ab_E_frs f2 hE) hpT (ab_nat_ok (ab_E_frs f2 hE) hpT hk4) O2 (by rw [List.length_append, List.length_append]; omega) (fun m3 f3 O3 => ?_)
            refine h128 _ _ m3 (by rw [hn]; rfl) (ab_frs_tr f2 f3) ?_
            rw [hn]
            rw [List.append_assoc, List.append_assoc] at O3
            rw [List.append_assoc]
            exact O3
          show ev_J w ev_m62 (ev_nd 62) Q 105 [ev_vr 217, ev_vr 209, ev_vr 40, ev_vn p, ev_vi (ab_bi neg), ev_vi (ab_oi (ab_lem T p)), ev_vi (ab_bi (ab_ek T fo p neg k).2), ev_vn k, ev_vi (ab_oi (ab_nat T p k))] [] mk t
          refine ev_gK A hp [116] 20 ?_
          refine And.intro (fun h => ?_) (fun h => ?_)
          · have hb := ab_bi_ne h
            refine h116 mk hf ?_
            rw [if_pos hb, List.append_nil]
            exact hOk
          · have hb := ab_bi_nne h
            rw [if_neg (by rw [hb]; exact Bool.false_ne_true)] at hln h116
            have hln' : o.length + ((ab_ek T fo p neg k).1.length + 1 + (ab_grp T fo p (ab_nat T p k)).length) + 1 ≤ 1920 := hln
            refine ev_S64 (c := 59) A hOk (by rw [List.length_append]; omega) (by unfold ab_c16; decide) (fun m' f' O' => ?_)
            exact h116 m' (ab_frs_tr hf f') O')
  have h00 := hek 0 (by omega)
  have he0 := ab_e0_le T fo p neg
  have hle0 : (ab_e0 T fo p).length = (ab_nm p).length + 1 + (ab_rd fo (ab_lem T p)).length + 1 := by
    unfold ab_e0
    rw [List.length_append, List.length_append, List.length_append]; rfl
  have h63 : ∀ (bb : Int32) (mk : ev_Mem), bb = ab_bi (ab_ek T fo p neg 0).2 → ab_frs m mk → ab_O mk (o ++ (ab_ek T fo p neg 0).1) → ev_J w ev_m62 (ev_nd 62) Q 63 [ev_vr 217, ev_vr 209, ev_vr 40, ev_vn p, ev_vi (ab_bi neg), ev_vi (ab_oi (ab_lem T p)), ev_vi bb, none, none] [] mk t := by
    intro bb mk hb f O
    refine ev_gK A hp [66] 10 ?_
    exact loop 0 (by omega) _ _ mk _ rfl hb f O
  refine ⟨Or.inr ⟨217, _, rfl, rfl⟩, ev_m62, rfl, ev_gK A hp [31] 60 ?_⟩
  refine ev_S37 A hE.1 hE.2.1 hpT ?_
  refine ev_S63 A hO (by omega) (by omega) (fun m1 f1 O1 => ?_)
  refine ev_S64 (c := 32) A O1 (by rw [List.length_append]; omega) (by unfold ab_c16; decide) (fun m2 f2 O2 => ?_)
  have f12 := ab_frs_tr f1 f2
  refine ev_S65 A (ab_okx_frs f12 hlem) (ab_E_frs f12 hE).2.2.1 (ab_E_frs f12 hE).2.2.2.2.1 O2 (by rw [List.length_append, List.length_append, List.length_singleton]; omega) (fun m3 f3 O3 => ?_)
  refine ev_S64 (c := 93) A O3 (by rw [List.length_append, List.length_append, List.length_append, List.length_singleton]; omega) (by unfold ab_c16; decide) (fun m4 f4 O4 => ?_)
  have f14 := ab_frs_tr f12 (ab_frs_tr f3 f4)
  have O5 : ab_O m4 (o ++ ab_e0 T fo p) := by
    unfold ab_e0
    rw [← List.append_assoc, ← List.append_assoc, ← List.append_assoc]
    exact O4
  have hE4 := ab_E_frs f14 hE
  show ev_J w ev_m62 (ev_nd 62) Q 31 [ev_vr 217, ev_vr 209, ev_vr 40, ev_vn p, ev_vi (ab_bi neg), ev_vi (ab_oi (ab_lem T p)), none, none, none] [] m4 t
  refine ev_gK A hp [63, 51] 30 ?_
  refine And.intro (fun h => ?_) (fun h => ?_)
  · have hb := ab_bi_ne h
    have hg : ab_lg T fo p neg = false := by unfold ab_lg; rw [hb]; rfl
    have e0 : ab_ek T fo p neg 0 = (ab_e0 T fo p, true) := by rw [ab_ek, hg]; exact if_neg Bool.false_ne_true
    exact h63 _ m4 (by rw [e0]; rfl) f14 (by rw [e0]; exact O5)
  · have hb := ab_bi_nne h
    refine ev_S67 A hE4 hpT (ab_okx_frs f14 hlem) ?_
    refine And.intro (fun (h : (ab_oi (ab_ff (ab_rdr T fo p (ab_lem T p)) 4 0)).toInt = (Int32.ofInt (-1)).toInt) => ?_) (fun (h : ¬ (ab_oi (ab_ff (ab_rdr T fo p (ab_lem T p)) 4 0)).toInt = (Int32.ofInt (-1)).toInt) => ?_)
    · have hg : ab_lg T fo p neg = false := by
        unfold ab_lg
        rw [em1] at h
        cases hff : ab_ff (ab_rdr T fo p (ab_lem T p)) 4 0 with
        | none => rw [hb]; rfl
        | some v =>
          have hv : v < 4 := by
            unfold ab_ff at hff
            simp only [ab_ff] at hff
            repeat' split at hff
            all_goals first | (cases hff; decide) | cases hff
          rw [hff] at h
          have e1 : (ab_oi (some v)).toInt = (v : Int) := ev_ofNat_i (by omega)
          omega
      have e0 : ab_ek T fo p neg 0 = (ab_e0 T fo p, true) := by rw [ab_ek, hg]; exact if_neg Bool.false_ne_true
      exact h63 _ m4 (by rw [e0]; rfl) f14 (by rw [e0]; exact O5)
    · have hg : ab_lg T fo p neg = true := by
        unfold ab_lg
        cases hff : ab_ff (ab_rdr T fo p (ab_lem T p)) 4 0 with
        | none => rw [hff] at h; exact absurd rfl h
        | some v => rw [hb]; rfl
      have e0 : ab_ek T fo p neg 0 = (ab_e0 T fo p ++ ab_grp T fo p (ab_lem T p), false) := by rw [ab_ek, hg]; exact if_pos rfl
      rw [e0] at h00
      rw [List.length_append] at h00
      show ev_J w ev_m62 (ev_nd 62) Q 51 [ev_vr 217, ev_vr 209, ev_vr 40, ev_vn p, ev_vi (ab_bi neg), ev_vi (ab_oi (ab_lem T p)), ev_vi 1, none, none] [] m4 t
      refine ev_gK A hp [63] 20 ?_
      refine ev_S68 A hE4 hpT (ab_okx_frs f14 hlem) O5 (by rw [List.length_append]; omega) (fun m5 f5 O6 => ?_)
      refine h63 _ m5 (by rw [e0]; rfl) (ab_frs_tr f14 f5) ?_
      rw [e0]
      rw [List.append_assoc] at O6
      exact O6
/-- Sheet.write -/
def ab_wr (T : ab_T) (fo : Nat → Option ab_Ls) (neg : Bool) (n : Nat) : ab_Ls := ab_cat (fun p => if ab_need T fo p = true then ab_ent T fo p neg else []) n
theorem ev_S60 {neg : Bool} {T : ab_T} {fo : Nat → Option ab_Ls} (A : ev_all w) (hE : ab_E m T fo) (hl : (ab_wr T fo neg T.1).length ≤ 1920) (hQ : ∀ m', ab_frs m m' → ab_O m' (ab_wr T fo neg T.1) → Q (.inl none) m' t) : ev_K w 60 [.ref 217, .ref 209, .ref 40, .int (ab_bi neg)] m t Q := by
  have hp : ev_prog[60]? = some ev_m60 := rfl
  have k1 := hE.2.1.1
  have loop := ev_lup (P := fun k => ∀ (kk : Int32) (mk : ev_Mem), kk = Int32.ofNat k → ab_frs m mk → ab_O mk (ab_wr T fo neg k) → ev_J w ev_m60 (ev_nd 60) Q 8 [ev_vr 217, ev_vr 209, ev_vr 40, ev_vi (ab_bi neg), ev_vi kk] [] mk t) T.1 (by
    intro k hk ih kk mk ekk hf hOk
    subst ekk
    have ek := ev_ofNat_i (n := k) (by omega)
    have hEk := ab_E_frs hf hE
    have e1 := hEk.1.1
    refine ev_gK A hp [8] 30 ?_
    refine ev_S36 A ?_
    refine And.intro (fun (h : (mk 209 2).toInt ≤ (Int32.ofNat k).toInt) => ?_) (fun (h : (Int32.ofNat k).toInt < (mk 209 2).toInt) => ?_)
    · have e : k = T.1 := by omega
      rw [e] at hOk
      exact hQ mk hf hOk
    · have hkT : k < T.1 := by omega
      refine ev_S61 A hEk hkT ?_
      refine And.intro (fun h => ?_) (fun h => ?_)
      · have hn := ab_bi_eq h
        refine ih hkT _ mk (ev_succ (by omega)) hf ?_
        have e : ab_wr T fo neg (k + 1) = ab_wr T fo neg k := by
          unfold ab_wr
          rw [ab_cat, hn]
          exact List.append_nil _
        rw [e]; exact hOk
      · have hn := ab_bi_neq h
        have e : ab_wr T fo neg (k + 1) = ab_wr T fo neg k ++ ab_ent T fo k neg := by
          unfold ab_wr
          rw [ab_cat, hn]
          rfl
        have hm := ab_cat_mono (fun p => if ab_need T fo p = true then ab_ent T fo p neg else []) (T.1 - (k + 1)) (k + 1)
        rw [(by omega : k + 1 + (T.1 - (k + 1)) = T.1)] at hm
        have hm2 : (ab_wr T fo neg (k + 1)).length ≤ (ab_wr T fo neg T.1).length := hm
        rw [e, List.length_append] at hm2
        refine ev_S62 A hEk hkT hOk (by omega) (fun m' f' O' => ?_)
        refine ih hkT _ m' (ev_succ (by omega)) (ab_frs_tr hf f') ?_
        rw [e]; exact O')
  refine ⟨Or.inr ⟨217, _, rfl, rfl⟩, ev_m60, rfl, ev_gK A hp [8] 20 ?_⟩
  refine loop 0 (by omega) _ _ rfl (fun c i z1 z2 => ev_up_cell _ z1 _ _ _) ⟨ev_up_same _ _ _ _, fun k hk => absurd hk (Nat.not_lt_zero _)⟩
/-- Sheet.size -/
theorem ev_S69 (A : ev_all w) (hQ : Q (.inl (some (.int (m 217 1)))) m t) : ev_K w 69 [.ref 217] m t Q :=
  ⟨Or.inr ⟨217, [], rfl, rfl⟩, ev_m69, rfl, ev_gK A (k := 69) rfl [] 20 hQ⟩
/-- Sheet.sign -/
theorem ev_S70 {k : Nat} {o : ab_Ls} (A : ev_all w) (hO : ab_O m o) (hl : o.length ≤ 1920) (hch : ∀ v ∈ o, ab_c16 v) (hk : k < o.length) (hQ : Q (.inl (some (.int (o.getD k 0)))) m t) : ev_K w 70 [.ref 217, .int (Int32.ofNat k)] m t Q := by
  have hp : ev_prog[70]? = some ev_m70 := rfl
  refine ⟨Or.inr ⟨217, _, rfl, rfl⟩, ev_m70, rfl, ev_gK A hp [] 20 ?_⟩
  refine And.intro (ev_oin (by omega) (by decide)) ?_
  show narrow .char (.int (m 218 (Int32.ofNat k).toNatClampNeg)) = .int (m 218 (Int32.ofNat k).toNatClampNeg) ∧ Q (.inl (some (.int (m 218 (Int32.ofNat k).toNatClampNeg)))) m t
  rw [ev_on (by omega), hO.2 k hk]
  exact ⟨ab_c16_ch (hch _ (ab_getD_mem hk)), hQ⟩
/-- Sheet.change -/
theorem ev_S71 {k : Nat} {c : Int32} {o : ab_Ls} (A : ev_all w) (hO : ab_O m o) (hl : o.length ≤ 1920) (hc : ab_c16 c) (hk : k < o.length) (hQ : ∀ m', ab_frs m m' → ab_O m' (o.set k c) → Q (.inl none) m' t) : ev_K w 71 [.ref 217, .int (Int32.ofNat k), .int c] m t Q := by
  have hp : ev_prog[71]? = some ev_m71 := rfl
  refine ⟨Or.inr ⟨217, _, rfl, rfl⟩, ev_m71, rfl, ev_gK A hp [] 20 ?_⟩
  refine And.intro (ev_oin (by omega) (by decide)) ?_
  show Q (.inl none) (ev_up m 218 (Int32.ofNat k).toNatClampNeg (vp_nar .char c)) t
  rw [ev_on (by omega), ev_ch_nar (ab_c16_ch hc)]
  refine hQ _ (fun c i _ z => ev_up_cell _ z _ _ _) ⟨?_, fun i hi => ?_⟩
  · rw [ev_up_cell _ (by decide), List.length_set]; exact hO.1
  · rw [List.length_set] at hi
    rw [List.getD_eq_getElem?_getD, List.getElem?_set]
    by_cases hik : k = i
    · subst hik
      rw [ev_up_same, if_pos rfl, if_pos hk]; rfl
    · rw [ev_up_idx _ _ (fun q => hik q.symm), if_neg hik, ← List.getD_eq_getElem?_getD]; exact hO.2 i hi
/-- Sheet.run -/
def ab_run (o : ab_Ls) (f : Nat) (a b : Int) : Nat → Nat
  | 0 => 0
  | n + 1 => if f < o.length ∧ a ≤ (o.getD f 0).toInt ∧ (o.getD f 0).toInt ≤ b then ab_run o (f + 1) a b n + 1 else 0
theorem ev_S72 {f n : Nat} {a b : Int32} {o : ab_Ls} (A : ev_all w) (hO : ab_O m o) (hl : o.length ≤ 1920) (hf : f ≤ o.length) (hn : n < 100) (hQ : Q (.inl (some (.int (Int32.ofNat (ab_run o f a.toInt b.toInt n))))) m t) : ev_K w 72 [.ref 217, .int (Int32.ofNat f), .int a, .int b, .int (Int32.ofNat n)] m t Q := by
  have hp : ev_prog[72]? = some ev_m72 := rfl
  have en := ev_ofNat_i (n := n) (by omega)
  have e1 := ev_toI hO.1 (by omega)
  have loop := ev_lup (P := fun k => ∀ kk : Int32, kk = Int32.ofNat k → f + k ≤ o.length → ab_run o f a.toInt b.toInt n = k + ab_run o (f + k) a.toInt b.toInt (n - k) → ev_J w ev_m72 (ev_nd 72) Q 3 [ev_vr 217, ev_vn f, ev_vi a, ev_vi b, ev_vn n, ev_vi kk] [] m t) n (by
    intro k hk ih kk ekk hfk hr
    subst ekk
    have ek := ev_ofNat_i (n := k) (by omega)
    have efk : Int32.ofNat f + Int32.ofNat k = Int32.ofNat (f + k) := ev_addN (by omega)
    have efi := ev_toI efk (by omega)
    have fin : ab_run o (f + k) a.toInt b.toInt (n - k) = 0 → Q (.inl (some (.int (Int32.ofNat k)))) m t := by
      intro h
      rw [h] at hr
      rw [hr] at hQ
      exact hQ
    have hv : ∀ h : f + k < o.length, m 218 (Int32.ofNat f + Int32.ofNat k).toNatClampNeg = o.getD (f + k) 0 := fun h => by rw [ev_at efk (by omega)]; exact hO.2 _ h
    refine ev_gK A hp [3] 40 ?_
    refine And.intro (fun (h : (Int32.ofNat n).toInt ≤ (Int32.ofNat k).toInt) => ?_) (fun (h : (Int32.ofNat k).toInt < (Int32.ofNat n).toInt) => ?_)
    · refine fin ?_
      rw [(by omega : n - k = 0), ab_run]
    · obtain ⟨j, hj⟩ : ∃ j, n - k = j + 1 := ⟨n - k - 1, by omega⟩
      rw [hj] at hr fin
      rw [ab_run] at hr fin
      refine And.intro (fun (h : (m 217 1).toInt ≤ (Int32.ofNat f + Int32.ofNat k).toInt) => fin (if_neg (by omega))) (fun (h : (Int32.ofNat f + Int32.ofNat k).toInt < (m 217 1).toInt) => ?_)
      have hlt : f + k < o.length := by omega
      refine And.intro (ev_iin efk (by omega) (by decide)) ?_
      refine And.intro (fun (h : (m 218 (Int32.ofNat f + Int32.ofNat k).toNatClampNeg).toInt < a.toInt) => fin (by rw [hv hlt] at h; exact if_neg (by omega))) (fun (h : a.toInt ≤ (m 218 (Int32.ofNat f + Int32.ofNat k).toNatClampNeg).toInt) => ?_)
      refine And.intro (ev_iin efk (by omega) (by decide)) ?_
      refine And.intro (fun (h : b.toInt < (m 218 (Int32.ofNat f + Int32.ofNat k).toNatClampNeg).toInt) => fin (by rw [hv hlt] at h; exact if_neg (by omega))) (fun (h2 : (m 218 (Int32.ofNat f + Int32.ofNat k).toNatClampNeg).toInt ≤ b.toInt) => ?_)
      rw [hv hlt] at h h2
      rw [if_pos ⟨hlt, h, h2⟩] at hr
      refine ih (by omega) _ (ev_succ (by omega)) (by omega) ?_
      rw [hr, (by omega : n - (k + 1) = j), (by omega : f + (k + 1) = f + k + 1)]
      omega)
  refine ⟨Or.inr ⟨217, _, rfl, rfl⟩, ev_m72, rfl, ev_gK A hp [3] 20 ?_⟩
  exact loop 0 (by omega) _ rfl (by omega) (by rw [Nat.zero_add]; rfl)
end EvEntry
