/-! the state stays as it may be, call by call -/
section AbOkay2
variable {z : ab_Z}
theorem ab_ok_type (hok : ab_ok z) (c : Int32) : ab_ok (ab_type z c).2.2 := by
  obtain ⟨⟨d1, d2⟩, rest⟩ := id hok
  unfold ab_type
  split
  · exact hok
  · rename_i hc
    split
    · exact hok
    · rename_i h8
      refine ⟨⟨?_, ?_⟩, rest⟩
      · show (zD z ++ [c]).length ≤ 8
        rw [List.length_append, List.length_singleton]; omega
      · intro v hv
        have hv2 : v ∈ zD z ++ [c] := hv
        rw [List.mem_append, List.mem_singleton] at hv2
        rcases hv2 with h | h
        · exact d2 v h
        · rw [h]; omega
theorem ab_ok_cut (hok : ab_ok z) (n : Int32) : ab_ok (ab_cut z n).2.2 := by
  obtain ⟨⟨d1, d2⟩, rest⟩ := id hok
  unfold ab_cut
  split
  · exact hok
  · refine ⟨⟨?_, ?_⟩, rest⟩
    · show ((zD z).take n.toInt.toNat).length ≤ 8
      rw [List.length_take]; omega
    · intro v hv
      exact d2 v (List.mem_of_mem_take hv)
theorem ab_ok_word (hok : ab_ok z) (x : Int32) : ab_ok (ab_word z x).2.2 := by
  obtain ⟨⟨d1, d2⟩, r, w1, ⟨p1, p2⟩, ⟨t1, i1, i2, i3, i4, i5, i6⟩, rest⟩ := id hok
  unfold ab_word
  cases hwi : ab_wi x with
  | none => exact hok
  | some v =>
    obtain ⟨hv4, -⟩ := ab_wi_some hwi
    dsimp only
    split
    · exact hok
    · rename_i hj
      split
      · exact hok
      · rename_i h6
        split
        · exact hok
        · rename_i h10
          have hvj : ¬ v ∈ (zT z).2.2.2.1 := fun h => hj ((zj_iff hok hv4).mpr h)
          have hge : ∀ u, (zW z u).length ≤ (ab_put (zW z) v (zD z) u).length := by
            intro u
            unfold ab_put
            split
            · rw [List.length_append]; omega
            · exact Nat.le_refl _
          refine ⟨⟨Nat.zero_le _, fun v hv => absurd hv List.not_mem_nil⟩, r, fun u hu => ?_, ⟨p1, fun q hq => ?_⟩, ⟨t1, fun p u i h => ?_, i2, i3, fun u hu i hi => ?_, i5, i6⟩, rest⟩
          · show (ab_put (zW z) v (zD z) u).length ≤ 10 ∧ ∀ l ∈ ab_put (zW z) v (zD z) u, l.length ≤ 6 ∧ ab_az l
            unfold ab_put
            by_cases huv : u = v
            · rw [if_pos huv, huv]
              refine ⟨by rw [List.length_append, List.length_singleton]; omega, fun l hl => ?_⟩
              rw [List.mem_append, List.mem_singleton] at hl
              rcases hl with h | h
              · exact (w1 v hv4).2 l h
              · rw [h]; exact ⟨by omega, d2⟩
            · rw [if_neg huv]; exact w1 u hu
          · exact ⟨⟨(p2 q hq).1.1, (ab_put_old (p2 q hq).1.2).1⟩, ⟨(p2 q hq).2.1, (ab_put_old (p2 q hq).2.2).1⟩⟩
          · exact Nat.lt_of_lt_of_le (i1 p u i h) (hge u)
          · have huv : ¬ u = v := fun h => hvj (by rw [← h]; exact hu)
            have hi2 : i < (ab_put (zW z) v (zD z) u).length := hi
            unfold ab_put at hi2
            rw [if_neg huv] at hi2
            exact i4 u hu i hi2
theorem ab_ok_rule (hok : ab_ok z) (n : Int32) : ab_ok (ab_rule z n).2.2 := by
  obtain ⟨⟨d1, d2⟩, ⟨r1, r2⟩, rest⟩ := id hok
  unfold ab_rule
  split
  · exact hok
  · rename_i hn
    split
    · exact hok
    · refine ⟨⟨Nat.zero_le _, fun v hv => absurd hv List.not_mem_nil⟩, ⟨?_, fun q hq => ?_⟩, rest⟩
      · show (zR z ++ [_]).length ≤ 8
        rw [List.length_append, List.length_singleton]; omega
      · have hq2 : q ∈ zR z ++ [((zD z).take n.toInt.toNat, (zD z).drop n.toInt.toNat)] := hq
        rw [List.mem_append, List.mem_singleton] at hq2
        rcases hq2 with h | h
        · exact r2 q h
        · rw [h]
          refine ⟨?_, ?_, ?_, fun v hv => d2 v (List.mem_of_mem_take hv), fun v hv => d2 v (List.mem_of_mem_drop hv)⟩
          · rw [List.length_take]; omega
          · rw [List.length_take]; omega
          · rw [List.length_drop]; omega
theorem ab_ok_equate (hok : ab_ok z) (x i y j : Int32) : ab_ok (ab_equate z x i y j).2.2 := by
  obtain ⟨d, r, w1, ⟨p1, p2⟩, rest⟩ := id hok
  unfold ab_equate
  split
  · rename_i a b ha hb
    split
    · exact hok
    · split
      · exact hok
      · obtain ⟨u, k, -, -, hu, hk, ea⟩ := ab_wd_some ha
        obtain ⟨v, l, -, -, hv, hl, eb⟩ := ab_wd_some hb
        refine ⟨d, r, w1, ⟨?_, fun q hq => ?_⟩, rest⟩
        · show (zP z ++ [_]).length ≤ 6
          rw [List.length_append, List.length_singleton]; omega
        · have hq2 : q ∈ zP z ++ [(a, b)] := hq
          rw [List.mem_append, List.mem_singleton] at hq2
          rcases hq2 with h | h
          · exact p2 q h
          · rw [h, ea, eb]
            have h1 := ab_zthw hok hu hk
            have h2 := ab_zthw hok hv hl
            exact ⟨h1, h2⟩
  · exact hok
theorem ab_ok_setT (hok : ab_ok z) {T : ab_T} (h : ab_Tok T ∧ ab_Tin (zW z) T) : ab_ok (ab_setT z T) := by
  obtain ⟨d, r, w1, p, -, rest⟩ := hok
  exact ⟨d, r, w1, p, h, rest⟩
theorem ab_ok_join (hok : ab_ok z) (x : Int32) : ab_ok (ab_join z x).2.2 := by
  unfold ab_join
  cases hwi : ab_wi x with
  | none => exact hok
  | some v =>
    obtain ⟨hv4, -⟩ := ab_wi_some hwi
    dsimp only
    split
    · exact hok
    · rename_i hj
      split
      · exact hok
      · rename_i h24
        obtain ⟨f1, f2, f3, f4⟩ := zp_facts hok hv4
        exact ab_ok_setT hok (ab_ok_jt hok.2.2.2.2.1.1 hok.2.2.2.2.1.2 hv4 (fun h => hj (Or.inl ((zj_iff hok hv4).mpr h))) (by omega) f1 f2 (hok.2.2.1 v hv4).1)
theorem ab_ok_retract (hok : ab_ok z) : ab_ok (ab_retract z).2.2 := by
  unfold ab_retract
  cases h : (zT z).2.2.2.1.getLast? with
  | none => exact hok
  | some v => exact ab_ok_setT hok (ab_ok_rt hok.2.2.2.2.1.1 hok.2.2.2.2.1.2 h)
theorem ab_ok_base (hok : ab_ok z) (x : Int32) : ab_ok (ab_base z x).2.2 := by
  obtain ⟨⟨t1, t2, t3, t4, t5, t6⟩, i⟩ := hok.2.2.2.2.1
  unfold ab_base
  split
  · exact ab_ok_setT hok ⟨⟨t1, t2, fun p v h => (by cases h), t4, t5, fun v h => (by cases h)⟩, i⟩
  · cases hwi : ab_wi x with
    | none => exact hok
    | some v =>
      obtain ⟨hv4, -⟩ := ab_wi_some hwi
      dsimp only
      split
      · exact ab_ok_setT hok ⟨⟨t1, t2, fun p v h => (by cases h), t4, t5, fun u h => (by cases h; exact hv4)⟩, i⟩
      · exact hok
theorem ab_ok_choose (hok : ab_ok z) (p x : Int32) : ab_ok (ab_choose z p x).2.2 := by
  obtain ⟨⟨t1, t2, t3, t4, t5, t6⟩, i⟩ := hok.2.2.2.2.1
  have ch : ∀ (q : Nat) (c : Option Nat), (∀ v, c = some v → v < 4) → ab_ok (ab_setT z (ab_cho (zT z) q c)) := by
    intro q c hc
    refine ab_ok_setT hok ⟨⟨t1, t2, fun k v h => ?_, t4, t5, t6⟩, i⟩
    have h2 : (if k = q then c else (zT z).2.2.1 k) = some v := h
    split at h2
    · exact hc v h2
    · exact t3 k v h2
  unfold ab_choose
  cases ab_pi z p with
  | none => exact hok
  | some q =>
    dsimp only
    split
    · exact ch q none (fun v h => by cases h)
    · cases hwi : ab_wi x with
      | none => exact hok
      | some v =>
        obtain ⟨hv4, -⟩ := ab_wi_some hwi
        dsimp only
        split
        · exact ch q (some v) (fun u h => by cases h; exact hv4)
        · exact hok
/-- signs -/
def ab_A16 (l : ab_Ls) : Prop := ∀ v ∈ l, ab_c16 v
theorem ab_A16_app {a b : ab_Ls} (ha : ab_A16 a) (hb : ab_A16 b) : ab_A16 (a ++ b) := by
  intro v hv
  rw [List.mem_append] at hv
  rcases hv with h | h
  · exact ha v h
  · exact hb v h
theorem ab_A16_nil : ab_A16 [] := fun v hv => absurd hv List.not_mem_nil
theorem ab_A16_one {c : Int32} (h : ab_c16 c) : ab_A16 [c] := fun v hv => by rw [List.mem_singleton] at hv; rw [hv]; exact h
theorem ab_A16_az {l : ab_Ls} (h : ab_az l) : ab_A16 l := fun v hv => by
  have := h v hv
  exact ⟨by omega, by omega⟩
theorem ab_A16_cat {h : Nat → ab_Ls} : ∀ n, (∀ k, k < n → ab_A16 (h k)) → ab_A16 (ab_cat h n)
  | 0, _ => ab_A16_nil
  | n + 1, hh => by
    rw [ab_cat]
    exact ab_A16_app (ab_A16_cat n (fun k hk => hh k (by omega))) (hh n (by omega))
theorem ab_A16_rd (hok : ab_ok z) {x : Option Nat} (hx : ab_okz z x) : ab_A16 (ab_rd (zf z) x) := by
  unfold ab_rd
  cases x with
  | none => exact ab_A16_one ⟨by decide, by decide⟩
  | some y =>
    obtain ⟨h1, h2⟩ := hx y rfl
    dsimp only
    unfold ab_rdf
    split
    · exact ab_A16_one ⟨by decide, by decide⟩
    · exact ab_A16_one ⟨by decide, by decide⟩
    · rename_i c l hf
      exact ab_A16_az (ab_zaz hok h1 h2 hf)
theorem ab_A16_nm {p : Nat} (hp : p < 100) : ab_A16 (ab_nm p) := by
  unfold ab_nm
  split
  · intro v hv
    simp only [List.mem_cons, List.not_mem_nil, or_false] at hv
    rcases hv with h | h <;> rw [h] <;> exact ab_c16N (by omega)
  · exact ab_A16_one (ab_c16N (by omega))
theorem ab_A16_grp (hok : ab_ok z) {x : Option Nat} (hx : ab_okz z x) (p : Nat) : ab_A16 (ab_grp (zT z) (zf z) p x) := by
  unfold ab_grp
  refine ab_A16_app (ab_A16_app (ab_A16_app (ab_A16_one ⟨by decide, by decide⟩) (ab_A16_rd hok hx)) (ab_A16_one ⟨by decide, by decide⟩)) (ab_A16_cat 4 (fun v hv => ?_))
  unfold ab_sg
  split
  · exact ab_A16_one (ab_c16N (by omega))
  · exact ab_A16_nil
theorem ab_A16_ek (hok : ab_ok z) {p : Nat} (hp : p < 100) (neg : Bool) : ∀ k, k ≤ 4 → ab_A16 (ab_ek (zT z) (zf z) p neg k).1
  | 0, _ => by
    have e0 : ab_A16 (ab_e0 (zT z) (zf z) p) := by
      unfold ab_e0
      exact ab_A16_app (ab_A16_app (ab_A16_app (ab_A16_nm hp) (ab_A16_one ⟨by decide, by decide⟩)) (ab_A16_rd hok (ab_lem_okz hok))) (ab_A16_one ⟨by decide, by decide⟩)
    rw [ab_ek]
    split
    · exact ab_A16_app e0 (ab_A16_grp hok (ab_lem_okz hok) p)
    · exact e0
  | k + 1, hk => by
    have ih := ab_A16_ek hok hp neg k (by omega)
    rw [ab_ek]
    split
    · refine ab_A16_app (ab_A16_app ih ?_) (ab_A16_grp hok (ab_nat_okz hok (by omega)) p)
      split
      · exact ab_A16_nil
      · exact ab_A16_one ⟨by decide, by decide⟩
    · exact ih
theorem ab_ok_app (hok : ab_ok z) (neg : Bool) : ab_ok (ab_app z neg).2.2 := by
  obtain ⟨d, r, w1, p, t, -, rest⟩ := id hok
  refine ⟨d, r, w1, p, t, ⟨ab_zwr2 hok neg, ?_⟩, rest⟩
  show ab_A16 (ab_wr (zT z) (zf z) neg (zT z).1)
  unfold ab_wr
  refine ab_A16_cat _ (fun k hk => ?_)
  have kT := t.1.1
  split
  · unfold ab_ent
    exact ab_A16_app (ab_A16_ek hok (by omega) neg 4 (Nat.le_refl _)) (ab_A16_one ⟨by decide, by decide⟩)
  · exact ab_A16_nil
theorem ab_ok_amend (hok : ab_ok z) (k : Int32) {c : Int32} (hc : ab_c16 c) : ab_ok (ab_amend z k c).2.2 := by
  obtain ⟨d, r, w1, p, t, ⟨o1, o2⟩, rest⟩ := id hok
  unfold ab_amend
  split
  · refine ⟨d, r, w1, p, t, ⟨?_, fun v hv => ?_⟩, rest⟩
    · show ((zO z).set k.toInt.toNat c).length ≤ 1920
      rw [List.length_set]; exact o1
    · rcases List.mem_or_eq_of_mem_set hv with h | h
      · exact o2 v h
      · rw [h]; exact hc
  · exact hok
theorem ab_Bok_bl (hok : ab_ok z) (R : Nat → Option Nat) : ∀ n, ∀ l, some l ∈ ab_bl (zO z) (zT z) (zf z) R n → l.length ≤ 12 ∧ ab_az l
  | 0, l, h => absurd h List.not_mem_nil
  | n + 1, l, h => by
    rw [ab_bl, List.mem_append] at h
    rcases h with h | h
    · exact ab_Bok_bl hok R n l h
    · unfold ab_bl1 at h
      split at h
      · rename_i f _
        unfold ab_bu1 at h
        split at h
        · cases h
        · split at h
          · rw [List.mem_singleton] at h; cases h
          · rw [List.mem_singleton] at h
            have e : l = ((zO z).drop f).take (ab_run (zO z) f 97 122 12) := by injection h
            have h1 := ab_run_le (zO z) 97 122 12 f
            refine ⟨by rw [e, List.length_take]; omega, fun v hv => ?_⟩
            rw [e] at hv
            obtain ⟨k, hk, he⟩ := List.getElem_of_mem hv
            rw [List.length_take, List.length_drop] at hk
            obtain ⟨g1, g2, g3⟩ := ab_run_in (zO z) 97 122 12 f k (by omega)
            rw [List.getElem_take, List.getElem_drop] at he
            rw [List.getD_eq_getElem?_getD, List.getElem?_eq_getElem g1] at g2 g3
            rw [← he]
            exact ⟨g2, g3⟩
      · split at h
        · cases h
        · rename_i y hy
          rw [List.mem_singleton] at h
          obtain ⟨h1, h2⟩ := ab_lem_okz hok y hy
          have h3 := ab_fo_len hok.2.1.2 hok.2.2.1 h1 h2
          have h4 : ab_fo (zR z) (zW z) y = some l := h.symm
          rw [h4] at h3
          exact ⟨h3, ab_zaz hok h1 h2 h.symm⟩
theorem ab_ok_rebuild (hok : ab_ok z) (x : Int32) : ab_ok (ab_rebuild z x).2.2 := by
  obtain ⟨d, r, w1, p, t, o, -, rest⟩ := id hok
  unfold ab_rebuild
  cases hwi : ab_wi x with
  | none => exact hok
  | some v =>
    dsimp only
    split
    · split
      · exact hok
      · rename_i R _
        refine ⟨d, r, w1, p, t, o, ⟨?_, ab_Bok_bl hok R _⟩, rest⟩
        have h1 := ab_bl_len (zO z) (zT z) (zf z) R (zT z).1
        have h2 := t.1.1
        exact Nat.le_trans h1 h2
    · exact hok
theorem ab_ok_concord (hok : ab_ok z) : ab_ok (ab_concord z).2.2 := by
  obtain ⟨d, r, w1, p, t, o, b, -, rest⟩ := id hok
  refine ⟨d, r, w1, p, t, o, b, ?_, rest⟩
  show (ab_fds z).length ≤ 40
  unfold ab_fds
  split
  · exact Nat.zero_le _
  · rw [List.length_map]
    exact Nat.le_trans (List.length_filter_le _ _) (by rw [List.length_range]; exact Nat.le_refl _)
theorem ab_ok_blocks (hok : ab_ok z) (x y : Int32) : ab_ok (ab_blocks z x y).2.2 := by
  obtain ⟨d, r, w1, p, t, o, b, f, -, rest⟩ := id hok
  unfold ab_blocks
  split
  · rename_i u v hu hv
    split
    · exact hok
    · split
      · refine ⟨d, r, w1, p, t, o, b, f, ?_, rest⟩
        show (zb z u v).length ≤ 50
        exact ab_bks_50 _ (w1 v (ab_wi_some hv).1).1 (w1 u (ab_wi_some hu).1).1
      · exact hok
  · exact hok
theorem ab_ok_parent (hok : ab_ok z) (x y : Int32) : ab_ok (ab_parent z x y).2.2 := by
  obtain ⟨d, r, w1, p, t, o, b, f, k, a1, a2⟩ := id hok
  unfold ab_parent
  cases hwi : ab_wi x with
  | none => exact hok
  | some u =>
    have hu := (ab_wi_some hwi).1
    obtain ⟨g1, g2⟩ := ab_ok_fam a1 a2 hu
    dsimp only
    split
    · exact ⟨d, r, w1, p, t, o, b, f, k, g1⟩
    · cases hwj : ab_wi y with
      | none => exact hok
      | some v =>
        have hv := (ab_wi_some hwj).1
        dsimp only
        split
        · exact hok
        · rename_i hab
          exact ⟨d, r, w1, p, t, o, b, f, k, g2 v hv (Bool.eq_false_iff.mpr hab)⟩
theorem ab_ok_same {y : ab_Y} (hok : ab_ok z) (h : y.2.2 = z) : ab_ok y.2.2 := by rw [h]; exact hok
theorem ab_ok_fform (x i : Int32) : (ab_fform z x i).2.2 = z := by
  unfold ab_fform; split <;> rfl
theorem ab_ok_dist (x i y j : Int32) : (ab_dist z x i y j).2.2 = z := by
  unfold ab_dist; split <;> rfl
theorem ab_ok_at (p x : Int32) : (ab_at z p x).2.2 = z := by
  unfold ab_at; split <;> rfl
theorem ab_ok_beside (x i y : Int32) : (ab_beside z x i y).2.2 = z := by
  unfold ab_beside; split <;> rfl
theorem ab_ok_outc (k : Int32) : (ab_outc z k).2.2 = z := by
  unfold ab_outc; split <;> rfl
theorem ab_ok_found (i : Int32) : (ab_found z i).2.2 = z := by
  unfold ab_found; split <;> rfl
theorem ab_ok_block (k c : Int32) : (ab_block z k c).2.2 = z := by
  unfold ab_block; split <;> rfl
theorem ab_ok_changes (x : Int32) : (ab_changes z x).2.2 = z := by
  unfold ab_changes
  split
  · rfl
  · split <;> rfl
/-- the first state -/
def ab_z0 : ab_Z := ([], [], fun _ => [], [], (0, fun _ _ => none, fun _ => none, [], none), [], [], [], [], fun _ => none)
theorem ab_ok_z0 : ab_ok ab_z0 := by
  refine ⟨⟨Nat.zero_le _, fun v hv => absurd hv List.not_mem_nil⟩, ⟨Nat.zero_le _, fun q hq => absurd hq List.not_mem_nil⟩, fun v _ => ⟨Nat.zero_le _, fun l hl => absurd hl List.not_mem_nil⟩, ⟨Nat.zero_le _, fun q hq => absurd hq List.not_mem_nil⟩, ⟨⟨Nat.zero_le _, fun p v i h => (by cases h), fun p v h => (by cases h), Nat.zero_le _, fun v hv => absurd hv List.not_mem_nil, fun v h => (by cases h)⟩, fun p v i h => (by cases h), List.nodup_nil, fun p v _ _ => rfl, fun v hv => absurd hv List.not_mem_nil, fun p q v i hp => absurd hp (Nat.not_lt_zero _), fun p hp => absurd hp (Nat.not_lt_zero _)⟩, ⟨Nat.zero_le _, fun v hv => absurd hv List.not_mem_nil⟩, ⟨Nat.zero_le _, fun l hl => absurd hl List.not_mem_nil⟩, Nat.zero_le _, Nat.zero_le _, fun v u _ h => (by cases h), fun v hv => ?_⟩
  rfl
end AbOkay2
