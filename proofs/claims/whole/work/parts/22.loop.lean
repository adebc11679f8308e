/-! the loop of a method, and its calls -/
section EvLoop
def ev_or (x y : Option ev_F) : Option ev_F := match x with
  | some F => some F
  | none => y
theorem ev_or_of {x y : Option ev_F} {F : ev_F} (hs : ev_or x y = some F) : x = some F ∨ y = some F := by
  cases x with
  | none => exact Or.inr hs
  | some z => exact Or.inl hs
def ev_csum (st : List Value) : Nat := (st.map fun v => v.category).sum
def ev_s0 (nd : Nat × Nat) (i : Instr) (a b pc : Nat) (L : List (Option Value)) (st : List Value) (h : ev_H) : Option ev_F := match i with
  | .invokespecial _ => (match st with | .ref x :: st => if a = 999 ∧ 1 ≤ nd.1 ∧ ev_csum st + 12 ≤ nd.2 then some (pc + 3, L, st, h) else none | _ => none)
  | .ldc _ => if b = 1 then some (pc + 2, L, .int (Int32.ofNat a) :: st, h) else none
  | _ => none
def ev_sim (cp : ev_P) (nd : Nat × Nat) (M : ev_M) (i : Instr) (a b pc : Nat) (L : List (Option Value)) (st : List Value) (h : ev_H) : Option ev_F :=
  ev_or (ev_s2 i pc L st h) (ev_or (ev_s1 i pc L st h) (ev_or (ev_s6 i pc L st h) (ev_or (ev_s4 i pc L st h) (ev_or (ev_s7 i a b pc L st h) (ev_or (ev_s8 i pc L st h) (ev_or (ev_s3 M.2.2.1 i pc L st h) (ev_or (ev_s5 i pc L st h) (ev_or (ev_s9 cp i a pc L st h) (ev_s0 nd i a b pc L st h)))))))))
def ev_fin (cp : ev_P) (nd : Nat × Nat) (M : ev_M) (i : Instr) (a : Nat) (st : List Value) (h : ev_H) : Option (ev_R × ev_H) := match i with
  | .ireturn => (match st with | [.int v] => (match M.2.2.2.1 with | some ty => if narrow ty (.int v) = .int v then some (.inl (some (.int v)), h) else none | none => none) | _ => none)
  | .return_ => (match st with | [] => (match M.2.2.2.1 with | none => some (.inl none, h) | some _ => none) | _ => none)
  | .areturn => (match st with | [.ref x] => (match M.2.2.2.1 with | some (.object _) => some (.inl (some (.ref x)), h) | some (.array _) => some (.inl (some (.ref x)), h) | _ => none) | _ => none)
  | .new _ => if ¬ a < ev_nc ∧ h.length + 1 ≤ cp.1 ∧ ev_cost h + 6 ≤ cp.2 ∧ 6 ≤ nd.1 ∧ ev_csum st + 82 ≤ nd.2 then some (.inr h.length, h ++ [.inr (a, [])]) else none
  | _ => none
def ev_cats (vs : List Value) : Bool := vs.all (fun v => decide (v.category = 1))
def ev_inv (i : Instr) (a b : Nat) (st : List Value) (h : ev_H) : Option (List Value × List Value) := match i with
  | .invokestatic _ => if b ≤ st.length ∧ ev_cats (st.take b) = true then some ((st.take b).reverse, st.drop b) else none
  | .invokevirtual _ => (match st.drop b with
    | .ref x :: rest => (match h[x]? with
      | some (.inr (ci, _)) => if ev_mcs[a]? = some ci ∧ b ≤ st.length ∧ ev_cats (st.take b) = true then some (.ref x :: (st.take b).reverse, rest) else none
      | _ => none)
    | _ => none)
  | .invokespecial _ => (match st.drop b with
    | .ref x :: rest => if a < 900 ∧ b ≤ st.length ∧ ev_cats (st.take b) = true then some (.ref x :: (st.take b).reverse, rest) else none
    | _ => none)
  | _ => none
def ev_loop (cp : ev_P) (nd : Nat × Nat) (call : Nat → List Value → ev_H → Option (ev_R × ev_H)) (M : ev_M) : Nat → Nat → List (Option Value) → List Value → ev_H → Option (ev_R × ev_H)
  | 0, _, _, _, _ => none
  | n + 1, pc, L, st, h => match ev_ins M pc with
    | none => none
    | some (i, a, b) => match ev_sim cp nd M i a b pc L st h with
      | some F => ev_loop cp nd call M n F.1 F.2.1 F.2.2.1 F.2.2.2
      | none => match ev_fin cp nd M i a st h with
        | some r => some r
        | none => match ev_inv i a b st h with
          | none => none
          | some (vs, rest) => match ev_prog[a]? with
           | none => none
           | some M' => if (ev_nd a).1 + 1 ≤ nd.1 ∧ ev_csum rest + (M'.2.2.1 + 11) + (ev_nd a).2 ≤ nd.2 then (match call a vs h with
            | none => none
            | some (.inl v, h') => ev_loop cp nd call M n (pc + 3) L (v.toList ++ rest) h'
            | some (.inr x, h') => (match M.2.2.2.2.1 with | [] => (match h'[x]? with | some (.inr (_, [])) => some (.inr x, h') | _ => none) | _ => none)) else none
def ev_call (cp : ev_P) (N : Nat) : Nat → Nat → List Value → ev_H → Option (ev_R × ev_H)
  | 0, _, _, _ => none
  | d + 1, k, vs, h => match ev_prog[k]? with
    | none => none
    | some M => ev_loop cp (ev_nd k) (ev_call cp N d) M N 0 (ev_L0 M.2.2.1 vs) [] h
variable {w : ev_W} {M : ev_M} {d : Nat × Nat} {h0 : ev_H} {Q : ev_R → ev_H → Prop} {pc : Nat} {L : List (Option Value)} {st : List Value} {h : ev_H} {a b : Nat} {i : Instr}
theorem ev_s0_ok (ok : ev_ok w) (hM : ev_dec M = true) (hk : ev_lnks M = true) (hi : ev_ins M pc = some (i, a, b)) {F : ev_F} (hs : ev_s0 d i a b pc L st h = some F) (k : ev_G w M d h0 Q F.1 F.2.1 F.2.2.1 F.2.2.2) : ev_G w M d h0 Q pc L st h := by
  have hl := ev_lnk_at hk hi
  unfold ev_s0 at hs
  split at hs
  · split at hs
    · split at hs
      · rename_i hc
        obtain ⟨hc1, hc2, hc3⟩ := hc
        subst hc1
        cases hs
        rename_i idx _ _ _
        have hl3 : (ev_has (.methodLink M.1.cls idx Lib.objectInit) && ev_has (.instanceMethod Lib.objectInit) && ev_has (.code Lib.objectInit ⟨#[0xb1]⟩ 1 none)) = true := hl
        simp only [Bool.and_eq_true] at hl3
        exact ev_objInit ok hM hi hl3.1.1 hl3.1.2 hl3.2 hc2 hc3 k
      · cases hs
    · cases hs
  · split at hs
    · rename_i hc
      subst hc
      cases hs
      simp only [ev_lnk] at hl
      exact ev_ldc ok hM hi hl k
    · cases hs
  · cases hs
def ev_cpw (w : ev_W) : ev_P := (w.2.2.2.2.2.2.1, w.2.2.2.2.2.2.2.1)
theorem ev_sim_ok (ok : ev_ok w) (hM : ev_dec M = true) (hk : ev_lnks M = true) (hi : ev_ins M pc = some (i, a, b)) {F : ev_F} (hs : ev_sim (ev_cpw w) d M i a b pc L st h = some F) (k : ev_G w M d h0 Q F.1 F.2.1 F.2.2.1 F.2.2.2) : ev_G w M d h0 Q pc L st h := by
  unfold ev_sim at hs
  rcases ev_or_of hs with hs | hs
  · exact ev_s2_ok hM hi hs k
  rcases ev_or_of hs with hs | hs
  · exact ev_s1_ok hM hi hs k
  rcases ev_or_of hs with hs | hs
  · exact ev_s6_ok hM hi hs k
  rcases ev_or_of hs with hs | hs
  · exact ev_s4_ok hM hi hs k
  rcases ev_or_of hs with hs | hs
  · exact ev_s7_ok ok hM hk hi hs k
  rcases ev_or_of hs with hs | hs
  · exact ev_s8_ok ok hM hi hs k
  rcases ev_or_of hs with hs | hs
  · exact ev_s3_ok hM hi hs k
  rcases ev_or_of hs with hs | hs
  · exact ev_s5_ok hM hi hs k
  rcases ev_or_of hs with hs | hs
  · exact ev_s9_ok ok hM hk hi hs k
  · exact ev_s0_ok ok hM hk hi hs k
theorem ev_fin_ok (ok : ev_ok w) (hsp : ∀ x ∈ ev_sp, x.before w.2.2.1 w.2.1 = true) (hM : ev_dec M = true) (hk : ev_lnks M = true) (hi : ev_ins M pc = some (i, a, b)) {r : ev_R} {h' : ev_H} (hs : ev_fin (ev_cpw w) d M i a st h = some (r, h')) (hQ : Q r h') : ev_G w M d h0 Q pc L st h := by
  have hl := ev_lnk_at hk hi
  unfold ev_fin at hs
  split at hs
  · split at hs
    · split at hs
      · rename_i hr
        split at hs
        · rename_i hn
          cases hs
          exact ev_ireturn hM hi hr hn hQ
        · cases hs
      · cases hs
    · cases hs
  · split at hs
    · split at hs
      · rename_i hr
        cases hs
        exact ev_return hM hi hr hQ
      · cases hs
    · cases hs
  · split at hs
    · split at hs
      · rename_i hr
        cases hs
        exact ev_areturn hM hi hr (Or.inl ⟨_, rfl⟩) hQ
      · rename_i hr
        cases hs
        exact ev_areturn hM hi hr (Or.inr ⟨_, rfl⟩) hQ
      · cases hs
    · cases hs
  · split at hs
    · rename_i hc
      cases hs
      have hl' : (if a < ev_nc then ev_lkn M.1.cls _ a else ev_thr M pc _ a) = true := hl
      rw [if_neg hc.1] at hl'
      simp only [ev_thr, Bool.or_eq_true] at hl'
      rcases hl' with hl' | hl'
      · unfold ev_thr1 at hl'
        split at hl'
        · rename_i hq i3 i4 i6 i9
          simp only [Bool.and_eq_true, decide_eq_true_eq] at hl'
          obtain ⟨⟨⟨q1, q2⟩, q3⟩, q4⟩ := hl'
          exact ev_throw ok hsp hM hq q1 q2 hi i3 i4 i6 i9 q3 (fun z hz => by simpa only [Bool.not_eq_true'] using List.all_eq_true.mp q4 z hz) hc.2.2.2.1 hc.2.2.2.2 hc.2.1 hc.2.2.1 hQ
        · cases hl'
      · unfold ev_thr2 at hl'
        split at hl'
        · rename_i hq i3 i4 i6 i9
          simp only [Bool.and_eq_true, decide_eq_true_eq] at hl'
          obtain ⟨⟨⟨q1, q2⟩, q3⟩, q4⟩ := hl'
          exact ev_throwW ok hsp hM hq q1 q2 hi i3 i4 i6 i9 q3 (fun z hz => by simpa only [Bool.not_eq_true'] using List.all_eq_true.mp q4 z hz) hc.2.2.2.1 hc.2.2.2.2 hc.2.1 hc.2.2.1 hQ
        · cases hl'
    · cases hs
  · cases hs
theorem ev_cats_of {vs : List Value} (hc : ev_cats vs = true) : ∀ v ∈ vs, v.category = 1 := fun v hv => of_decide_eq_true (List.all_eq_true.mp hc v hv)
theorem ev_lkm_of {own : String} {idx : Nat} {M' : ev_M} (hl : ev_lkm own idx M' = true) : ev_has (.methodLink own idx M'.1) = true ∨ ev_has (.methodLinkNest own idx M'.1 ev_host) = true := by
  simpa only [ev_lkm, Bool.or_eq_true] using hl
theorem ev_inv_ok {d' : Nat × Nat} (ok : ev_ok w) (hM : ev_dec M = true) (hk : ev_lnks M = true) (hi : ev_ins M pc = some (i, a, b)) {vs rest : List Value} (hs : ev_inv i a b st h = some (vs, rest)) {M' : ev_M} (hp : ev_prog[a]? = some M') (hm : ev_mw M' = true) {Q' : ev_R → ev_H → Prop}
    (hdf : d'.1 + 1 ≤ d.1) (hgs : ev_csum rest + (M'.2.2.1 + 11) + d'.2 ≤ d.2) (K : ev_G w M' d' h Q' 0 (ev_L0 M'.2.2.1 vs) [] h) (kk : ∀ (v : Option Value) (h' : ev_H), Q' (.inl v) h' → ev_G w M d h0 Q (pc + 3) L (v.toList ++ rest) h')
    (kx : ∀ (k ce : Nat) (h' : ev_H), Q' (.inr k) h' → h'[k]? = some (.inr (ce, [])) → ev_X w M d h0 Q pc L rest h' k) : ev_G w M d h0 Q pc L st h := by
  have hl := ev_lnk_at hk hi
  unfold ev_inv at hs
  split at hs
  · split at hs
    · rename_i hc
      obtain ⟨c1, c2⟩ := hc
      cases hs
      simp only [ev_lnk, hp, Bool.and_eq_true, decide_eq_true_eq] at hl
      obtain ⟨⟨⟨l1, l2⟩, l3⟩, l4⟩ := hl
      have hlen : (st.take b).reverse.length = b := by rw [List.length_reverse, List.length_take]; omega
      have h1 := ev_callS (vs := (st.take b).reverse) (st := st.drop b) ok hM hi hm (ev_lkm_of l1) l2 (by rw [hlen]; exact l3) (by rw [hlen]; exact l4) (fun v hv => ev_cats_of c2 v (List.mem_reverse.mp hv)) hdf hgs K kk kx
      rw [List.reverse_reverse, List.take_append_drop] at h1
      exact h1
    · cases hs
  · split at hs
    · rename_i x rest' hst
      split at hs
      · rename_i ci fs hx
        split at hs
        · rename_i hc
          obtain ⟨c0, c1, c2⟩ := hc
          cases hs
          simp only [ev_lnk, hp, c0, Option.getD_some] at hl
          cases hq : ev_cl[ci]? with
          | none => rw [hq] at hl; cases hl
          | some q =>
            rw [hq] at hl
            simp only [Bool.and_eq_true, decide_eq_true_eq] at hl
            obtain ⟨⟨⟨⟨⟨l1, l2⟩, l3⟩, l4⟩, l5⟩, l6⟩ := hl
            have hlen : (st.take b).reverse.length = b := by rw [List.length_reverse, List.length_take]; omega
            have h1 := ev_callV (vs := (st.take b).reverse) (st := rest) ok hM hi hm (ev_lkm_of l1) l2 l3 hx hq l6 (by rw [hlen]; exact l4) (by rw [hlen]; exact l5) (fun v hv => ev_cats_of c2 v (List.mem_reverse.mp hv)) hdf hgs K kk kx
            rw [List.reverse_reverse, ← hst, List.take_append_drop] at h1
            exact h1
        · cases hs
      · cases hs
    · cases hs
  · split at hs
    · rename_i x rest' hst
      split at hs
      · rename_i hc
        obtain ⟨c0, c1, c2⟩ := hc
        cases hs
        have n1 : ¬ a = 998 := by omega
        have n2 : ¬ a = 999 := by omega
        simp only [ev_lnk, hp, if_neg n1, if_neg n2, Bool.and_eq_true, decide_eq_true_eq] at hl
        obtain ⟨⟨⟨⟨⟨⟨l1, l2⟩, l3⟩, l4⟩, l5⟩, l6⟩, l7⟩ := hl
        have hlen : (st.take b).reverse.length = b := by rw [List.length_reverse, List.length_take]; omega
        have h1 := ev_callI (vs := (st.take b).reverse) (st := rest) ok hM hi hm l6 l7 (ev_lkm_of l1) l2 l5 (by rw [hlen]; exact l3) (by rw [hlen]; exact l4) (fun v hv => ev_cats_of c2 v (List.mem_reverse.mp hv)) hdf hgs K kk kx
        rw [List.reverse_reverse, ← hst, List.take_append_drop] at h1
        exact h1
      · cases hs
    · cases hs
  · cases hs
theorem ev_loop_ok (ok : ev_ok w) (hsp : ∀ x ∈ ev_sp, x.before w.2.2.1 w.2.1 = true) (hM : ev_dec M = true) (hk : ev_lnks M = true) {call : Nat → List Value → ev_H → Option (ev_R × ev_H)}
    (hcall : ∀ (k : Nat) (vs : List Value) (h1 : ev_H) (r : ev_R) (h2 : ev_H), call k vs h1 = some (r, h2) → ∃ M', ev_prog[k]? = some M' ∧ ev_mw M' = true ∧ ev_G w M' (ev_nd k) h1 (fun r' h' => r' = r ∧ h' = h2) 0 (ev_L0 M'.2.2.1 vs) [] h1) {r : ev_R} {h2 : ev_H} :
    ∀ (n pc : Nat) (L : List (Option Value)) (st : List Value) (h : ev_H), ev_loop (ev_cpw w) d call M n pc L st h = some (r, h2) → ev_G w M d h0 (fun r' h' => r' = r ∧ h' = h2) pc L st h := by
  intro n
  induction n with
  | zero => intro pc L st h hs; cases hs
  | succ n ih =>
    intro pc L st h hs
    rw [ev_loop] at hs
    split at hs
    · cases hs
    · rename_i i a b hi
      split at hs
      · rename_i F hF
        exact ev_sim_ok ok hM hk hi hF (ih _ _ _ _ hs)
      · split at hs
        · rename_i r1 hr
          cases hs
          exact ev_fin_ok ok hsp hM hk hi hr ⟨rfl, rfl⟩
        · split at hs
          · cases hs
          · rename_i vs rest hv
            split at hs
            · cases hs
            rename_i M1 hM1
            split at hs
            rotate_left
            · cases hs
            rename_i hroom
            split at hs
            · cases hs
            · rename_i v h' hc
              obtain ⟨M', q1, q2, q3⟩ := hcall _ _ _ _ _ hc
              cases hM1.symm.trans q1
              refine ev_inv_ok ok hM hk hi hv q1 q2 hroom.1 hroom.2 q3 (fun v1 h1 hq => ?_) (fun k ce h1 hq _ => ?_)
              · obtain ⟨e1, rfl⟩ := hq
                cases e1
                exact ih _ _ _ _ hs
              · cases hq.1
            · rename_i x h' hc
              obtain ⟨M', q1, q2, q3⟩ := hcall _ _ _ _ _ hc
              cases hM1.symm.trans q1
              split at hs
              · rename_i hh
                split at hs
                · rename_i ce hx
                  cases hs
                  refine ev_inv_ok ok hM hk hi hv q1 q2 hroom.1 hroom.2 q3 (fun v1 h1 hq => ?_) (fun k ce' h1 hq hce => ?_)
                  · cases hq.1
                  · obtain ⟨e1, rfl⟩ := hq
                    cases e1
                    exact ev_leaves hce (by rw [hh]; intro q hq; cases hq) ⟨rfl, rfl⟩
                · cases hs
              · cases hs
theorem ev_call_ok (ok : ev_ok w) (hsp : ∀ x ∈ ev_sp, x.before w.2.2.1 w.2.1 = true) (hpr : ∀ M ∈ ev_prog, ev_mw M = true ∧ ev_lnks M = true) {N : Nat} : ∀ (d k : Nat) (vs : List Value) (h1 : ev_H) (r : ev_R) (h2 : ev_H), ev_call (ev_cpw w) N d k vs h1 = some (r, h2) →
    ∃ M', ev_prog[k]? = some M' ∧ ev_mw M' = true ∧ ev_G w M' (ev_nd k) h1 (fun r' h' => r' = r ∧ h' = h2) 0 (ev_L0 M'.2.2.1 vs) [] h1 := by
  intro d
  induction d with
  | zero => intro k vs h1 r h2 hs; cases hs
  | succ d ih =>
    intro k vs h1 r h2 hs
    rw [ev_call] at hs
    split at hs
    · cases hs
    · rename_i M' hp
      obtain ⟨m1, m2⟩ := hpr M' (List.mem_of_getElem? hp)
      have m3 : ev_dec M' = true := by
        simp only [ev_mw, Bool.and_eq_true] at m1
        exact m1.2
      exact ⟨M', hp, m1, ev_loop_ok ok hsp m3 m2 ih N 0 _ [] h1 hs⟩
end EvLoop
