/-! the model: forms, likeness -/
section EvMform
variable {w : ev_W} {Q : ev_QT} {m : ev_Mem} {t : ev_H}
theorem ab_pd_pre {l : ab_Ls} {f : Nat} : ∀ (rs : List (ab_Ls × ab_Ls)) (r i n : Nat), ab_pd l f rs r = some (i, n) → (rs.getD (i - r) ([], [])).1.isPrefixOf (l.drop f) = true
  | [], _, _, _, h => by cases h
  | q :: rs, r, i, n, h => by
    rw [ab_pd] at h
    split at h
    · split at h
      · rename_i hq
        cases h
        rw [Nat.sub_self]; exact hq
      · cases h
    · rename_i i' n' hd
      split at h
      · rename_i hq
        cases h
        rw [Nat.sub_self]; exact hq.2
      · cases h
        have h1 := ab_pd_pre rs (r + 1) i n hd
        have h2 := (ab_pd_lt rs (r + 1) i n hd).1
        obtain ⟨k, hk⟩ : ∃ k, i - r = k + 1 := ⟨i - r - 1, by omega⟩
        rw [hk]
        rw [(by omega : i - (r + 1) = k)] at h1
        exact h1
/-- ruleAt -/
theorem ev_S145 {x : Option Nat} {f : Nat} {l : ab_Ls} {rs : List (ab_Ls × ab_Ls)} (A : ev_all w) (hR : ab_MR m rs) (hRo : ab_Rok rs) (hl8 : rs.length ≤ 8) (hl : ab_sm m x l) (hf : f ≤ l.length) (hQ : Q (.inl (some (.int (ab_oi (ab_pick rs l f))))) m t) : ev_K w 145 [.ref 277, .int (ab_oi x), .int (Int32.ofNat f), .int (Int32.ofNat l.length)] m t Q := by
  have hp : ev_prog[145]? = some ev_m145 := rfl
  have i1 : (Int32.ofInt 1).toInt = 1 := by decide
  rw [ab_pick_pd (fun q hq => (hRo q hq).1)] at hQ
  have hlen : ∀ r, r < rs.length → m 286 r = Int32.ofNat (rs.getD r ([], [])).1.length ∧ (rs.getD r ([], [])).1.length ≤ 3 := fun r hr => ⟨(hR.2 r hr).1, (ab_Rok_at hRo hr).2.1⟩
  have loop : ∀ k, k ≤ rs.length → ∀ (bb : Int32) (o6 : Option Value), bb = ab_oi ((ab_pd l f (rs.drop k) k).map (fun p => p.1)) → ev_J w ev_m145 (ev_nd 145) Q 11 [ev_vr 277, ev_vi (ab_oi x), ev_vn f, ev_vn l.length, ev_vi bb, ev_vi (Int32.ofInt ((k : Int) - 1)), o6] [] m t := by
    intro k
    induction k with
    | zero =>
      intro _ bb o6 ebb
      refine ev_gK A hp [] 10 ?_
      refine And.intro (fun _ => ?_) (fun (h : 0 ≤ (Int32.ofInt (((0 : Nat) : Int) - 1)).toInt) => ?_)
      · rw [List.drop_zero] at ebb
        rw [← ebb] at hQ
        exact hQ
      · rw [ev_ofInt_i (by omega) (by omega)] at h
        omega
    | succ k ih =>
      intro hk bb o6 ebb
      rw [ev_inc1 (by omega)]
      have ek := ev_ofNat_i (n := k) (by omega)
      have hkl : k < rs.length := by omega
      obtain ⟨e1, e2⟩ := hlen k hkl
      have hd : rs.drop k = rs.getD k ([], []) :: rs.drop (k + 1) := by
        rw [List.drop_eq_getElem_cons hkl, List.getD_eq_getElem?_getD, List.getElem?_eq_getElem hkl]; rfl
      have hk2 : (Int32.ofNat k).toNatClampNeg = k := ev_on (by omega)
      have next : ∀ (b2 x6 : Int32), b2 = ab_oi ((ab_pd l f (rs.drop k) k).map (fun p => p.1)) → ev_J w ev_m145 (ev_nd 145) Q 78 [ev_vr 277, ev_vi (ab_oi x), ev_vn f, ev_vn l.length, ev_vi bb, ev_vn k, ev_vi x6] [.int b2] m t := by
        intro b2 x6 hb2
        refine ev_gK A hp [11] 10 ?_
        show ev_J w ev_m145 (ev_nd 145) Q 11 [ev_vr 277, ev_vi (ab_oi x), ev_vn f, ev_vn l.length, ev_vi b2, ev_vi (Int32.ofNat k + Int32.ofInt (-1)), ev_vi x6] [] m t
        rw [ev_dec1 (by omega)]
        exact ih (by omega) b2 _ hb2
      rw [hd, ab_pd] at next
      have h52 : ∀ b : Bool, (match ab_pd l f (rs.drop (k + 1)) (k + 1) with | none => b = true | some (i, n) => (b = true ↔ n ≤ (rs.getD k ([], [])).1.length)) → ∀ o6 : Option Value, ev_J w ev_m145 (ev_nd 145) Q 52 [ev_vr 277, ev_vi (ab_oi x), ev_vn f, ev_vn l.length, ev_vi bb, ev_vn k, o6] [.int (ab_bi b)] m t := by
        intro b hb o6
        refine ev_gK A hp [78] 20 ?_
        refine And.intro (fun h => ?_) (fun h => ?_)
        · have hbf := ab_bi_eq h
          refine next _ _ ?_
          rw [ebb]
          cases hpd : ab_pd l f (rs.drop (k + 1)) (k + 1) with
          | none => rw [hpd] at hb; simp only at hb; rw [hbf] at hb; cases hb
          | some p =>
            obtain ⟨i, n⟩ := p
            rw [hpd] at hb
            simp only at hb ⊢
            rw [if_neg (fun q => by rw [hb.mpr q.1] at hbf; cases hbf)]
        · have hbt := ab_bi_neq h
          refine ev_S146 A hR hRo hl8 hkl hl hf ?_
          refine And.intro (fun h2 => ?_) (fun h2 => ?_)
          · have h3 := ab_bi_eq h2
            refine next _ _ ?_
            rw [ebb]
            cases hpd : ab_pd l f (rs.drop (k + 1)) (k + 1) with
            | none => simp only; rw [if_neg (by rw [h3]; exact Bool.false_ne_true)]
            | some p =>
              obtain ⟨i, n⟩ := p
              simp only
              rw [if_neg (fun q => by rw [h3] at q; exact Bool.false_ne_true q.2)]
          · have h3 := ab_bi_neq h2
            refine next _ _ ?_
            cases hpd : ab_pd l f (rs.drop (k + 1)) (k + 1) with
            | none => simp only; rw [if_pos h3]; rfl
            | some p =>
              obtain ⟨i, n⟩ := p
              rw [hpd] at hb
              simp only at hb ⊢
              rw [if_pos ⟨hb.mp hbt, h3⟩]; rfl
      refine ev_gK A hp [16] 10 ?_
      refine And.intro (fun (h : (Int32.ofNat k).toInt < 0) => by omega) (fun _ => ?_)
      show ev_J w ev_m145 (ev_nd 145) Q 16 [ev_vr 277, ev_vi (ab_oi x), ev_vn f, ev_vn l.length, ev_vi bb, ev_vn k, o6] [] m t
      cases hpd : ab_pd l f (rs.drop (k + 1)) (k + 1) with
      | none =>
        rw [hpd] at ebb
        have hb1 : bb.toInt = -1 := by rw [ebb]; decide
        refine ev_gK A hp [52] 10 ?_
        refine And.intro (fun _ => h52 true (by rw [hpd]) _) (fun (h : 0 ≤ bb.toInt) => by omega)
      | some p =>
        obtain ⟨i, n⟩ := p
        obtain ⟨a1, a2, a3⟩ := ab_pd_lt _ _ _ _ hpd
        rw [List.length_drop] at a2
        have hi : i < rs.length := by omega
        have hgi : ((rs.drop (k + 1)).getD (i - (k + 1)) ([], [])) = rs.getD i ([], []) := by
          rw [List.getD_eq_getElem?_getD, List.getElem?_drop, (by omega : k + 1 + (i - (k + 1)) = i), ← List.getD_eq_getElem?_getD]
        rw [hgi] at a3
        obtain ⟨e3, e4⟩ := hlen i hi
        rw [hpd] at ebb
        have ebi : bb = Int32.ofNat i := ebb
        have hbi := ev_toI ebi (by omega)
        have el1 := ev_ofNat_i (n := (rs.getD k ([], [])).1.length) (by omega)
        have el2 := ev_ofNat_i (n := (rs.getD i ([], [])).1.length) (by omega)
        refine ev_gK A hp [52] 30 ?_
        refine And.intro (fun (h : bb.toInt < 0) => by omega) (fun _ => ?_)
        refine And.intro (ev_oin (by omega) (by decide)) ?_
        refine And.intro (fun _ => ?_) (fun (h : bb.toInt < 0) => by omega)
        refine And.intro (ev_iin ebi (by omega) (by decide)) ?_
        refine And.intro (fun (h : (m 286 (Int32.ofNat k).toNatClampNeg).toInt < (m 286 bb.toNatClampNeg).toInt) => ?_) (fun (h : (m 286 bb.toNatClampNeg).toInt ≤ (m 286 (Int32.ofNat k).toNatClampNeg).toInt) => ?_)
        · rw [hk2, ev_at ebi (by omega), e1, e3] at h
          exact h52 false (by rw [hpd]; simp only; rw [a3]; exact ⟨fun q => (by cases q), fun q => (by omega)⟩) _
        · rw [hk2, ev_at ebi (by omega), e1, e3] at h
          exact h52 true (by rw [hpd]; simp only; rw [a3]; exact ⟨fun _ => (by omega), fun _ => (by trivial)⟩) _
  refine ⟨Or.inr ⟨277, _, rfl, rfl⟩, ev_m145, rfl, ev_gK A hp [11] 10 ?_⟩
  show ev_J w ev_m145 (ev_nd 145) Q 11 [ev_vr 277, ev_vi (ab_oi x), ev_vn f, ev_vn l.length, ev_vi (-1), ev_vi (m 277 9 - Int32.ofInt 1), none] [] m t
  have e2 : m 277 9 - Int32.ofInt 1 = Int32.ofInt ((rs.length : Int) - 1) := by
    rw [hR.1]
    have el := ev_ofNat_i (n := rs.length) (by omega)
    apply ev_eq_of
    rw [ev_sub_i (by omega) (by omega), el, i1, ev_ofInt_i (by omega) (by omega)]
  rw [e2]
  refine loop rs.length (Nat.le_refl _) _ _ ?_
  rw [List.drop_length]; rfl
theorem ab_pick_pre {rs : List (ab_Ls × ab_Ls)} {l : ab_Ls} {f r : Nat} (hRo : ab_Rok rs) (hf : f ≤ l.length) (h : ab_pick rs l f = some r) : f + (rs.getD r ([], [])).1.length ≤ l.length := by
  rw [ab_pick_pd (fun q hq => (hRo q hq).1)] at h
  rw [Option.map_eq_some_iff] at h
  obtain ⟨⟨i, n⟩, h1, h2⟩ := h
  have h3 := ab_pd_pre rs 0 i n h1
  simp only at h2
  subst h2
  rw [Nat.sub_zero] at h3
  have h4 := (List.isPrefixOf_iff_prefix.mp h3).length_le
  rw [List.length_drop] at h4
  omega
theorem ab_br_fuel {rs : List (ab_Ls × ab_Ls)} {l : ab_Ls} (hRo : ab_Rok rs) : ∀ (n f : Nat), l.length - f ≤ n → ab_br rs l n f = ab_br rs l (l.length - f) f := by
  intro n
  induction n using Nat.strongRecOn with
  | _ n ih =>
    intro f hn
    by_cases hf : f < l.length
    · obtain ⟨a, ha⟩ : ∃ a, n = a + 1 := ⟨n - 1, by omega⟩
      obtain ⟨b, hb⟩ : ∃ b, l.length - f = b + 1 := ⟨l.length - f - 1, by omega⟩
      subst ha
      rw [hb, ab_br, ab_br, if_pos hf, if_pos hf]
      cases hpk : ab_pick rs l f with
      | none =>
        simp only
        rw [ih a (by omega) (f + 1) (by omega)]
        rw [(by omega : l.length - (f + 1) = b)]
      | some r =>
        simp only
        have h1 := (ab_Rok_at hRo (ab_pick_lt hpk)).1
        rw [ih a (by omega) (f + (rs.getD r ([], [])).1.length) (by omega), ih b (by omega) (f + (rs.getD r ([], [])).1.length) (by omega)]
    · rw [ab_br_end (Or.inr (by omega)), ab_br_end (Or.inr (by omega))]
/-- only the text has changed -/
def ab_frt (m m' : ev_Mem) : Prop := ∀ c i, ¬ (c = 277 ∧ i = 18) → c ≠ 291 → m' c i = m c i
theorem ab_frt_tr {a b c : ev_Mem} (h1 : ab_frt a b) (h2 : ab_frt b c) : ab_frt a c := fun k i z1 z2 => (h2 k i z1 z2).trans (h1 k i z1 z2)
theorem ab_sm_frt {m m' : ev_Mem} {x : Option Nat} {l : ab_Ls} (h : ab_frt m m') (hl : ab_sm m x l) : ab_sm m' x l := by
  cases x with
  | none => exact ⟨hl.1, fun k hk => by rw [h _ _ (by omega) (by decide)]; exact hl.2 k hk⟩
  | some n => exact ⟨hl.1, fun k hk => by rw [h _ _ (by omega) (by decide)]; exact hl.2 k hk⟩
theorem ab_MR_frt {m m' : ev_Mem} {rs : List (ab_Ls × ab_Ls)} (h : ∀ c i, (c = 277 ∧ i = 9) ∨ (285 ≤ c ∧ c ≤ 288) → m' c i = m c i) (hR : ab_MR m rs) : ab_MR m' rs := by
  refine ⟨by rw [h _ _ (by omega)]; exact hR.1, fun r hr => ?_⟩
  obtain ⟨a, b, c, d⟩ := hR.2 r hr
  exact ⟨by rw [h _ _ (by omega)]; exact a, by rw [h _ _ (by omega)]; exact b, fun k hk => by rw [h _ _ (by omega)]; exact c k hk, fun k hk => by rw [h _ _ (by omega)]; exact d k hk⟩
def ab_MX (m : ev_Mem) (l : ab_Ls) : Prop := m 277 18 = Int32.ofNat l.length ∧ ∀ k, k < l.length → m 291 k = l.getD k 0
/-- workForm -/
theorem ev_S144 {x : Option Nat} {l : ab_Ls} {rs : List (ab_Ls × ab_Ls)} (A : ev_all w) (hR : ab_MR m rs) (hRo : ab_Rok rs) (hl8 : rs.length ≤ 8) (hl : ab_sm m x l) (hQ : ∀ m', ab_frt m m' → ab_MX m' (ab_form rs l) → Q (.inl none) m' t) : ev_K w 144 [.ref 277, .int (ab_oi x), .int (Int32.ofNat l.length)] m t Q := by
  have hp : ev_prog[144]? = some ev_m144 := rfl
  have hlen := ab_sm_len hl
  have el := ev_ofNat_i (n := l.length) (by omega)
  have loop : ∀ (n f : Nat) (acc : ab_Ls) (ff : Int32) (mk : ev_Mem) (o4 o5 o6 : Option Value), l.length - f = n → f ≤ l.length → ff = Int32.ofNat f → ab_frt m mk → ab_MX mk acc → acc.length ≤ 2 * f → ab_form rs l = acc ++ ab_br rs l (l.length - f) f → ev_J w ev_m144 (ev_nd 144) Q 7 [ev_vr 277, ev_vi (ab_oi x), ev_vn l.length, ev_vi ff, o4, o5, o6] [] mk t := by
    intro n
    induction n using Nat.strongRecOn with
    | _ n ih =>
      intro f acc ff mk o4 o5 o6 hn hf eff fk hX hac hform
      subst eff
      have ef := ev_ofNat_i (n := f) (by omega)
      have hRk := ab_MR_frt (fun c i hc => fk c i (by omega) (by omega)) hR
      have hlk := ab_sm_frt fk hl
      refine ev_gK A hp [12] 10 ?_
      refine And.intro (fun (h : (Int32.ofNat l.length).toInt ≤ (Int32.ofNat f).toInt) => ?_) (fun (h : (Int32.ofNat f).toInt < (Int32.ofNat l.length).toInt) => ?_)
      · rw [ab_br_end (Or.inr (by omega)), List.append_nil] at hform
        exact hQ mk fk (by rw [hform]; exact hX)
      have hfl : f < l.length := by omega
      obtain ⟨b, hb⟩ : ∃ b, l.length - f = b + 1 := ⟨l.length - f - 1, by omega⟩
      rw [hb, ab_br, if_pos hfl] at hform
      refine ev_gK A hp [21] 20 ?_
      refine ev_S145 A hRk hRo hl8 hlk (by omega) ?_
      show ev_J w ev_m144 (ev_nd 144) Q 21 [ev_vr 277, ev_vi (ab_oi x), ev_vn l.length, ev_vn f, ev_vi (ab_oi (ab_pick rs l f)), o5, o6] [] mk t
      -- the chunk laid down
      have chunk : ∀ (ch : ab_Ls) (f2 : Nat), ch.length ≤ 2 → f < f2 → f2 ≤ l.length → ab_form rs l = acc ++ (ch ++ ab_br rs l b f2) →
          (∀ (mj : ev_Mem) (i : Nat), i < ch.length → ab_frt m mj → ab_MX mj acc ∨ mj 277 18 = Int32.ofNat acc.length → (∀ k : Nat, k < acc.length → mj 291 k = acc.getD k 0) → ∀ (kont : ∀ v, v = ch.getD i 0 → ev_J w ev_m144 (ev_nd 144) Q 86 [ev_vr 277, ev_vi (ab_oi x), ev_vn l.length, ev_vn f, ev_vi (ab_oi (ab_pick rs l f)), ev_vn ch.length, ev_vn i] [.int v, .int (mj 277 18 + Int32.ofNat i), .ref 291] mj t), ev_J w ev_m144 (ev_nd 144) Q 60 [ev_vr 277, ev_vi (ab_oi x), ev_vn l.length, ev_vn f, ev_vi (ab_oi (ab_pick rs l f)), ev_vn ch.length, ev_vn i] [.int (mj 277 18 + Int32.ofNat i), .ref 291] mj t) →
          (∀ (mj : ev_Mem) (i : Int32), ab_frt m mj → (∀ ff : Int32, ff = Int32.ofNat f2 → ev_J w ev_m144 (ev_nd 144) Q 124 [ev_vr 277, ev_vi (ab_oi x), ev_vn l.length, ev_vn f, ev_vi (ab_oi (ab_pick rs l f)), ev_vn ch.length, ev_vi i] [.int ff] mj t) → ev_J w ev_m144 (ev_nd 144) Q 104 [ev_vr 277, ev_vi (ab_oi x), ev_vn l.length, ev_vn f, ev_vi (ab_oi (ab_pick rs l f)), ev_vn ch.length, ev_vi i] [] mj t) →
          ev_J w ev_m144 (ev_nd 144) Q 37 [ev_vr 277, ev_vi (ab_oi x), ev_vn l.length, ev_vn f, ev_vi (ab_oi (ab_pick rs l f)), o5, o6] [.int (Int32.ofNat ch.length)] mk t := by
        intro ch f2 hc2 hff2 hf2l hfm getv getf
        have ec := ev_ofNat_i (n := ch.length) (by omega)
        have inner := ev_lup (P := fun i => ∀ (ii : Int32) (mj : ev_Mem), ii = Int32.ofNat i → ab_frt m mj → mj 277 18 = Int32.ofNat acc.length → (∀ k, k < acc.length + i → mj 291 k = (acc ++ ch).getD k 0) → ev_J w ev_m144 (ev_nd 144) Q 42 [ev_vr 277, ev_vi (ab_oi x), ev_vn l.length, ev_vn f, ev_vi (ab_oi (ab_pick rs l f)), ev_vn ch.length, ev_vi ii] [] mj t) ch.length (by
          intro i hi ihi ii mj eii fj h18 h291
          subst eii
          have ei := ev_ofNat_i (n := i) (by omega)
          refine ev_gK A hp [49, 93] 10 ?_
          refine And.intro (fun (h : (Int32.ofNat ch.length).toInt ≤ (Int32.ofNat i).toInt) => ?_) (fun (h : (Int32.ofNat i).toInt < (Int32.ofNat ch.length).toInt) => ?_)
          · have e : i = ch.length := by omega
            subst e
            refine ev_gK A hp [104] 10 ?_
            show ev_J w ev_m144 (ev_nd 144) Q 104 [ev_vr 277, ev_vi (ab_oi x), ev_vn l.length, ev_vn f, ev_vi (ab_oi (ab_pick rs l f)), ev_vn ch.length, ev_vn ch.length] [] (ev_up mj 277 18 (mj 277 18 + Int32.ofNat ch.length)) t
            have fj2 : ab_frt m (ev_up mj 277 18 (mj 277 18 + Int32.ofNat ch.length)) := fun c k z1 z2 => (if_neg z1).trans (fj c k z1 z2)
            refine getf _ _ fj2 (fun ff eff => ?_)
            refine ev_gK A hp [7] 10 ?_
            refine ih (l.length - f2) (by omega) f2 (acc ++ ch) _ _ _ _ _ rfl hf2l eff fj2 ⟨?_, fun k hk => ?_⟩ (by rw [List.length_append]; omega) ?_
            · rw [ev_up_same, h18, ev_addN (by omega), List.length_append]
            · rw [ev_up_cell _ (by decide)]
              rw [List.length_append] at hk
              exact h291 k hk
            · rw [hfm, ← List.append_assoc, ab_br_fuel hRo b f2 (by omega)]
          · have hic : i < ch.length := by omega
            refine ev_gK A hp [] 6 ?_
            show ev_J w ev_m144 (ev_nd 144) Q 60 [ev_vr 277, ev_vi (ab_oi x), ev_vn l.length, ev_vn f, ev_vi (ab_oi (ab_pick rs l f)), ev_vn ch.length, ev_vn i] [.int (mj 277 18 + Int32.ofNat i), .ref 291] mj t
            refine getv mj i hic fj (Or.inr h18) (fun k hk => by rw [h291 k (by omega), ab_getD_app1 hk]) (fun v hv => ?_)
            rw [h18, ev_addN (by omega)]
            refine ev_gK A hp [42] 10 ?_
            refine And.intro (ev_oin (by omega) (by decide)) ?_
            refine ihi hic _ _ (ev_succ (by omega)) (fun c k z1 z2 => by rw [ev_up_cell _ z2]; exact fj c k z1 z2) (by rw [ev_up_cell _ (by decide)]; exact h18) (fun k hk => ?_)
            rw [ev_on (by omega)]
            by_cases hki : k = acc.length + i
            · rw [hki, ev_up_same, hv, ab_getD_app2]
            · rw [ev_up_idx _ _ hki]; exact h291 k (by omega))
        refine ev_gK A hp [42] 10 ?_
        refine inner 0 (by omega) _ mk rfl fk hX.1 (fun k hk => ?_)
        rw [ab_getD_app1 (by omega)]
        exact hX.2 k (by omega)
      cases hpk : ab_pick rs l f with
      | none =>
        rw [hpk] at hform
        have hch := chunk [l.getD f 0] (f + 1) (by decide : 1 ≤ 2) (by omega) (by omega) hform
        rw [hpk] at hch
        refine ev_gK A hp [37] 10 ?_
        refine And.intro (fun (h : 0 ≤ (-1 : Int32).toInt) => absurd h (by decide)) (fun _ => ?_)
        refine hch (fun mj i hi fj _ _ kont => ?_) (fun mj i fj kont => ?_)
        · have hi0 : i = 0 := by have : i < 1 := hi; omega
          subst hi0
          refine ev_gK A hp [86] 20 ?_
          refine And.intro (fun (h : 0 ≤ (-1 : Int32).toInt) => absurd h (by decide)) (fun _ => ?_)
          refine ev_S147 A (ab_sm_frt fj hl) hfl ?_
          exact kont _ rfl
        · refine ev_gK A hp [124] 20 ?_
          refine And.intro (fun (h : 0 ≤ (-1 : Int32).toInt) => absurd h (by decide)) (fun _ => ?_)
          exact kont _ (ev_succ (by omega))
      | some r =>
        rw [hpk] at hform
        have hr := ab_pick_lt hpk
        obtain ⟨o1, o2, o3, -, -⟩ := ab_Rok_at hRo hr
        have hpre := ab_pick_pre hRo (by omega) hpk
        obtain ⟨r1, r2, r3, r4⟩ := hR.2 r hr
        have er := ev_ofNat_i (n := r) (by omega)
        have hch := chunk (rs.getD r ([], [])).2 (f + (rs.getD r ([], [])).1.length) o3 (by omega) hpre hform
        rw [hpk] at hch
        refine ev_gK A hp [37] 10 ?_
        refine And.intro (fun _ => ?_) (fun (h : (Int32.ofNat r).toInt < 0) => by omega)
        refine And.intro (ev_oin (by omega) (by decide)) ?_
        show ev_J w ev_m144 (ev_nd 144) Q 37 [ev_vr 277, ev_vi (ab_oi x), ev_vn l.length, ev_vn f, ev_vn r, o5, o6] [.int (mk 288 (Int32.ofNat r).toNatClampNeg)] mk t
        rw [ev_on (by omega), fk _ _ (by omega) (by decide), r2]
        refine hch (fun mj i hi fj _ _ kont => ?_) (fun mj i fj kont => ?_)
        · have ei : Int32.ofInt 2 * Int32.ofNat r + Int32.ofNat i = Int32.ofNat (2 * r + i) := ev_lin (c := 2) (by omega) (by omega) (by omega)
          refine ev_gK A hp [86] 20 ?_
          refine And.intro (fun _ => ?_) (fun (h : (Int32.ofNat r).toInt < 0) => by omega)
          refine And.intro (ev_iin ei (by omega) (by decide)) ?_
          exact kont _ (by show mj 287 (Int32.ofInt 2 * Int32.ofNat r + Int32.ofNat i).toNatClampNeg = _; rw [ev_at ei (by omega), fj _ _ (by omega) (by decide)]; exact r4 i hi)
        · refine ev_gK A hp [124] 20 ?_
          refine And.intro (fun _ => ?_) (fun (h : (Int32.ofNat r).toInt < 0) => by omega)
          refine And.intro (ev_oin (by omega) (by decide)) ?_
          exact kont _ (by show Int32.ofNat f + mj 286 (Int32.ofNat r).toNatClampNeg = _; rw [ev_on (by omega), fj _ _ (by omega) (by decide), r1]; exact ev_addN (by omega))
  refine ⟨Or.inr ⟨277, _, rfl, rfl⟩, ev_m144, rfl, ev_gK A hp [7] 10 ?_⟩
  refine loop l.length 0 [] _ _ _ _ _ (Nat.sub_zero _) (by omega) rfl (fun c i z1 z2 => if_neg z1) ⟨ev_up_same _ _ _ _, fun k hk => absurd hk (Nat.not_lt_zero _)⟩ (by decide) ?_
  rw [Nat.sub_zero, List.nil_append]
  rfl
end EvMform
