/-! the state stays as it may be -/
section AbOkay
variable {z : ab_Z}
theorem ab_cn_surj (f : Nat → Bool) : ∀ (n i : Nat), i < ab_cn f n → ∃ k, k < n ∧ f k = true ∧ ab_cn f k = i
  | 0, _, h => absurd h (Nat.not_lt_zero _)
  | n + 1, i, h => by
    rw [ab_cn] at h
    by_cases hi : i < ab_cn f n
    · obtain ⟨k, h1, h2, h3⟩ := ab_cn_surj f n i hi
      exact ⟨k, by omega, h2, h3⟩
    · by_cases hf : f n = true
      · rw [if_pos hf] at h
        exact ⟨n, by omega, hf, by omega⟩
      · rw [if_neg hf] at h; omega
theorem ab_cn_lt {f : Nat → Bool} {k n : Nat} (h : k < n) (hf : f k = true) : ab_cn f k < ab_cn f n := by
  have h1 := ab_cn_mono f (n - (k + 1)) (k + 1)
  rw [(by omega : k + 1 + (n - (k + 1)) = n), ab_cn, if_pos hf] at h1
  omega
theorem ab_cn_inj {f : Nat → Bool} {p q : Nat} (hp : f p = true) (hq : f q = true) (h : ab_cn f p = ab_cn f q) : p = q := by
  rcases Nat.lt_trichotomy p q with h1 | h1 | h1
  · have := ab_cn_lt h1 hp; omega
  · exact h1
  · have := ab_cn_lt h1 hq; omega
/-- join -/
theorem ab_ok_jt {W : Nat → List ab_Ls} {T : ab_T} {v : Nat} {l : List Nat} (hT : ab_Tok T) (hI : ab_Tin W T) (hv : v < 4) (hvj : ¬ v ∈ T.2.2.2.1) (hl : l.length ≤ 24) (hpn : ab_pn l l.length = T.1) (hjn : ab_jn l l.length = (W v).length) (hW : (W v).length ≤ 10) : ab_Tok (ab_nt (ab_jt T v l)) ∧ ab_Tin W (ab_nt (ab_jt T v l)) := by
  obtain ⟨t1, t2, t3, t4, t5, t6⟩ := hT
  obtain ⟨i1, i2, i3, i4, i5, i6⟩ := hI
  have cell : ∀ p u, (ab_nt (ab_jt T v l)).2.1 p u = if p < l.length ∧ u < 4 then ab_jc T v l p u else none := fun _ _ => rfl
  have chs : ∀ p, (ab_nt (ab_jt T v l)).2.2.1 p = if p < l.length then ab_jch T l p else none := fun _ => rfl
  have js4 := ab_js4 t4 i2 t5 hv hvj
  -- what stands at a place
  have jcv : ∀ p i, p < l.length → ab_jc T v l p v = some i → ¬ l.getD p 0 = 1 ∧ i = ab_jn l p := by
    intro p i hp h
    unfold ab_jc at h
    by_cases h1 : l.getD p 0 = 1
    · rw [if_neg (fun q => q.1 h1), if_neg (by omega), i3 _ v hv hvj] at h
      cases h
    · rw [if_pos ⟨h1, rfl⟩] at h
      cases h
      exact ⟨h1, rfl⟩
  have jcu : ∀ p u i, ¬ u = v → ab_jc T v l p u = some i → ¬ l.getD p 0 = 2 ∧ T.2.1 (ab_pn l p) u = some i := by
    intro p u i hu h
    unfold ab_jc at h
    rw [if_neg (fun q => hu q.2)] at h
    by_cases h2 : l.getD p 0 = 2
    · rw [if_pos h2] at h; cases h
    · rw [if_neg h2] at h; exact ⟨h2, h⟩
  have jlt : ∀ p, p < l.length → ¬ l.getD p 0 = 1 → ab_jn l p < (W v).length := by
    intro p hp h
    rw [← hjn]
    exact ab_cn_lt hp (decide_eq_true h)
  have plt : ∀ p, p < l.length → ¬ l.getD p 0 = 2 → ab_pn l p < T.1 := by
    intro p hp h
    rw [← hpn]
    exact ab_cn_lt hp (decide_eq_true h)
  have lt : ∀ p u i, (ab_nt (ab_jt T v l)).2.1 p u = some i → i < (W u).length := by
    intro p u i h
    rw [cell] at h
    split at h
    · rename_i hh
      by_cases hu : u = v
      · subst hu
        obtain ⟨a, b⟩ := jcv p i hh.1 h
        rw [b]; exact jlt p hh.1 a
      · exact i1 _ _ _ (jcu p u i hu h).2
    · cases h
  refine ⟨⟨hl, fun p u i h => ?_, fun p u h => ?_, ?_, ?_, ?_⟩, lt, ?_, ?_, ?_, ?_, ?_⟩
  · rw [cell] at h
    split at h
    · rename_i hh
      by_cases hu : u = v
      · subst hu
        obtain ⟨a, b⟩ := jcv p i hh.1 h
        have := jlt p hh.1 a
        omega
      · exact t2 _ _ _ (jcu p u i hu h).2
    · cases h
  · rw [chs] at h
    split at h
    · unfold ab_jch at h
      split at h
      · cases h
      · exact t3 _ _ h
    · cases h
  · show (T.2.2.2.1 ++ [v]).length ≤ 4
    rw [List.length_append, List.length_singleton]; omega
  · intro u hu
    have hu2 : u ∈ T.2.2.2.1 ++ [v] := hu
    rw [List.mem_append, List.mem_singleton] at hu2
    rcases hu2 with h | h
    · exact t5 u h
    · rw [h]; exact hv
  · intro u hu
    have hu2 : (if T.2.2.2.1 = [] then some v else T.2.2.2.2) = some u := hu
    split at hu2
    · cases hu2; exact hv
    · exact t6 u hu2
  · show (T.2.2.2.1 ++ [v]).Nodup
    rw [List.nodup_append]
    refine ⟨i2, ?_, fun a ha b hb => ?_⟩
    · exact List.nodup_cons.mpr ⟨List.not_mem_nil, List.nodup_nil⟩
    · rw [List.mem_singleton] at hb
      rw [hb]
      exact fun q => hvj (by rw [← q]; exact ha)
  · intro p u hu hun
    have hun2 : ¬ u ∈ T.2.2.2.1 ++ [v] := hun
    rw [List.mem_append, List.mem_singleton, not_or] at hun2
    rw [cell]
    split
    · cases h : ab_jc T v l p u with
      | none => rfl
      | some i =>
        have := (jcu p u i hun2.2 h).2
        rw [i3 _ u hu hun2.1] at this
        cases this
    · rfl
  · intro u hu i hi
    have hu2 : u ∈ T.2.2.2.1 ++ [v] := hu
    rw [List.mem_append, List.mem_singleton] at hu2
    by_cases huv : u = v
    · subst huv
      rw [← hjn] at hi
      obtain ⟨k, k1, k2, k3⟩ := ab_cn_surj _ _ i hi
      have k2' : ¬ l.getD k 0 = 1 := of_decide_eq_true k2
      refine ⟨k, k1, ?_⟩
      rw [cell, if_pos ⟨k1, hv⟩]
      unfold ab_jc
      rw [if_pos ⟨k2', rfl⟩]
      exact congrArg some k3
    · have huj : u ∈ T.2.2.2.1 := by
        rcases hu2 with h | h
        · exact h
        · exact absurd h huv
      obtain ⟨p, hp, hpu⟩ := i4 u huj i hi
      rw [← hpn] at hp
      obtain ⟨k, k1, k2, k3⟩ := ab_cn_surj _ _ p hp
      have k2' : ¬ l.getD k 0 = 2 := of_decide_eq_true k2
      refine ⟨k, k1, ?_⟩
      rw [cell, if_pos ⟨k1, t5 u huj⟩]
      unfold ab_jc
      rw [if_neg (fun q => huv q.2), if_neg k2']
      have k3' : ab_pn l k = p := k3
      rw [k3']; exact hpu
  · intro p q u i hp hq h1 h2
    have hp' : p < l.length := hp
    have hq' : q < l.length := hq
    rw [cell] at h1 h2
    split at h1
    · rename_i hh
      rw [if_pos ⟨hq', hh.2⟩] at h2
      by_cases huv : u = v
      · subst huv
        obtain ⟨a1, a2⟩ := jcv p i hp' h1
        obtain ⟨b1, b2⟩ := jcv q i hq' h2
        exact ab_cn_inj (f := fun i => decide (¬ l.getD i 0 = 1)) (decide_eq_true a1) (decide_eq_true b1) (a2.symm.trans b2)
      · obtain ⟨a1, a2⟩ := jcu p u i huv h1
        obtain ⟨b1, b2⟩ := jcu q u i huv h2
        have := i5 _ _ u i (plt p hp' a1) (plt q hq' b1) a2 b2
        exact ab_cn_inj (f := fun i => decide (¬ l.getD i 0 = 2)) (decide_eq_true a1) (decide_eq_true b1) this
    · cases h1
  · intro p hp
    have hp' : p < l.length := hp
    by_cases h1 : l.getD p 0 = 1
    · obtain ⟨u, i, hu, hui⟩ := i6 (ab_pn l p) (plt p hp' (by omega))
      refine ⟨u, i, hu, ?_⟩
      rw [cell, if_pos ⟨hp', hu⟩]
      unfold ab_jc
      rw [if_neg (fun q => q.1 h1), if_neg (by omega)]
      exact hui
    · refine ⟨v, ab_jn l p, hv, ?_⟩
      rw [cell, if_pos ⟨hp', hv⟩]
      unfold ab_jc
      rw [if_pos ⟨h1, rfl⟩]
/-- retract -/
theorem ab_ok_rt {W : Nat → List ab_Ls} {T : ab_T} {v : Nat} (hT : ab_Tok T) (hI : ab_Tin W T) (hvj : T.2.2.2.1.getLast? = some v) : ab_Tok (ab_nt (ab_rt T v)) ∧ ab_Tin W (ab_nt (ab_rt T v)) := by
  obtain ⟨t1, t2, t3, t4, t5, t6⟩ := hT
  obtain ⟨i1, i2, i3, i4, i5, i6⟩ := hI
  have hsl := ab_sel_len T v T.1
  have hjs : T.2.2.2.1 = T.2.2.2.1.dropLast ++ [v] := by
    have hne : T.2.2.2.1 ≠ [] := fun h => by rw [h] at hvj; cases hvj
    have h1 := List.dropLast_concat_getLast hne
    rw [List.getLast?_eq_some_getLast hne] at hvj
    have h2 : T.2.2.2.1.getLast hne = v := by injection hvj
    rw [h2] at h1
    exact h1.symm
  have hnd : (T.2.2.2.1.dropLast ++ [v]).Nodup := by rw [← hjs]; exact i2
  rw [List.nodup_append] at hnd
  have hvd : ¬ v ∈ T.2.2.2.1.dropLast := fun h => hnd.2.2 v h v (List.mem_singleton.mpr rfl) rfl
  have hdm : ∀ u, u ∈ T.2.2.2.1.dropLast → u ∈ T.2.2.2.1 := fun u h => by rw [hjs]; exact List.mem_append_left _ h
  have cell : ∀ p u, (ab_nt (ab_rt T v)).2.1 p u = if p < (ab_sel T v T.1).length ∧ u < 4 then ab_cfx T v ((ab_sel T v T.1).getD p 0) u else none := fun _ _ => rfl
  have chs : ∀ p, (ab_nt (ab_rt T v)).2.2.1 p = if p < (ab_sel T v T.1).length then ab_chx T v ((ab_sel T v T.1).getD p 0) else none := fun _ => rfl
  have smem : ∀ p, p < (ab_sel T v T.1).length → (ab_sel T v T.1).getD p 0 < T.1 ∧ ab_keep T v ((ab_sel T v T.1).getD p 0) = true := by
    intro p hp
    have h1 : (ab_sel T v T.1).getD p 0 ∈ ab_sel T v T.1 := by
      rw [List.getD_eq_getElem?_getD, List.getElem?_eq_getElem hp]
      exact List.getElem_mem hp
    have h2 := List.mem_filter.mp h1
    exact ⟨List.mem_range.mp h2.1, h2.2⟩
  have snd : (ab_sel T v T.1).Nodup := List.Pairwise.filter (ab_keep T v) List.nodup_range
  have cf : ∀ p u i, (ab_nt (ab_rt T v)).2.1 p u = some i → (p < (ab_sel T v T.1).length ∧ u < 4) ∧ ¬ u = v ∧ T.2.1 ((ab_sel T v T.1).getD p 0) u = some i := by
    intro p u i h
    rw [cell] at h
    split at h
    · rename_i hh
      unfold ab_cfx at h
      split at h
      · cases h
      · rename_i hu
        exact ⟨hh, hu, h⟩
    · cases h
  refine ⟨⟨?_, fun p u i h => t2 _ _ _ (cf p u i h).2.2, fun p u h => ?_, ?_, ?_, ?_⟩, fun p u i h => i1 _ _ _ (cf p u i h).2.2, ?_, ?_, ?_, ?_, ?_⟩
  · show (ab_sel T v T.1).length ≤ 24
    omega
  · rw [chs] at h
    split at h
    · unfold ab_chx at h
      split at h
      · cases h
      · exact t3 _ _ h
    · cases h
  · show T.2.2.2.1.dropLast.length ≤ 4
    rw [List.length_dropLast]; omega
  · intro u hu
    exact t5 u (hdm u hu)
  · intro u hu
    have hu2 : (if T.2.2.2.2 = some v then none else T.2.2.2.2) = some u := hu
    split at hu2
    · cases hu2
    · exact t6 u hu2
  · exact hnd.1
  · intro p u hu hun
    have hun2 : ¬ u ∈ T.2.2.2.1.dropLast := hun
    cases h : (ab_nt (ab_rt T v)).2.1 p u with
    | none => rfl
    | some i =>
      obtain ⟨-, h2, h3⟩ := cf p u i h
      have : ¬ u ∈ T.2.2.2.1 := by
        rw [hjs, List.mem_append, List.mem_singleton, not_or]
        exact ⟨hun2, h2⟩
      rw [i3 _ u hu this] at h3
      cases h3
  · intro u hu i hi
    have hu2 : u ∈ T.2.2.2.1.dropLast := hu
    have huv : ¬ u = v := fun h => hvd (by rw [← h]; exact hu2)
    have hu4 := t5 u (hdm u hu2)
    obtain ⟨p, hp, hpu⟩ := i4 u (hdm u hu2) i hi
    have hk : ab_keep T v p = true := by
      unfold ab_keep
      rw [List.any_eq_true]
      refine ⟨u, ?_, ?_⟩
      · match u, hu4 with
        | 0, _ => decide
        | 1, _ => decide
        | 2, _ => decide
        | 3, _ => decide
      · rw [hpu, decide_eq_true (show u ≠ v from huv)]; rfl
    have hm : p ∈ ab_sel T v T.1 := List.mem_filter.mpr ⟨List.mem_range.mpr hp, hk⟩
    obtain ⟨q, hq, hqe⟩ := List.getElem_of_mem hm
    refine ⟨q, hq, ?_⟩
    rw [cell, if_pos ⟨hq, hu4⟩]
    unfold ab_cfx
    rw [if_neg huv, List.getD_eq_getElem?_getD, List.getElem?_eq_getElem hq]
    show T.2.1 ((ab_sel T v T.1)[q]) u = some i
    rw [hqe]; exact hpu
  · intro p q u i hp hq h1 h2
    have hp' : p < (ab_sel T v T.1).length := hp
    have hq' : q < (ab_sel T v T.1).length := hq
    obtain ⟨-, -, a⟩ := cf p u i h1
    obtain ⟨-, -, b⟩ := cf q u i h2
    have e := i5 _ _ u i (smem p hp').1 (smem q hq').1 a b
    rw [List.getD_eq_getElem?_getD, List.getD_eq_getElem?_getD, List.getElem?_eq_getElem hp', List.getElem?_eq_getElem hq'] at e
    exact (List.getElem_inj snd).mp e
  · intro p hp
    have hp' : p < (ab_sel T v T.1).length := hp
    obtain ⟨s1, s2⟩ := smem p hp'
    unfold ab_keep at s2
    rw [List.any_eq_true] at s2
    obtain ⟨u, hu, hk⟩ := s2
    rw [Bool.and_eq_true] at hk
    have huv : ¬ u = v := of_decide_eq_true hk.1
    have hu4 : u < 4 := by
      simp only [List.mem_cons, List.not_mem_nil, or_false] at hu
      omega
    obtain ⟨i, hi⟩ := Option.isSome_iff_exists.mp hk.2
    refine ⟨u, i, hu4, ?_⟩
    rw [cell, if_pos ⟨hp', hu4⟩]
    unfold ab_cfx
    rw [if_neg huv]
    exact hi
/-- the family stays a family -/
def ab_fam (a : Option Nat) : Bool := ab_o5.all fun b => ab_o5.all fun c => ab_o5.all fun d => !(ab_acb (ab_t4 a b c d)) || ([0, 1, 2, 3].all fun u => ab_acb (fun w => if w = u then none else ab_t4 a b c d w) && ([0, 1, 2, 3].all fun v => ab_ab (ab_t4 a b c d) 4 (some v) u || ab_acb (fun w => if w = u then some v else ab_t4 a b c d w)))
theorem ab_fam_n : ab_fam none = true := by decide +kernel
theorem ab_fam_0 : ab_fam (some 0) = true := by decide +kernel
theorem ab_fam_1 : ab_fam (some 1) = true := by decide +kernel
theorem ab_fam_2 : ab_fam (some 2) = true := by decide +kernel
theorem ab_fam_3 : ab_fam (some 3) = true := by decide +kernel
theorem ab_fam_all {a : Option Nat} (h : a ∈ ab_o5) : ab_fam a = true := by
  unfold ab_o5 at h
  simp only [List.mem_cons, List.not_mem_nil, or_false] at h
  rcases h with h | h | h | h | h <;> subst h
  · exact ab_fam_n
  · exact ab_fam_0
  · exact ab_fam_1
  · exact ab_fam_2
  · exact ab_fam_3
theorem ab_ab_cong {pa pb : Nat → Option Nat} (hpa : ab_PAok pa) (h : ∀ v, v < 4 → pb v = pa v) (g : Nat) : ∀ n (x : Option Nat), (∀ u, x = some u → u < 4) → ab_ab pb n x g = ab_ab pa n x g
  | 0, _, _ => rfl
  | n + 1, none, _ => rfl
  | n + 1, some u, hx => by
    have hu := hx u rfl
    rw [ab_ab, ab_ab, h u hu, ab_ab_cong hpa h g n (pa u) (fun w hw => hpa u w hu hw)]
theorem ab_acb_iff {pa pb : Nat → Option Nat} (hpa : ab_PAok pa) (h : ∀ v, v < 4 → pb v = pa v) : ab_acb pb = true ↔ ab_acy pa := by
  unfold ab_acb ab_acy
  rw [ab_end_cong hpa h 4 (some 0) (fun u hu => by cases hu; omega), ab_end_cong hpa h 4 (some 1) (fun u hu => by cases hu; omega), ab_end_cong hpa h 4 (some 2) (fun u hu => by cases hu; omega), ab_end_cong hpa h 4 (some 3) (fun u hu => by cases hu; omega)]
  rw [Bool.and_eq_true, Bool.and_eq_true, Bool.and_eq_true]
  constructor
  · rintro ⟨⟨⟨h0, h1⟩, h2⟩, h3⟩ v hv
    match v, hv with
    | 0, _ => exact h0
    | 1, _ => exact h1
    | 2, _ => exact h2
    | 3, _ => exact h3
  · intro hh
    exact ⟨⟨⟨hh 0 (by omega), hh 1 (by omega)⟩, hh 2 (by omega)⟩, hh 3 (by omega)⟩
theorem ab_m4 {u : Nat} (h : u < 4) : u ∈ [0, 1, 2, 3] := by
  match u, h with
  | 0, _ => decide
  | 1, _ => decide
  | 2, _ => decide
  | 3, _ => decide
theorem ab_ok_fam {pa : Nat → Option Nat} (hpa : ab_PAok pa) (hac : ab_acy pa) {u : Nat} (hu : u < 4) : (ab_PAok (fun a => if a = u then none else pa a) ∧ ab_acy (fun a => if a = u then none else pa a)) ∧ ∀ v, v < 4 → ab_ab pa 4 (some v) u = false → ab_PAok (fun a => if a = u then some v else pa a) ∧ ab_acy (fun a => if a = u then some v else pa a) := by
  have hb : ∀ v, v < 4 → ab_t4 (pa 0) (pa 1) (pa 2) (pa 3) v = pa v := fun v hv => ab_t4_eq hv
  have h0 := ab_fam_all (ab_o5_mem (x := pa 0) (fun u hu => hpa 0 u (by omega) hu))
  unfold ab_fam at h0
  have h1 := List.all_eq_true.mp h0 (pa 1) (ab_o5_mem (fun u hu => hpa 1 u (by omega) hu))
  have h2 := List.all_eq_true.mp h1 (pa 2) (ab_o5_mem (fun u hu => hpa 2 u (by omega) hu))
  have h3 := List.all_eq_true.mp h2 (pa 3) (ab_o5_mem (fun u hu => hpa 3 u (by omega) hu))
  rw [(ab_acb_iff hpa hb).mpr hac, Bool.not_true, Bool.false_or] at h3
  have h4 := List.all_eq_true.mp h3 u (ab_m4 hu)
  rw [Bool.and_eq_true] at h4
  have ok0 : ab_PAok (fun a => if a = u then none else pa a) := by
    intro a x ha hx
    dsimp only at hx
    split at hx
    · cases hx
    · exact hpa a x ha hx
  refine ⟨⟨ok0, (ab_acb_iff (pb := fun w => if w = u then none else ab_t4 (pa 0) (pa 1) (pa 2) (pa 3) w) ok0 (fun v hv => ?_)).mp h4.1⟩, fun v hv hab => ?_⟩
  · rw [hb v hv]
  · have h5 := List.all_eq_true.mp h4.2 v (ab_m4 hv)
    rw [ab_ab_cong hpa hb u 4 (some v) (fun w hw => by cases hw; exact hv), hab, Bool.false_or] at h5
    have ok1 : ab_PAok (fun a => if a = u then some v else pa a) := by
      intro a x ha hx
      dsimp only at hx
      split at hx
      · cases hx; exact hv
      · exact hpa a x ha hx
    refine ⟨ok1, (ab_acb_iff (pb := fun w => if w = u then some v else ab_t4 (pa 0) (pa 1) (pa 2) (pa 3) w) ok1 (fun w hw => ?_)).mp h5⟩
    rw [hb w hw]
end AbOkay
