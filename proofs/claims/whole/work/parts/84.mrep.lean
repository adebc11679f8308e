/-! the model's numbers -/
section EvMrep
variable {w : ev_W} {Q : ev_QT} {m m' : ev_Mem} {t : ev_H} {z z' : ab_Z}
def ab_MD (m : ev_Mem) (l : ab_Ls) : Prop := m 277 2 = Int32.ofNat l.length ∧ ∀ k, k < l.length → m 278 k = l.getD k 0
def ab_MT (m : ev_Mem) (T : ab_T) : Prop := m 277 22 = Int32.ofNat T.1 ∧ (∀ p, p < T.1 → ∀ v, v < 4 → m 293 (4 * p + v) = ab_oi (ab_nat T p v)) ∧ (∀ p, p < T.1 → m 294 p = ab_oi (T.2.2.1 p)) ∧ ab_MJ m T.2.2.2.1 ∧ m 277 21 = ab_oi T.2.2.2.2
def ab_MO (m : ev_Mem) (o : ab_Ls) : Prop := m 277 28 = Int32.ofNat o.length ∧ ∀ k, k < o.length → m 298 k = o.getD k 0
def ab_MB (m : ev_Mem) (bl : List (Option ab_Ls)) : Prop := m 277 34 = Int32.ofNat bl.length ∧ ∀ i, i < bl.length → m 299 i = ab_fl (bl.getD i none) ∧ ∀ k, k < (ab_fz (bl.getD i none)).length → m 300 (12 * i + k) = (ab_fz (bl.getD i none)).getD k 0
def ab_MN (m : ev_Mem) (fs : List Nat) : Prop := m 277 40 = Int32.ofNat fs.length ∧ ∀ k, k < fs.length → m 303 k = Int32.ofNat (fs.getD k 0)
def ab_MK (m : ev_Mem) (bs : List (Nat × Nat × Nat)) : Prop := m 277 42 = Int32.ofNat bs.length ∧ ∀ k, k < bs.length → m 304 (3 * k) = Int32.ofNat (bs.getD k (0, 0, 0)).1 ∧ m 304 (3 * k + 1) = Int32.ofNat (bs.getD k (0, 0, 0)).2.1 ∧ m 304 (3 * k + 2) = Int32.ofNat (bs.getD k (0, 0, 0)).2.2
def ab_MA (m : ev_Mem) (pa : Nat → Option Nat) : Prop := ∀ v, v < 4 → m 295 v = ab_oi (pa v)
def ab_MQ (m : ev_Mem) (z : ab_Z) : Prop := ∃ g, ab_MG m (zt z) g ∧ (∀ x, x < 40 → zt z x = true → g x < 40) ∧ ∀ x y, x < 40 → y < 40 → zt z x = true → zt z y = true → (g x = g y ↔ zq z x y = true)
def ab_RepM (m : ev_Mem) (z : ab_Z) : Prop := ab_MD m (zD z) ∧ ab_MR m (zR z) ∧ ab_MS m (zW z) ∧ ab_ML m (zW z) ∧ ab_MF m (zt z) (zf z) 40 ∧ ab_MQ m z ∧ ab_MP m (zP z) ∧ ab_MT m (zT z) ∧ ab_MO m (zO z) ∧ ab_MB m (zB z) ∧ ab_MN m (zF z) ∧ ab_MK m (zK z) ∧ ab_MA m (zA z)
/-- numbers that mean nothing between calls, and the class's -/
def ab_sM (c i : Nat) : Prop := c < 277 ∨ (c = 277 ∧ (i = 0 ∨ i = 18 ∨ (30 ≤ i ∧ i ≤ 33) ∨ i = 37 ∨ i = 46)) ∨ c = 291 ∨ c = 296 ∨ c = 297 ∨ c = 301 ∨ c = 302 ∨ c = 305 ∨ c = 306 ∨ 307 ≤ c
def ab_gW (c i : Nat) : Prop := (c = 277 ∧ (i = 9 ∨ i = 14)) ∨ (279 ≤ c ∧ c ≤ 290)
def ab_gT (c i : Nat) : Prop := (c = 277 ∧ (i = 19 ∨ i = 21 ∨ i = 22)) ∨ (292 ≤ c ∧ c ≤ 294)
theorem ab_MD_cg {l : ab_Ls} (h : ∀ c i, (c = 277 ∧ i = 2) ∨ c = 278 → m' c i = m c i) (hD : ab_MD m l) : ab_MD m' l := ⟨by rw [h _ _ (by omega)]; exact hD.1, fun k hk => by rw [h _ _ (by omega)]; exact hD.2 k hk⟩
theorem ab_MT_cg {T : ab_T} (h : ∀ c i, ab_gT c i → m' c i = m c i) (hT : ab_MT m T) : ab_MT m' T := by
  obtain ⟨t1, t2, t3, ⟨t4, t5⟩, t6⟩ := hT
  exact ⟨by rw [h _ _ (by unfold ab_gT; omega)]; exact t1, fun p hp v hv => by rw [h _ _ (by unfold ab_gT; omega)]; exact t2 p hp v hv, fun p hp => by rw [h _ _ (by unfold ab_gT; omega)]; exact t3 p hp, ⟨by rw [h _ _ (by unfold ab_gT; omega)]; exact t4, fun k hk => by rw [h _ _ (by unfold ab_gT; omega)]; exact t5 k hk⟩, by rw [h _ _ (by unfold ab_gT; omega)]; exact t6⟩
theorem ab_MO_cg {o : ab_Ls} (h : ∀ c i, (c = 277 ∧ i = 28) ∨ c = 298 → m' c i = m c i) (hO : ab_MO m o) : ab_MO m' o := ⟨by rw [h _ _ (by omega)]; exact hO.1, fun k hk => by rw [h _ _ (by omega)]; exact hO.2 k hk⟩
theorem ab_MB_cg {bl : List (Option ab_Ls)} (h : ∀ c i, (c = 277 ∧ i = 34) ∨ c = 299 ∨ c = 300 → m' c i = m c i) (hB : ab_MB m bl) : ab_MB m' bl := ⟨by rw [h _ _ (by omega)]; exact hB.1, fun i hi => ⟨by rw [h _ _ (by omega)]; exact (hB.2 i hi).1, fun k hk => by rw [h _ _ (by omega)]; exact (hB.2 i hi).2 k hk⟩⟩
theorem ab_MN_cg {fs : List Nat} (h : ∀ c i, (c = 277 ∧ i = 40) ∨ c = 303 → m' c i = m c i) (hN : ab_MN m fs) : ab_MN m' fs := ⟨by rw [h _ _ (by omega)]; exact hN.1, fun k hk => by rw [h _ _ (by omega)]; exact hN.2 k hk⟩
theorem ab_MK_cg {bs : List (Nat × Nat × Nat)} (h : ∀ c i, (c = 277 ∧ i = 42) ∨ c = 304 → m' c i = m c i) (hK : ab_MK m bs) : ab_MK m' bs := ⟨by rw [h _ _ (by omega)]; exact hK.1, fun k hk => by rw [h _ _ (by omega), h _ _ (by omega), h _ _ (by omega)]; exact hK.2 k hk⟩
theorem ab_MA_cg {pa : Nat → Option Nat} (h : ∀ i, m' 295 i = m 295 i) (hA : ab_MA m pa) : ab_MA m' pa := fun v hv => by rw [h]; exact hA v hv
theorem ab_RM_mk (hR : zR z' = zR z) (hW : zW z' = zW z) (hP : zP z' = zP z) (h : ab_RepM m z) (hf : ∀ c i, ab_gW c i → m' c i = m c i) (D : ab_MD m' (zD z')) (T : ab_MT m' (zT z')) (O : ab_MO m' (zO z')) (B : ab_MB m' (zB z')) (F : ab_MN m' (zF z')) (K : ab_MK m' (zK z')) (P : ab_MA m' (zA z')) : ab_RepM m' z' := by
  obtain ⟨-, c2, c3, c4, c5, ⟨g, g1, g2, g3⟩, c7, -⟩ := h
  have hq : zq z' = zq z := by unfold zq; simp only [zm, zf, zt, hR, hW, hP]
  have ht : zt z' = zt z := by simp only [zt, hW]
  have hfo : zf z' = zf z := by simp only [zf, hR, hW]
  unfold ab_RepM ab_MQ
  rw [hq, ht, hfo, hR, hW, hP]
  refine ⟨D, ab_MR_frt (fun c i hc => hf c i (by unfold ab_gW; omega)) c2, fun v hv => by rw [hf _ _ (by unfold ab_gW; omega)]; exact c3 v hv, fun x hx hxt => ⟨by rw [hf _ _ (by unfold ab_gW; omega)]; exact (c4 x hx hxt).1, fun k hk => by rw [hf _ _ (by unfold ab_gW; omega)]; exact (c4 x hx hxt).2 k hk⟩, fun x hx hxt => ⟨⟨by rw [hf _ _ (by unfold ab_gW; omega)]; exact (c5 x hx hxt).1.1, (c5 x hx hxt).1.2⟩, fun k hk => by rw [hf _ _ (by unfold ab_gW; omega)]; exact (c5 x hx hxt).2 k hk⟩, ⟨g, fun x hx hxt => by rw [hf _ _ (by unfold ab_gW; omega)]; exact g1 x hx hxt, g2, g3⟩, ⟨by rw [hf _ _ (by unfold ab_gW; omega)]; exact c7.1, fun e he => ⟨by rw [hf _ _ (by unfold ab_gW; omega)]; exact (c7.2 e he).1, by rw [hf _ _ (by unfold ab_gW; omega)]; exact (c7.2 e he).2⟩⟩, T, O, B, F, K, P⟩
theorem ab_RM_0 (h : ab_RepM m z) (hf : ∀ c i, ¬ ab_sM c i → m' c i = m c i) : ab_RepM m' z := by
  obtain ⟨c1, c2, c3, c4, c5, c6, c7, c8, c9, c10, c11, c12, c13⟩ := id h
  refine ab_RM_mk (z := z) (z' := z) rfl rfl rfl h (fun c i hc => ?_) (ab_MD_cg (fun c i hc => ?_) c1) (ab_MT_cg (fun c i hc => ?_) c8) (ab_MO_cg (fun c i hc => ?_) c9) (ab_MB_cg (fun c i hc => ?_) c10) (ab_MN_cg (fun c i hc => ?_) c11) (ab_MK_cg (fun c i hc => ?_) c12) (ab_MA_cg (fun i => ?_) c13)
  all_goals first | exact hf _ _ (by unfold ab_gW at hc; unfold ab_sM; omega) | exact hf _ _ (by unfold ab_gT at hc; unfold ab_sM; omega) | exact hf _ _ (by unfold ab_sM; omega)
theorem ab_RM_T {T : ab_T} (h : ab_RepM m z) (hf : ∀ c i, ¬ ab_sM c i → ¬ ab_gT c i → m' c i = m c i) (hT : ab_MT m' T) : ab_RepM m' (ab_setT z T) := by
  obtain ⟨c1, c2, c3, c4, c5, c6, c7, c8, c9, c10, c11, c12, c13⟩ := id h
  refine ab_RM_mk (z := z) (z' := ab_setT z T) rfl rfl rfl h (fun c i hc => ?_) (ab_MD_cg (fun c i hc => ?_) c1) hT (ab_MO_cg (fun c i hc => ?_) c9) (ab_MB_cg (fun c i hc => ?_) c10) (ab_MN_cg (fun c i hc => ?_) c11) (ab_MK_cg (fun c i hc => ?_) c12) (ab_MA_cg (fun i => ?_) c13)
  all_goals first | exact hf _ _ (by unfold ab_gW at hc; unfold ab_sM; omega) (by unfold ab_gW at hc; unfold ab_gT; omega) | exact hf _ _ (by unfold ab_sM; omega) (by unfold ab_gT; omega)
theorem ab_RM_D {l : ab_Ls} (h : ab_RepM m z) (hf : ∀ c i, ¬ ab_sM c i → ¬ ((c = 277 ∧ i = 2) ∨ c = 278) → m' c i = m c i) (hD : ab_MD m' l) : ab_RepM m' (l, z.2) := by
  obtain ⟨c1, c2, c3, c4, c5, c6, c7, c8, c9, c10, c11, c12, c13⟩ := id h
  refine ab_RM_mk (z := z) (z' := (l, z.2)) rfl rfl rfl h (fun c i hc => ?_) hD (ab_MT_cg (fun c i hc => ?_) c8) (ab_MO_cg (fun c i hc => ?_) c9) (ab_MB_cg (fun c i hc => ?_) c10) (ab_MN_cg (fun c i hc => ?_) c11) (ab_MK_cg (fun c i hc => ?_) c12) (ab_MA_cg (fun i => ?_) c13)
  all_goals first | exact hf _ _ (by unfold ab_gW at hc; unfold ab_sM; omega) (by unfold ab_gW at hc; omega) | exact hf _ _ (by unfold ab_gT at hc; unfold ab_sM; omega) (by unfold ab_gT at hc; omega) | exact hf _ _ (by unfold ab_sM; omega) (by omega)
theorem ab_RM_O {o : ab_Ls} (h : ab_RepM m z) (hf : ∀ c i, ¬ ab_sM c i → ¬ ((c = 277 ∧ i = 28) ∨ c = 298) → m' c i = m c i) (hO : ab_MO m' o) : ab_RepM m' (ab_setO z o) := by
  obtain ⟨c1, c2, c3, c4, c5, c6, c7, c8, c9, c10, c11, c12, c13⟩ := id h
  refine ab_RM_mk (z := z) (z' := ab_setO z o) rfl rfl rfl h (fun c i hc => ?_) (ab_MD_cg (fun c i hc => ?_) c1) (ab_MT_cg (fun c i hc => ?_) c8) hO (ab_MB_cg (fun c i hc => ?_) c10) (ab_MN_cg (fun c i hc => ?_) c11) (ab_MK_cg (fun c i hc => ?_) c12) (ab_MA_cg (fun i => ?_) c13)
  all_goals first | exact hf _ _ (by unfold ab_gW at hc; unfold ab_sM; omega) (by unfold ab_gW at hc; omega) | exact hf _ _ (by unfold ab_gT at hc; unfold ab_sM; omega) (by unfold ab_gT at hc; omega) | exact hf _ _ (by unfold ab_sM; omega) (by omega)
theorem ab_RM_B {bl : List (Option ab_Ls)} (h : ab_RepM m z) (hf : ∀ c i, ¬ ab_sM c i → ¬ ((c = 277 ∧ i = 34) ∨ c = 299 ∨ c = 300) → m' c i = m c i) (hB : ab_MB m' bl) : ab_RepM m' (zD z, zR z, zW z, zP z, zT z, zO z, bl, z.2.2.2.2.2.2.2) := by
  obtain ⟨c1, c2, c3, c4, c5, c6, c7, c8, c9, c10, c11, c12, c13⟩ := id h
  refine ab_RM_mk (z := z) (z' := (zD z, zR z, zW z, zP z, zT z, zO z, bl, z.2.2.2.2.2.2.2)) rfl rfl rfl h (fun c i hc => ?_) (ab_MD_cg (fun c i hc => ?_) c1) (ab_MT_cg (fun c i hc => ?_) c8) (ab_MO_cg (fun c i hc => ?_) c9) hB (ab_MN_cg (fun c i hc => ?_) c11) (ab_MK_cg (fun c i hc => ?_) c12) (ab_MA_cg (fun i => ?_) c13)
  all_goals first | exact hf _ _ (by unfold ab_gW at hc; unfold ab_sM; omega) (by unfold ab_gW at hc; omega) | exact hf _ _ (by unfold ab_gT at hc; unfold ab_sM; omega) (by unfold ab_gT at hc; omega) | exact hf _ _ (by unfold ab_sM; omega) (by omega)
theorem ab_RM_F {fs : List Nat} (h : ab_RepM m z) (hf : ∀ c i, ¬ ab_sM c i → ¬ ((c = 277 ∧ i = 40) ∨ c = 303) → m' c i = m c i) (hF : ab_MN m' fs) : ab_RepM m' (zD z, zR z, zW z, zP z, zT z, zO z, zB z, fs, z.2.2.2.2.2.2.2.2) := by
  obtain ⟨c1, c2, c3, c4, c5, c6, c7, c8, c9, c10, c11, c12, c13⟩ := id h
  refine ab_RM_mk (z := z) (z' := (zD z, zR z, zW z, zP z, zT z, zO z, zB z, fs, z.2.2.2.2.2.2.2.2)) rfl rfl rfl h (fun c i hc => ?_) (ab_MD_cg (fun c i hc => ?_) c1) (ab_MT_cg (fun c i hc => ?_) c8) (ab_MO_cg (fun c i hc => ?_) c9) (ab_MB_cg (fun c i hc => ?_) c10) hF (ab_MK_cg (fun c i hc => ?_) c12) (ab_MA_cg (fun i => ?_) c13)
  all_goals first | exact hf _ _ (by unfold ab_gW at hc; unfold ab_sM; omega) (by unfold ab_gW at hc; omega) | exact hf _ _ (by unfold ab_gT at hc; unfold ab_sM; omega) (by unfold ab_gT at hc; omega) | exact hf _ _ (by unfold ab_sM; omega) (by omega)
theorem ab_RM_K {bs : List (Nat × Nat × Nat)} (h : ab_RepM m z) (hf : ∀ c i, ¬ ab_sM c i → ¬ ((c = 277 ∧ i = 42) ∨ c = 304) → m' c i = m c i) (hK : ab_MK m' bs) : ab_RepM m' (zD z, zR z, zW z, zP z, zT z, zO z, zB z, zF z, bs, zA z) := by
  obtain ⟨c1, c2, c3, c4, c5, c6, c7, c8, c9, c10, c11, c12, c13⟩ := id h
  refine ab_RM_mk (z := z) (z' := (zD z, zR z, zW z, zP z, zT z, zO z, zB z, zF z, bs, zA z)) rfl rfl rfl h (fun c i hc => ?_) (ab_MD_cg (fun c i hc => ?_) c1) (ab_MT_cg (fun c i hc => ?_) c8) (ab_MO_cg (fun c i hc => ?_) c9) (ab_MB_cg (fun c i hc => ?_) c10) (ab_MN_cg (fun c i hc => ?_) c11) hK (ab_MA_cg (fun i => ?_) c13)
  all_goals first | exact hf _ _ (by unfold ab_gW at hc; unfold ab_sM; omega) (by unfold ab_gW at hc; omega) | exact hf _ _ (by unfold ab_gT at hc; unfold ab_sM; omega) (by unfold ab_gT at hc; omega) | exact hf _ _ (by unfold ab_sM; omega) (by omega)
theorem ab_RM_A {u : Nat} {v : Option Nat} (h : ab_RepM m z) (hf : ∀ c i, ¬ ab_sM c i → ¬ (c = 295) → m' c i = m c i) (hA : ab_MA m' (fun a => if a = u then v else zA z a)) : ab_RepM m' (ab_setA z u v) := by
  obtain ⟨c1, c2, c3, c4, c5, c6, c7, c8, c9, c10, c11, c12, c13⟩ := id h
  refine ab_RM_mk (z := z) (z' := ab_setA z u v) rfl rfl rfl h (fun c i hc => ?_) (ab_MD_cg (fun c i hc => ?_) c1) (ab_MT_cg (fun c i hc => ?_) c8) (ab_MO_cg (fun c i hc => ?_) c9) (ab_MB_cg (fun c i hc => ?_) c10) (ab_MN_cg (fun c i hc => ?_) c11) (ab_MK_cg (fun c i hc => ?_) c12) hA
  all_goals first | exact hf _ _ (by unfold ab_gW at hc; unfold ab_sM; omega) (by unfold ab_gW at hc; omega) | exact hf _ _ (by unfold ab_gT at hc; unfold ab_sM; omega) (by unfold ab_gT at hc; omega) | exact hf _ _ (by unfold ab_sM; omega) (by omega)
/-- how a call of the model ends -/
def ab_PM (m : ev_Mem) (t : ev_H) (b : Bool) (r : ab_Y) (Q : ev_QT) : Prop := ∀ (m' : ev_Mem) (v : Int32), ab_RepM m' r.2.2 → (∀ c i, c < 277 → m' c i = m c i) → m' 277 0 = Int32.ofNat r.1 → (r.1 = 0 → v = r.2.1) → Q (.inl (if b = true then some (.int v) else none)) m' t
theorem ab_RM_th (h : ab_RepM m z) (x : Int32) : ab_RepM (ev_up m 277 0 x) z := ab_RM_0 h (fun c i hc => if_neg (fun q => hc (by unfold ab_sM; omega)))
/-- thrown -/
theorem ev_S136 (A : ev_all w) (hQ : Q (.inl (some (.int (m 277 0)))) m t) : ev_K w 136 [.ref 277] m t Q :=
  ⟨Or.inr ⟨277, [], rfl, rfl⟩, ev_m136, rfl, ev_gK A (k := 136) rfl [] 20 hQ⟩
/-- isPlace, isWord -/
theorem ev_S171 {x : Int32} (A : ev_all w) (hT : ab_MT m (zT z)) (hok : ab_Tok (zT z)) (hQ : Q (.inl (some (.int (ab_bi (ab_pi z x).isSome)))) m t) : ev_K w 171 [.ref 277, .int x] m t Q := by
  have hp : ev_prog[171]? = some ev_m171 := rfl
  have k1 := hok.1
  have e1 := ev_toI hT.1 (by omega)
  have no : ¬ (0 ≤ x.toInt ∧ x.toInt < ((zT z).1 : Int)) → Q (.inl (some (.int 0))) m t := fun h => by
    have e : ab_pi z x = none := if_neg h
    rw [e] at hQ; exact hQ
  refine ⟨Or.inr ⟨277, _, rfl, rfl⟩, ev_m171, rfl, ev_gK A hp [] 10 ?_⟩
  refine And.intro (fun (h : x.toInt < 0) => ⟨rfl, no (by omega)⟩) (fun (h : 0 ≤ x.toInt) => ?_)
  refine And.intro (fun (h2 : (m 277 22).toInt ≤ x.toInt) => ⟨rfl, no (by omega)⟩) (fun (h2 : x.toInt < (m 277 22).toInt) => ?_)
  have e : ab_pi z x = some x.toInt.toNat := if_pos (by omega)
  rw [e] at hQ
  exact ⟨rfl, hQ⟩
theorem ab_wd_some {x i : Int32} {a : Nat} (h : ab_wd z x i = some a) : ∃ v k, x = Int32.ofNat v ∧ i = Int32.ofNat k ∧ v < 4 ∧ k < (zW z v).length ∧ a = 10 * v + k := by
  unfold ab_wd at h
  split at h
  · cases h
  · rename_i v hv
    obtain ⟨h4, h5⟩ := ab_wi_some hv
    split at h
    · rename_i q
      cases h
      exact ⟨v, i.toInt.toNat, h5, (ev_ofNat_toNat q.1).symm, h4, by omega, rfl⟩
    · cases h
theorem ab_pi_some {x : Int32} {p : Nat} (h : ab_pi z x = some p) : x = Int32.ofNat p ∧ p < (zT z).1 := by
  unfold ab_pi at h
  split at h
  · rename_i q
    cases h
    exact ⟨(ev_ofNat_toNat q.1).symm, by omega⟩
  · cases h
theorem ev_S153 {x i : Int32} (A : ev_all w) (hS : ab_MS m (zW z)) (hW : ab_Wok (zW z)) (hQ : Q (.inl (some (.int (ab_bi (ab_wd z x i).isSome)))) m t) : ev_K w 153 [.ref 277, .int x, .int i] m t Q := by
  have hp : ev_prog[153]? = some ev_m153 := rfl
  refine ⟨Or.inr ⟨277, _, rfl, rfl⟩, ev_m153, rfl, ev_gK A hp [] 20 ?_⟩
  refine ev_S140 A ?_
  cases hv : ab_wi x with
  | none =>
    have e : ab_wd z x i = none := by unfold ab_wd; rw [hv]
    rw [e] at hQ
    exact And.intro (fun _ => ⟨rfl, hQ⟩) (fun h => absurd ev_eq00 h)
  | some v =>
    obtain ⟨hv4, rfl⟩ := ab_wi_some hv
    have hw10 := (hW v hv4).1
    have e1 := ev_toI (hS v hv4) (by omega)
    have hwd : ab_wd z (Int32.ofNat v) i = if 0 ≤ i.toInt ∧ i.toInt < ((zW z v).length : Int) then some (10 * v + i.toInt.toNat) else none := by unfold ab_wd; rw [hv]
    have no : ¬ (0 ≤ i.toInt ∧ i.toInt < ((zW z v).length : Int)) → Q (.inl (some (.int 0))) m t := fun h => by
      rw [hwd, if_neg h] at hQ; exact hQ
    refine And.intro (fun h => absurd (h : (1 : Int32).toInt = 0) ev_ne10) (fun _ => ?_)
    refine And.intro (fun (h : i.toInt < 0) => ⟨rfl, no (by omega)⟩) (fun (h : 0 ≤ i.toInt) => ?_)
    refine And.intro (ev_oin hv4 (by decide)) ?_
    refine And.intro (fun (h2 : (m 279 (Int32.ofNat v).toNatClampNeg).toInt ≤ i.toInt) => ?_) (fun (h2 : i.toInt < (m 279 (Int32.ofNat v).toNatClampNeg).toInt) => ?_)
    · rw [ev_on (by omega)] at h2
      exact ⟨rfl, no (by omega)⟩
    · rw [ev_on (by omega)] at h2
      rw [hwd, if_pos (by omega)] at hQ
      exact ⟨rfl, hQ⟩
end EvMrep
