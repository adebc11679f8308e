/-! the class's numbers: what a change of some of them leaves -/
section EvRep
variable {w : ev_W} {Q : ev_QT} {m m' : ev_Mem} {t : ev_H} {z z' : ab_Z}
/-- numbers that mean nothing between calls, and the model's -/
def ab_sc (c i : Nat) : Prop := c = 3 ∨ c = 4 ∨ c = 208 ∨ (213 ≤ c ∧ c ≤ 216) ∨ (c = 219 ∧ 3 ≤ i) ∨ c = 269 ∨ c = 275 ∨ c = 276 ∨ 277 ≤ c
theorem ab_L_cg {x : Nat} {l : ab_Ls} (h : ∀ i, m' x i = m x i) (h2 : ∀ i, m' (x + 1) i = m (x + 1) i) (hL : ab_L m x l) : ab_L m' x l := ⟨by rw [h]; exact hL.1, fun k hk => by rw [h2]; exact hL.2 k hk⟩
theorem ab_RC_cg {rs : List (ab_Ls × ab_Ls)} (h : ∀ c i, 5 ≤ c → c ≤ 39 → m' c i = m c i) (hR : ab_RC m rs) : ab_RC m' rs := by
  obtain ⟨h1, h2, h3⟩ := hR
  refine ⟨by rw [h _ _ (by decide) (by decide)]; exact h1, h2, fun r hr => ?_⟩
  obtain ⟨a, b⟩ := h3 r hr
  exact ⟨ab_L_cg (fun i => h _ _ (by omega) (by omega)) (fun i => h _ _ (by omega) (by omega)) a, ab_L_cg (fun i => h _ _ (by omega) (by omega)) (fun i => h _ _ (by omega) (by omega)) b⟩
theorem ab_R0_cg {n : Nat} (h : ∀ c i, 5 ≤ c → c ≤ 39 → m' c i = m c i) (hR : ab_R0 m n) : ab_R0 m' n := by
  intro r h1 h2
  obtain ⟨a, b⟩ := hR r h1 h2
  exact ⟨by rw [h _ _ (by omega) (by omega)]; exact a, by rw [h _ _ (by omega) (by omega)]; exact b⟩
theorem ab_WS_cg {ws : Nat → List ab_Ls} (h : ∀ c i, 40 ≤ c → c ≤ 207 → m' c i = m c i) (hW : ab_WS m ws) : ab_WS m' ws :=
  ⟨fun v hv => by rw [h _ _ (by decide) (by decide)]; exact hW.1 v hv, fun x hx ht => ab_L_cg (fun i => h _ _ (by omega) (by omega)) (fun i => h _ _ (by omega) (by omega)) (hW.2 x hx ht)⟩
theorem ab_FO_cg {fo : Nat → Option ab_Ls} (h : ∀ c i, 40 ≤ c → c ≤ 207 → m' c i = m c i) (hF : ab_FO m fo) : ab_FO m' fo := by
  intro x hx ht
  rw [ab_th_cong (fun j => h _ _ (by decide) (by decide))] at ht
  obtain ⟨a, b⟩ := hF x hx ht
  exact ⟨ab_F_cong (fun j => h _ _ (by omega) (by omega)) (fun j => h _ _ (by omega) (by omega)) a, b⟩
theorem ab_O_cg {o : ab_Ls} (h : ∀ c i, 217 ≤ c → c ≤ 218 → m' c i = m c i) (hO : ab_O m o) : ab_O m' o := ⟨by rw [h _ _ (by decide) (by decide)]; exact hO.1, fun k hk => by rw [h _ _ (by decide) (by decide)]; exact hO.2 k hk⟩
theorem ab_B_cg {bl : List (Option ab_Ls)} (hl : bl.length ≤ 24) (h1 : m' 219 1 = m 219 1) (h : ∀ c i, 221 ≤ c → c ≤ 268 → m' c i = m c i) (hB : ab_B m bl) : ab_B m' bl := ⟨by rw [h1]; exact hB.1, fun i hi => ab_F_cong (fun j => h _ _ (by omega) (by omega)) (fun j => h _ _ (by omega) (by omega)) (hB.2 i hi)⟩
theorem ab_K_cg {bs : List (Nat × Nat × Nat)} (h : ∀ c i, 271 ≤ c → c ≤ 272 → m' c i = m c i) (hK : ab_K m bs) : ab_K m' bs := ⟨by rw [h _ _ (by decide) (by decide)]; exact hK.1, fun k hk => by rw [h _ _ (by decide) (by decide), h _ _ (by decide) (by decide), h _ _ (by decide) (by decide)]; exact hK.2 k hk⟩
theorem ab_FA_cg {pa : Nat → Option Nat} (h : ∀ i, m' 274 i = m 274 i) (hA : ab_FA m pa) : ab_FA m' pa := fun v hv => by rw [h]; exact hA v hv
theorem ab_Rep_mk (hR : zR z' = zR z) (hW : zW z' = zW z) (hP : zP z' = zP z) (h : ab_RepC m z) (hf : ∀ c i, 5 ≤ c → c ≤ 207 → m' c i = m c i) (D : ab_L m' 1 (zD z')) (T : ab_TC m' (zT z')) (O : ab_O m' (zO z')) (B : ab_B m' (zB z')) (F : m' 0 9 = Int32.ofNat (zF z').length ∧ ∀ k, k < (zF z').length → m' 270 k = Int32.ofNat ((zF z').getD k 0)) (K : ab_K m' (zK z')) (P : ab_FA m' (zA z')) : ab_RepC m' z' := by
  obtain ⟨c1, ⟨c2, c3⟩, c4, c5, ⟨c6, c7⟩, c8, -⟩ := h
  unfold ab_RepC
  simp only [zf, zt, zm, hR, hW, hP]
  refine ⟨D, ⟨ab_RC_cg (fun c i h1 h2 => hf c i h1 (by omega)) c2, ab_R0_cg (fun c i h1 h2 => hf c i h1 (by omega)) c3⟩, ab_WS_cg (fun c i h1 h2 => hf c i (by omega) h2) c4, ab_FO_cg (fun c i h1 h2 => hf c i (by omega) h2) c5, ⟨fun x hx ht => by rw [hf _ _ (by decide) (by decide)]; exact c6 x hx ht, fun x hx ht => by rw [hf _ _ (by decide) (by decide)]; exact c7 x hx ht⟩, ab_PC_cong (fun k j hk => hf k j (by omega) (by omega)) c8, T, O, B, F, K, P⟩
theorem ab_Rep_0 (h : ab_RepC m z) (hok : ab_ok z) (hf : ∀ c i, ¬ ab_sc c i → m' c i = m c i) : ab_RepC m' z := by
  obtain ⟨c1, c2, c4, c5, c6, c8, c9, c10, c11, c12, c13, c14⟩ := id h
  refine ab_Rep_mk rfl rfl rfl h (fun c i h1 h2 => ?_) (ab_L_cg (fun i => ?_) (fun i => ?_) c1) (ab_TC_cong (fun c i h1 h2 => ?_) c9) (ab_O_cg (fun c i h1 h2 => ?_) c10) (ab_B_cg hok.2.2.2.2.2.2.1.1 ?_ (fun c i h1 h2 => ?_) c11) ⟨by rw [hf _ _ (by unfold ab_sc; omega)]; exact c12.1, fun k hk => by rw [hf _ _ (by unfold ab_sc; omega)]; exact c12.2 k hk⟩ (ab_K_cg (fun c i h1 h2 => ?_) c13) (ab_FA_cg (fun i => ?_) c14)
  · by_cases h3 : c = 208
    · omega
    · exact hf c i (by unfold ab_sc; omega)
  all_goals exact hf _ _ (by unfold ab_sc; omega)
theorem ab_Rep_T {T : ab_T} (h : ab_RepC m z) (hok : ab_ok z) (hf : ∀ c i, ¬ ab_sc c i → ¬ (209 ≤ c ∧ c ≤ 212) → m' c i = m c i) (hT : ab_TC m' T) : ab_RepC m' (ab_setT z T) := by
  obtain ⟨c1, c2, c4, c5, c6, c8, c9, c10, c11, c12, c13, c14⟩ := id h
  refine ab_Rep_mk (z := z) (z' := ab_setT z T) rfl rfl rfl h (fun c i h1 h2 => ?_) (ab_L_cg (fun i => ?_) (fun i => ?_) c1) hT (ab_O_cg (fun c i h1 h2 => ?_) c10) (ab_B_cg hok.2.2.2.2.2.2.1.1 ?_ (fun c i h1 h2 => ?_) c11) ⟨by rw [hf _ _ (by unfold ab_sc; omega) (by omega)]; exact c12.1, fun k hk => by rw [hf _ _ (by unfold ab_sc; omega) (by omega)]; exact c12.2 k hk⟩ (ab_K_cg (fun c i h1 h2 => ?_) c13) (ab_FA_cg (fun i => ?_) c14)
  all_goals exact hf _ _ (by unfold ab_sc; omega) (by omega)
theorem ab_Rep_D {l : ab_Ls} (h : ab_RepC m z) (hok : ab_ok z) (hf : ∀ c i, ¬ ab_sc c i → ¬ (c = 1 ∨ c = 2) → m' c i = m c i) (hL : ab_L m' 1 l) : ab_RepC m' (l, z.2) := by
  obtain ⟨c1, c2, c4, c5, c6, c8, c9, c10, c11, c12, c13, c14⟩ := id h
  refine ab_Rep_mk (z := z) (z' := (l, z.2)) rfl rfl rfl h (fun c i h1 h2 => ?_) hL (ab_TC_cong (fun c i h1 h2 => ?_) c9) (ab_O_cg (fun c i h1 h2 => ?_) c10) (ab_B_cg hok.2.2.2.2.2.2.1.1 ?_ (fun c i h1 h2 => ?_) c11) ⟨by rw [hf _ _ (by unfold ab_sc; omega) (by omega)]; exact c12.1, fun k hk => by rw [hf _ _ (by unfold ab_sc; omega) (by omega)]; exact c12.2 k hk⟩ (ab_K_cg (fun c i h1 h2 => ?_) c13) (ab_FA_cg (fun i => ?_) c14)
  all_goals exact hf _ _ (by unfold ab_sc; omega) (by omega)
theorem ab_Rep_O {o : ab_Ls} (h : ab_RepC m z) (hok : ab_ok z) (hf : ∀ c i, ¬ ab_sc c i → ¬ (c = 217 ∨ c = 218) → m' c i = m c i) (hO : ab_O m' o) : ab_RepC m' (ab_setO z o) := by
  obtain ⟨c1, c2, c4, c5, c6, c8, c9, c10, c11, c12, c13, c14⟩ := id h
  refine ab_Rep_mk (z := z) (z' := ab_setO z o) rfl rfl rfl h (fun c i h1 h2 => ?_) (ab_L_cg (fun i => ?_) (fun i => ?_) c1) (ab_TC_cong (fun c i h1 h2 => ?_) c9) hO (ab_B_cg hok.2.2.2.2.2.2.1.1 ?_ (fun c i h1 h2 => ?_) c11) ⟨by rw [hf _ _ (by unfold ab_sc; omega) (by omega)]; exact c12.1, fun k hk => by rw [hf _ _ (by unfold ab_sc; omega) (by omega)]; exact c12.2 k hk⟩ (ab_K_cg (fun c i h1 h2 => ?_) c13) (ab_FA_cg (fun i => ?_) c14)
  all_goals exact hf _ _ (by unfold ab_sc; omega) (by omega)
theorem ab_Rep_B {bl : List (Option ab_Ls)} (h : ab_RepC m z) (hf : ∀ c i, ¬ ab_sc c i → ¬ (219 ≤ c ∧ c ≤ 268) → m' c i = m c i) (hB : ab_B m' bl) : ab_RepC m' (zD z, zR z, zW z, zP z, zT z, zO z, bl, z.2.2.2.2.2.2.2) := by
  obtain ⟨c1, c2, c4, c5, c6, c8, c9, c10, c11, c12, c13, c14⟩ := id h
  refine ab_Rep_mk (z := z) (z' := (zD z, zR z, zW z, zP z, zT z, zO z, bl, z.2.2.2.2.2.2.2)) rfl rfl rfl h (fun c i h1 h2 => ?_) (ab_L_cg (fun i => ?_) (fun i => ?_) c1) (ab_TC_cong (fun c i h1 h2 => ?_) c9) (ab_O_cg (fun c i h1 h2 => ?_) c10) hB ⟨by rw [hf _ _ (by unfold ab_sc; omega) (by omega)]; exact c12.1, fun k hk => by rw [hf _ _ (by unfold ab_sc; omega) (by omega)]; exact c12.2 k hk⟩ (ab_K_cg (fun c i h1 h2 => ?_) c13) (ab_FA_cg (fun i => ?_) c14)
  all_goals exact hf _ _ (by unfold ab_sc; omega) (by omega)
theorem ab_Rep_F {fs : List Nat} (h : ab_RepC m z) (hok : ab_ok z) (hf : ∀ c i, ¬ ab_sc c i → ¬ (c = 0 ∨ c = 270) → m' c i = m c i) (hF : m' 0 9 = Int32.ofNat fs.length ∧ ∀ k, k < fs.length → m' 270 k = Int32.ofNat (fs.getD k 0)) : ab_RepC m' (zD z, zR z, zW z, zP z, zT z, zO z, zB z, fs, z.2.2.2.2.2.2.2.2) := by
  obtain ⟨c1, c2, c4, c5, c6, c8, c9, c10, c11, c12, c13, c14⟩ := id h
  refine ab_Rep_mk (z := z) (z' := (zD z, zR z, zW z, zP z, zT z, zO z, zB z, fs, z.2.2.2.2.2.2.2.2)) rfl rfl rfl h (fun c i h1 h2 => ?_) (ab_L_cg (fun i => ?_) (fun i => ?_) c1) (ab_TC_cong (fun c i h1 h2 => ?_) c9) (ab_O_cg (fun c i h1 h2 => ?_) c10) (ab_B_cg hok.2.2.2.2.2.2.1.1 ?_ (fun c i h1 h2 => ?_) c11) hF (ab_K_cg (fun c i h1 h2 => ?_) c13) (ab_FA_cg (fun i => ?_) c14)
  all_goals exact hf _ _ (by unfold ab_sc; omega) (by omega)
theorem ab_Rep_K {bs : List (Nat × Nat × Nat)} (h : ab_RepC m z) (hok : ab_ok z) (hf : ∀ c i, ¬ ab_sc c i → ¬ (c = 271 ∨ c = 272) → m' c i = m c i) (hK : ab_K m' bs) : ab_RepC m' (zD z, zR z, zW z, zP z, zT z, zO z, zB z, zF z, bs, zA z) := by
  obtain ⟨c1, c2, c4, c5, c6, c8, c9, c10, c11, c12, c13, c14⟩ := id h
  refine ab_Rep_mk (z := z) (z' := (zD z, zR z, zW z, zP z, zT z, zO z, zB z, zF z, bs, zA z)) rfl rfl rfl h (fun c i h1 h2 => ?_) (ab_L_cg (fun i => ?_) (fun i => ?_) c1) (ab_TC_cong (fun c i h1 h2 => ?_) c9) (ab_O_cg (fun c i h1 h2 => ?_) c10) (ab_B_cg hok.2.2.2.2.2.2.1.1 ?_ (fun c i h1 h2 => ?_) c11) ⟨by rw [hf _ _ (by unfold ab_sc; omega) (by omega)]; exact c12.1, fun k hk => by rw [hf _ _ (by unfold ab_sc; omega) (by omega)]; exact c12.2 k hk⟩ hK (ab_FA_cg (fun i => ?_) c14)
  all_goals exact hf _ _ (by unfold ab_sc; omega) (by omega)
theorem ab_Rep_A {u : Nat} {v : Option Nat} (h : ab_RepC m z) (hok : ab_ok z) (hf : ∀ c i, ¬ ab_sc c i → ¬ (c = 274) → m' c i = m c i) (hA : ab_FA m' (fun a => if a = u then v else zA z a)) : ab_RepC m' (ab_setA z u v) := by
  obtain ⟨c1, c2, c4, c5, c6, c8, c9, c10, c11, c12, c13, c14⟩ := id h
  refine ab_Rep_mk (z := z) (z' := ab_setA z u v) rfl rfl rfl h (fun c i h1 h2 => ?_) (ab_L_cg (fun i => ?_) (fun i => ?_) c1) (ab_TC_cong (fun c i h1 h2 => ?_) c9) (ab_O_cg (fun c i h1 h2 => ?_) c10) (ab_B_cg hok.2.2.2.2.2.2.1.1 ?_ (fun c i h1 h2 => ?_) c11) ⟨by rw [hf _ _ (by unfold ab_sc; omega) (by omega)]; exact c12.1, fun k hk => by rw [hf _ _ (by unfold ab_sc; omega) (by omega)]; exact c12.2 k hk⟩ (ab_K_cg (fun c i h1 h2 => ?_) c13) hA
  all_goals exact hf _ _ (by unfold ab_sc; omega) (by omega)
/-- marks -/
theorem ab_mk1_some {th : Nat → Bool} {fo : Nat → Option ab_Ls} {x : Nat} (hx : x < 40) (ht : th x = true) : ∃ y, ab_mk1 th fo x = some y ∧ y < 40 ∧ th y = true ∧ fo y = fo x := by
  unfold ab_mk1
  cases h : (List.range 40).find? (fun y => th y && decide (fo y = fo x)) with
  | none =>
    have h1 := List.find?_eq_none.mp h x (List.mem_range.mpr hx)
    rw [ht] at h1
    exact absurd (by rw [decide_eq_true rfl]; rfl) h1
  | some y =>
    have h1 := List.find?_some h
    have h2 := List.mem_range.mp (List.mem_of_find?_eq_some h)
    rw [Bool.and_eq_true] at h1
    exact ⟨y, rfl, h2, h1.1, of_decide_eq_true h1.2⟩
theorem ab_mk1_iff {th : Nat → Bool} {fo : Nat → Option ab_Ls} {x y : Nat} (hx : x < 40) (hy : y < 40) (hxt : th x = true) (hyt : th y = true) : ab_mk1 th fo x = ab_mk1 th fo y ↔ fo x = fo y := by
  constructor
  · intro h
    obtain ⟨a, a1, a2, a3, a4⟩ := ab_mk1_some (fo := fo) hx hxt
    obtain ⟨b, b1, b2, b3, b4⟩ := ab_mk1_some (fo := fo) hy hyt
    rw [a1, b1] at h
    cases h
    rw [← a4, ← b4]
  · intro h
    unfold ab_mk1
    rw [h]
theorem ab_mkp_lt {th : Nat → Bool} {fo : Nat → Option ab_Ls} : ∀ (ps : List (Nat × Nat)) (mk : Nat → Option Nat), (∀ x y, mk x = some y → y < 40) → ∀ x y, ps.foldl (ab_mke th) mk x = some y → y < 40
  | [], _, h, x, y, hxy => h x y hxy
  | q :: ps, mk0, h, x, y, hxy => by
    refine ab_mkp_lt (fo := fo) ps (ab_mke th mk0 q) (fun a b hab => ?_) x y hxy
    unfold ab_mke at hab
    split at hab
    · exact h _ _ hab
    · exact h _ _ hab
theorem ab_mk1_lt {th : Nat → Bool} {fo : Nat → Option ab_Ls} {x y : Nat} (h : ab_mk1 th fo x = some y) : y < 40 := List.mem_range.mp (List.mem_of_find?_eq_some h)
theorem zm_lt {x y : Nat} (h : zm z x = some y) : y < 40 := ab_mkp_lt (fo := zf z) (zP z) _ (fun _ _ h => ab_mk1_lt h) x y h
/-- what the class's methods ask for -/
theorem ab_zth (h : ab_RepC m z) {x : Nat} (hx : x < 40) : ab_th m x = zt z x := ab_th_there h.2.2.1 hx
theorem ab_zaz (hok : ab_ok z) {y : Nat} {l : ab_Ls} (hy : y < 40) (ht : zt z y = true) (hl : zf z y = some l) : ab_az l := by
  obtain ⟨-, ⟨-, hR⟩, hW, -⟩ := hok
  have h1 := ab_sp_ok hW hy ht
  have hl2 : ab_fo (zR z) (zW z) y = some l := hl
  unfold ab_fo at hl2
  split at hl2
  · cases hl2
  · cases hl2
    have key : ∀ n f, ab_az (ab_br (zR z) (ab_sp (zW z) y) n f) := by
      intro n
      induction n with
      | zero => intro f v hv; rw [ab_br] at hv; cases hv
      | succ n ih =>
        intro f v hv
        rw [ab_br] at hv
        split at hv
        · rename_i hf
          split at hv
          · rcases List.mem_cons.mp hv with q | q
            · rw [q]; exact h1.2 _ (ab_getD_mem hf)
            · exact ih _ v q
          · rename_i r hr
            rcases List.mem_append.mp hv with q | q
            · exact (ab_Rok_at hR (ab_pick_lt hr)).2.2.2.2 v q
            · exact ih _ v q
        · cases hv
    exact key _ _
theorem ab_zcell (hok : ab_ok z) (h : ab_RepC m z) {p v i : Nat} (hv : v < 4) (hc : (zT z).2.1 p v = some i) : ab_th m (10 * v + i) = true := by
  have h1 := hok.2.2.2.2.1.2.1 p v i hc
  have h2 := (hok.2.2.1 v hv).1
  rw [ab_zth h (by omega)]
  unfold zt ab_there
  rw [(by omega : (10 * v + i) / 10 = v), (by omega : (10 * v + i) % 10 = i)]
  exact decide_eq_true h1
theorem ab_zE (hok : ab_ok z) (h : ab_RepC m z) : ab_E m (zT z) (zf z) := by
  obtain ⟨c1, c2, c4, c5, ⟨c6, c7⟩, c8, c9, -⟩ := id h
  refine ⟨c9, hok.2.2.2.2.1.1, c5, fun p v i _ hv hc => ab_zcell hok h hv hc, fun y l hy ht hl => ab_zaz hok hy (by rw [← ab_zth h hy]; exact ht) hl, fun x y hx hy hxt hyt => ?_⟩
  rw [ab_zth h hx] at hxt
  rw [ab_zth h hy] at hyt
  rw [c6 x hx hxt, c6 y hy hyt, ← ab_mk1_iff (fo := zf z) hx hy hxt hyt]
  exact ⟨fun q => ab_oi_inj (fun a ha => by have := ab_mk1_lt ha; omega) (fun a ha => by have := ab_mk1_lt ha; omega) q, fun q => by rw [q]⟩
theorem ab_zEQ (h : ab_RepC m z) : ab_EQ m (zq z) := by
  intro x y hx hy hxt hyt
  rw [ab_zth h hx] at hxt
  rw [ab_zth h hy] at hyt
  rw [h.2.2.2.2.1.2 x hx hxt, h.2.2.2.2.1.2 y hy hyt]
  unfold zq
  rw [decide_eq_true_eq]
  exact ⟨fun q => ab_oi_inj (fun a ha => by have := zm_lt ha; omega) (fun a ha => by have := zm_lt ha; omega) q, fun q => by rw [q]⟩
theorem ab_zdst (h : ab_RepC m z) {x y : Nat} (hx : x < 40) (hy : y < 40) (hxt : zt z x = true) (hyt : zt z y = true) : ab_dst m (zf z) x y = zd z x y := by
  have h1 := ab_zEQ h x y hx hy (by rw [ab_zth h hx]; exact hxt) (by rw [ab_zth h hy]; exact hyt)
  unfold ab_dst zd
  by_cases q : zq z x y = true
  · rw [if_pos q, if_pos (h1.mpr q)]
  · rw [if_neg q, if_neg (fun a => q (h1.mp a))]
end EvRep
