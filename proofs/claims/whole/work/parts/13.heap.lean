section EvHeap2
theorem ev_cl_q {ci : Nat} {q : vw_C} (hc : ev_cl[ci]? = some q) : ev_clq q = true := List.all_eq_true.mp ev_cl_all q (List.mem_of_getElem? hc)
/-- a field's link -/
def ev_lkf (own : String) (idx ci k : Nat) : Bool := match ev_cl[ci]? with
  | none => false
  | some q => decide (k < q.2.2) && (ev_has (.fieldLink own idx (q.2.1 k).1 (q.2.1 k).2.1 (q.2.1 k).2.2.1) || ev_has (.fieldLinkNest own idx (q.2.1 k).1 (q.2.1 k).2.1 (q.2.1 k).2.2.1 ev_host))
theorem ev_lkf_of {own : String} {idx ci k : Nat} (h : ev_lkf own idx ci k = true) : ∃ q : vw_C, ev_cl[ci]? = some q ∧ k < q.2.2 ∧
    (ev_has (.fieldLink own idx (q.2.1 k).1 (q.2.1 k).2.1 (q.2.1 k).2.2.1) = true ∨ ev_has (.fieldLinkNest own idx (q.2.1 k).1 (q.2.1 k).2.1 (q.2.1 k).2.2.1 ev_host) = true) := by
  unfold ev_lkf at h
  cases hc : ev_cl[ci]? with
  | none => rw [hc] at h; cases h
  | some q =>
    rw [hc] at h
    simp only [Bool.and_eq_true, Bool.or_eq_true, decide_eq_true_eq] at h
    exact ⟨q, rfl, h.1, h.2⟩
variable {w : ev_W} {M : ev_M} {d : Nat × Nat} {h0 : ev_H} {Q : ev_R → ev_H → Prop} {pc : Nat} {L : List (Option Value)} {st : List Value} {h : ev_H} {a b : Nat}
theorem ev_fx.warm {p : Program} {s : State} {m : MethodId} {meth : Method} {c : Code} (F : ev_fx w M p s m meth c) : w.2.1.WarmedH s.vm := F.2.2.2.2.2.2.2.2
theorem ev_fx.own {p : Program} {s : State} {m : MethodId} {meth : Method} {c : Code} (F : ev_fx w M p s m meth c) : s.vm.findClass M.1.cls = some m.cls := F.2.2.2.2.2.1
theorem ev_getf (ok : ev_ok w) (hM : ev_dec M = true) {idx ci k x : Nat} {fs : List Value} {v : Value} (hi : ev_ins M pc = some (.getfield idx, ci, k)) (hlk : ev_lkf M.1.cls idx ci k = true) (hcell : h[x]? = some (.inr (ci, fs))) (hv : fs[k]? = some v)
    (kk : ev_G w M d h0 Q (pc + 3) L (v :: st) h) : ev_G w M d h0 Q pc L (.ref x :: st) h := by
  intro p e R s m args below meth c H locs ls C
  obtain ⟨⟨R0, T0, N0⟩, hc, hk, hl⟩ := ev_lkf_of hlk
  have hW := C.1.warm
  have hv' : (fs.map (ev_v w))[k]? = some (ev_v w v) := by rw [List.getElem?_map, hv]; rfl
  rcases hl with hl | hl
  · exact va_get C.1.1 C.1.2.1 (ev_hts ok hW) (ev_clq_in (ev_cl_q hc)) C.1.own (va_K.moved hW.alike ok.2.1) C.2.2.2.1 x (ev_ws_get hcell) hc k hk (ev_word ok hW hl args) (fun _ z => z) hv' (ev_dec_at hM hi) (kk p e R s m args below meth c H locs ls C)
  · exact va_getN C.1.1 C.1.2.1 (ev_hts ok hW) (ev_clq_in (ev_cl_q hc)) C.1.own (va_K.moved hW.alike ok.2.1) C.2.2.2.1 x (ev_ws_get hcell) hc k hk (ev_word ok hW hl args) (fun _ z => z) hv' (ev_dec_at hM hi) (kk p e R s m args below meth c H locs ls C)
/-- behind a store: the same heap but for one cell -/
theorem ev_G_set {x : Nat} {y y' : ev_E} (kk : ev_G w M d h0 Q pc L st (h.set x y')) (hx : h[x]? = some y) (hc : ev_c1 y' = ev_c1 y) {p : Program} {e : Env} {R : Room} {s : State} {m : MethodId} {args : Array Value} {below : List Frame} {meth : Method} {c : Code} {H H1 : Heap} {locs locs1 : List Loc} {ls : Array Slot}
    (C : ev_cx w M d h0 p R s m meth c h H locs L ls) (hP1 : va_P w.2.2.2.1 ev_cl ((ev_ws w h).set x (ev_base w + x, ev_e w y')) H1) (hS1 : va_S (ev_A w) s.heap H1 locs1) :
    W p w.1 e R s m args below meth c H1 locs1 (h.length - h0.length) (ev_cost h - ev_cost h0) (ev_PQ w h0 Q below s) (F0 m pc ls (st.map (ev_v w))) := by
  obtain ⟨c1, c2, c3, c4, c5, c6, c7, c8, c9, c10⟩ := C
  have h1 := kk p e R s m args below meth c H1 locs1 ls ⟨c1, c2, c3, by rw [ev_ws_set]; exact hP1, hS1, c6, by rw [List.length_set]; exact c7, by rw [ev_cost_set hx hc]; exact c8, by rw [List.length_set]; exact c9, by rw [ev_cost_set hx hc]; exact c10⟩
  rw [List.length_set, ev_cost_set hx hc] at h1
  exact h1
/-- what a field of a type takes -/
def ev_fitv (ty : FieldType) (v : Value) : Bool := match ty, v with
  | .int, .int _ => true
  | .boolean, .int x => decide (x = 0) || decide (x = 1)
  | .object _, .ref _ => true
  | .array _, .ref _ => true
  | _, _ => false
theorem ev_fitv_of {ty : FieldType} {v : Value} (hf : ev_fitv ty v = true) : narrow ty (ev_v w v) = ev_v w v ∧ fits ty (ev_v w v) = true := by
  cases ty <;> cases v <;> first | (exact ⟨rfl, rfl⟩) | (simp [ev_fitv] at hf; done) | skip
  all_goals
    simp only [ev_fitv, Bool.or_eq_true, decide_eq_true_eq] at hf
    rcases hf with rfl | rfl <;> exact ⟨rfl, rfl⟩
theorem ev_putf (ok : ev_ok w) (hM : ev_dec M = true) {idx ci k x : Nat} {q : vw_C} {fs : List Value} {v : Value} (hi : ev_ins M pc = some (.putfield idx, ci, k)) (hlk : ev_lkf M.1.cls idx ci k = true) (hq : ev_cl[ci]? = some q)
    (hfin : (q.2.1 k).2.2.2 = false ∨ ((q.2.1 k).2.2.2 = true ∧ M.1.name = "<init>" ∧ (q.2.1 k).1 = M.1.cls ∧ ev_has (.fieldLink M.1.cls idx (q.2.1 k).1 (q.2.1 k).2.1 (q.2.1 k).2.2.1) = true)) (hfit : ev_fitv (ev_fty q k) v = true) (hcell : h[x]? = some (.inr (ci, fs))) (hkl : k < fs.length)
    (kk : ev_G w M d h0 Q (pc + 3) L st (h.set x (.inr (ci, fs.set k v)))) : ev_G w M d h0 Q pc L (v :: .ref x :: st) h := by
  intro p e R s m args below meth c H locs ls C
  obtain ⟨q', hc, hk, hl⟩ := ev_lkf_of hlk
  cases hq.symm.trans hc
  have hW := C.1.warm
  have hcq := ev_cl_q hq
  obtain ⟨hnar, hfits⟩ := ev_fitv_of (w := w) hfit
  have hkl' : k < (fs.map (ev_v w)).length := by rw [List.length_map]; exact hkl
  have key : ∀ (H1 : Heap) (locs1 : List Loc), va_P w.2.2.2.1 ev_cl ((ev_ws w h).set x (ev_base w + x, .inr (ci, (fs.map (ev_v w)).set k (ev_v w v)))) H1 → va_D (ev_A w) ((ev_ws w h).set x (ev_base w + x, .inr (ci, (fs.map (ev_v w)).set k (ev_v w v)))) → va_S (ev_A w) s.heap H1 locs1 →
      W p w.1 e R s m args below meth c H1 locs1 (h.length - h0.length) (ev_cost h - ev_cost h0) (ev_PQ w h0 Q below s) (F0 m (pc + 3) ls (st.map (ev_v w))) := by
    intro H1 locs1 hP1 _ hS1
    refine ev_G_set kk hcell rfl C ?_ hS1
    show va_P w.2.2.2.1 ev_cl ((ev_ws w h).set x (ev_base w + x, .inr (ci, (fs.set k v).map (ev_v w)))) H1
    rw [List.map_set]
    exact hP1
  obtain ⟨R0, T0, N0⟩ := q
  rcases hfin with hfin | ⟨hfin, hnm, hdecl, hl⟩
  · rcases hl with hl | hl
    · exact va_put C.1.1 C.1.2.1 (ev_hts ok hW) (ev_clq_in hcq) (ev_fty (R0, T0, N0)) (ev_clq_ty hcq) (ev_clq_nm hcq) C.1.own (va_K.moved hW.alike ok.2.1) C.2.2.2.1 (ev_ws_D w h) C.2.2.2.2.1 x (ev_ws_get hcell) hq k hk (ev_word ok hW hl args) (fun _ z => z) hfin (ev_clq_ty hcq k hk) hnar hfits hkl' (ev_dec_at hM hi) key
    · exact va_putN C.1.1 C.1.2.1 (ev_hts ok hW) (ev_clq_in hcq) (ev_fty (R0, T0, N0)) (ev_clq_ty hcq) (ev_clq_nm hcq) C.1.own (va_K.moved hW.alike ok.2.1) C.2.2.2.1 (ev_ws_D w h) C.2.2.2.2.1 x (ev_ws_get hcell) hq k hk (ev_word ok hW hl args) (fun _ z => z) hfin (ev_clq_ty hcq k hk) hnar hfits hkl' (ev_dec_at hM hi) key
  · exact va_putF C.1.1 C.1.2.1 (ev_hts ok hW) (ev_clq_in hcq) (ev_fty (R0, T0, N0)) (ev_clq_ty hcq) (ev_clq_nm hcq) C.1.own (va_K.moved hW.alike ok.2.1) C.2.2.2.1 (ev_ws_D w h) C.2.2.2.2.1 x (ev_ws_get hcell) hq k hk (ev_word ok hW hl args) (fun _ z => z) hfin (C.1.2.2.2.2.2.2.1.trans hnm) hdecl (ev_clq_ty hcq k hk) hnar hfits hkl' (ev_dec_at hM hi) key
theorem ev_iald (ok : ev_ok w) (hM : ev_dec M = true) {x n : Nat} {f : Nat → Int32} {i : Int32} (hi : ev_ins M pc = some (.iaload, a, b)) (hcell : h[x]? = some (.inl (0, n, .inl f))) (hin : vp_in i n) (kk : ev_G w M d h0 Q (pc + 1) L (.int (f i.toNatClampNeg) :: st) h) : ev_G w M d h0 Q pc L (.int i :: .ref x :: st) h := by
  intro p e R s m args below meth c H locs ls C
  exact va_iald C.1.1 C.1.2.1 (va_K.moved C.1.warm.alike ok.2.1) C.2.2.2.1 x 0 (ev_ws_get hcell) rfl hin (ev_dec_at hM hi) (kk p e R s m args below meth c H locs ls C)
theorem ev_cald (ok : ev_ok w) (hM : ev_dec M = true) {x n : Nat} {f : Nat → Int32} {i : Int32} (hi : ev_ins M pc = some (.caload, a, b)) (hcell : h[x]? = some (.inl (1, n, .inl f))) (hin : vp_in i n) (kk : ev_G w M d h0 Q (pc + 1) L (.int (f i.toNatClampNeg) :: st) h) : ev_G w M d h0 Q pc L (.int i :: .ref x :: st) h := by
  intro p e R s m args below meth c H locs ls C
  exact va_cald C.1.1 C.1.2.1 (va_K.moved C.1.warm.alike ok.2.1) C.2.2.2.1 x 1 (ev_ws_get hcell) rfl hin (ev_dec_at hM hi) (kk p e R s m args below meth c H locs ls C)
theorem ev_lald (ok : ev_ok w) (hM : ev_dec M = true) {x n : Nat} {f : Nat → Int64} {i : Int32} (hi : ev_ins M pc = some (.laload, a, b)) (hcell : h[x]? = some (.inl (2, n, .inr (.inl f)))) (hin : vp_in i n) (kk : ev_G w M d h0 Q (pc + 1) L (.long (f i.toNatClampNeg) :: st) h) : ev_G w M d h0 Q pc L (.int i :: .ref x :: st) h := by
  intro p e R s m args below meth c H locs ls C
  exact va_lald C.1.1 C.1.2.1 (va_K.moved C.1.warm.alike ok.2.1) C.2.2.2.1 x 2 (ev_ws_get hcell) rfl hin (ev_dec_at hM hi) (kk p e R s m args below meth c H locs ls C)
theorem ev_iast (ok : ev_ok w) (hM : ev_dec M = true) {x n : Nat} {f : Nat → Int32} {i : Int32} {v : Int32} (hi : ev_ins M pc = some (.iastore, a, b)) (hcell : h[x]? = some (.inl (0, n, .inl f))) (hin : vp_in i n) (kk : ev_G w M d h0 Q (pc + 1) L st (h.set x (.inl (0, n, .inl (upd f i.toNatClampNeg v))))) : ev_G w M d h0 Q pc L (.int v :: .int i :: .ref x :: st) h := by
  intro p e R s m args below meth c H locs ls C
  exact va_iast C.1.1 C.1.2.1 (va_K.moved C.1.warm.alike ok.2.1) C.2.2.2.1 (ev_ws_D w h) C.2.2.2.2.1 x 0 (ev_ws_get hcell) rfl hin (ev_dec_at hM hi) (fun H1 locs1 hP1 _ hS1 => ev_G_set kk hcell rfl C hP1 hS1)
theorem ev_cast (ok : ev_ok w) (hM : ev_dec M = true) {x n : Nat} {f : Nat → Int32} {i : Int32} {v : Int32} (hi : ev_ins M pc = some (.castore, a, b)) (hcell : h[x]? = some (.inl (1, n, .inl f))) (hin : vp_in i n) (kk : ev_G w M d h0 Q (pc + 1) L st (h.set x (.inl (1, n, .inl (upd f i.toNatClampNeg (vp_nar .char v)))))) : ev_G w M d h0 Q pc L (.int v :: .int i :: .ref x :: st) h := by
  intro p e R s m args below meth c H locs ls C
  exact va_cast C.1.1 C.1.2.1 (va_K.moved C.1.warm.alike ok.2.1) C.2.2.2.1 (ev_ws_D w h) C.2.2.2.2.1 x 1 (ev_ws_get hcell) rfl hin (ev_dec_at hM hi) (fun H1 locs1 hP1 _ hS1 => ev_G_set kk hcell rfl C hP1 hS1)
theorem ev_last (ok : ev_ok w) (hM : ev_dec M = true) {x n : Nat} {f : Nat → Int64} {i : Int32} {v : Int64} (hi : ev_ins M pc = some (.lastore, a, b)) (hcell : h[x]? = some (.inl (2, n, .inr (.inl f)))) (hin : vp_in i n) (kk : ev_G w M d h0 Q (pc + 1) L st (h.set x (.inl (2, n, .inr (.inl (vp_updL f i.toNatClampNeg v)))))) : ev_G w M d h0 Q pc L (.long v :: .int i :: .ref x :: st) h := by
  intro p e R s m args below meth c H locs ls C
  exact va_last C.1.1 C.1.2.1 (va_K.moved C.1.warm.alike ok.2.1) C.2.2.2.1 (ev_ws_D w h) C.2.2.2.2.1 x 2 (ev_ws_get hcell) rfl hin (ev_dec_at hM hi) (fun H1 locs1 hP1 _ hS1 => ev_G_set kk hcell rfl C hP1 hS1)
theorem ev_v_rf (r : Option Nat) : ev_v w (va_rf r) = va_rf (r.map (fun k => ev_base w + k)) := by cases r <;> rfl
theorem ev_aald (ok : ev_ok w) (hM : ev_dec M = true) {x n : Nat} {f : Nat → Option Nat} {i : Int32} (hi : ev_ins M pc = some (.aaload, a, b)) (hcell : h[x]? = some (.inl (3, n, .inr (.inr (.inr (.inr f)))))) (hin : vp_in i n) (kk : ev_G w M d h0 Q (pc + 1) L (va_rf (f i.toNatClampNeg) :: st) h) : ev_G w M d h0 Q pc L (.int i :: .ref x :: st) h := by
  intro p e R s m args below meth c H locs ls C
  refine va_aldq C.1.1 C.1.2.1 (va_K.moved C.1.warm.alike ok.2.1) C.2.2.2.1 x 3 (ev_ws_get hcell) rfl hin (ev_dec_at hM hi) ?_
  have h1 := kk p e R s m args below meth c H locs ls C
  rw [List.map_cons, ev_v_rf] at h1
  exact h1
theorem ev_aast (ok : ev_ok w) (hM : ev_dec M = true) {x n y ci : Nat} {q : vw_C} {fs : List Value} {f : Nat → Option Nat} {i : Int32} (hi : ev_ins M pc = some (.aastore, a, b)) (hcell : h[x]? = some (.inl (3, n, .inr (.inr (.inr (.inr f)))))) (hy : h[y]? = some (.inr (ci, fs))) (hq : ev_cl[ci]? = some q) (hqn : q.1 = ev_Let) (hin : vp_in i n)
    (kk : ev_G w M d h0 Q (pc + 1) L st (h.set x (.inl (3, n, .inr (.inr (.inr (.inr (va_up f i.toNatClampNeg (some y))))))))) : ev_G w M d h0 Q pc L (.ref y :: .int i :: .ref x :: st) h := by
  intro p e R s m args below meth c H locs ls C
  refine va_astq (r := q) C.1.1 C.1.2.1 (va_K.moved C.1.warm.alike ok.2.1) C.2.2.2.1 (ev_ws_D w h) C.2.2.2.2.1 x 3 y ci (ev_ws_get hcell) (by rw [hqn]; rfl) (ev_ws_get hy) hq hin (ev_dec_at hM hi) (fun H1 locs1 hP1 _ hS1 => ?_)
  refine ev_G_set kk hcell rfl C ?_ hS1
  have e1 : (fun j => (va_up f i.toNatClampNeg (some y) j).map (fun k => ev_base w + k)) = va_up (fun j => (f j).map (fun k => ev_base w + k)) i.toNatClampNeg (some (ev_base w + y)) := by
    funext j
    unfold va_up
    split <;> rfl
  show va_P w.2.2.2.1 ev_cl ((ev_ws w h).set x (ev_base w + x, .inl (w.2.2.2.2.1 3, n, .inr (.inr (.inr (.inr (fun j => (va_up f i.toNatClampNeg (some y) j).map (fun k => ev_base w + k)))))))) H1
  rw [e1]
  exact hP1
theorem ev_alen (ok : ev_ok w) (hM : ev_dec M = true) {x t : Nat} {z : vp_A} (ht : t < 4) (hi : ev_ins M pc = some (.arraylength, a, b)) (hcell : h[x]? = some (.inl (t, z))) (kk : ev_G w M d h0 Q (pc + 1) L (.int (Int32.ofNat z.1) :: st) h) : ev_G w M d h0 Q pc L (.ref x :: st) h := by
  intro p e R s m args below meth c H locs ls C
  have hK := va_K.moved C.1.warm.alike ok.2.1
  match t, ht, hcell with
  | 0, _, hcell => exact va_alen C.1.1 C.1.2.1 hK C.2.2.2.1 x 0 (ev_ws_get hcell) rfl rfl (ev_dec_at hM hi) (kk p e R s m args below meth c H locs ls C)
  | 1, _, hcell => exact va_alen C.1.1 C.1.2.1 hK C.2.2.2.1 x 1 (ev_ws_get hcell) rfl rfl (ev_dec_at hM hi) (kk p e R s m args below meth c H locs ls C)
  | 2, _, hcell => exact va_alen C.1.1 C.1.2.1 hK C.2.2.2.1 x 2 (ev_ws_get hcell) rfl rfl (ev_dec_at hM hi) (kk p e R s m args below meth c H locs ls C)
  | 3, _, hcell => exact va_alen C.1.1 C.1.2.1 hK C.2.2.2.1 x 3 (ev_ws_get hcell) rfl rfl (ev_dec_at hM hi) (kk p e R s m args below meth c H locs ls C)
theorem ev_scr (ok : ev_ok w) {p : Program} {R : Room} {s : State} {m : MethodId} {meth : Method} {c : Code} {H : Heap} {locs : List Loc} {ls : Array Slot} (C : ev_cx w M d h0 p R s m meth c h H locs L ls) :
    va_X w.2.2.2.2.2.1 w.2.2.2.2.2.2.2.2.1 w.2.2.2.2.2.2.2.2.2 s s.heap ∧ w.2.2.2.2.2.1 < s.heap.size ∧ ¬ ev_A w w.2.2.2.2.2.1 := by
  have h1 := C.2.1.2.1
  have hb : w.2.2.2.2.2.1 < ev_base w := ok.2.2.2.2
  exact ⟨(ok.2.2.2.1.moved C.1.warm.alike).kept (C.2.1.2.2 _ hb), by omega, by unfold ev_A; omega⟩
theorem ev_sld (ok : ev_ok w) (hM : ev_dec M = true) {x : Nat} {i : Int32} (hi : ev_ins M pc = some (.iaload, a, b)) (hin : vp_in i w.2.2.2.2.2.2.2.2.1) (kk : ev_G w M d h0 Q (pc + 1) L (.int (w.2.2.2.2.2.2.2.2.2 i.toNatClampNeg) :: st) h) : ev_G w M d h0 Q pc L (.int i :: .retAddr x :: st) h := by
  intro p e R s m args below meth c H locs ls C
  obtain ⟨h1, h2, h3⟩ := ev_scr ok C
  exact va_sld C.1.1 C.1.2.1 h1 h2 h3 C.2.2.2.2.1 hin (ev_dec_at hM hi) (kk p e R s m args below meth c H locs ls C)
theorem ev_slen (ok : ev_ok w) (hM : ev_dec M = true) {x : Nat} (hi : ev_ins M pc = some (.arraylength, a, b)) (kk : ev_G w M d h0 Q (pc + 1) L (.int (Int32.ofNat w.2.2.2.2.2.2.2.2.1) :: st) h) : ev_G w M d h0 Q pc L (.retAddr x :: st) h := by
  intro p e R s m args below meth c H locs ls C
  obtain ⟨h1, h2, h3⟩ := ev_scr ok C
  exact va_slen C.1.1 C.1.2.1 h1 h2 h3 C.2.2.2.2.1 (ev_dec_at hM hi) (kk p e R s m args below meth c H locs ls C)
/-- behind a new cell: it lies just behind the others -/
theorem ev_G_app {y : ev_E} (hcap1 : h.length + 1 ≤ w.2.2.2.2.2.2.1) (hcap2 : ev_cost h + ev_c1 y ≤ w.2.2.2.2.2.2.2.1) (kk : ev_G w M d h0 Q pc L (.ref h.length :: st) (h ++ [y])) {p : Program} {e : Env} {R : Room} {s : State} {m : MethodId} {args : Array Value} {below : List Frame} {meth : Method} {c : Code} {H H1 : Heap} {locs : List Loc} {ls : Array Slot} {x n : Nat} (hn : n = ev_c1 y)
    (C : ev_cx w M d h0 p R s m meth c h H locs L ls) (hP1 : va_P w.2.2.2.1 ev_cl (ev_ws w h ++ [(x, ev_e w y)]) H1) (hD1 : va_D (ev_A w) (ev_ws w h ++ [(x, ev_e w y)])) (hS1 : va_S (ev_A w) s.heap H1 locs) :
    W p w.1 e R s m args below meth c H1 locs (h.length - h0.length + 1) (ev_cost h - ev_cost h0 + n) (ev_PQ w h0 Q below s) (F0 m pc ls (.ref x :: st.map (ev_v w))) := by
  obtain ⟨c1, c2, c3, c4, c5, c6, c7, c8, c9, c10⟩ := C
  subst hn
  intro T hT X
  have hz := X.heapSize
  have hs := c2.2.1
  have hlast : (ev_ws w h ++ [(x, ev_e w y)])[h.length]? = some (x, ev_e w y) := by
    rw [List.getElem?_append_right (by rw [ev_ws_len]; exact Nat.le_refl _), ev_ws_len, Nat.sub_self]; rfl
  have hlt : x < H1.size := (hP1 h.length _ hlast).lt
  have hge : ev_base w ≤ x := hD1.2 h.length _ hlast
  have hne : ∀ j, j < h.length → x ≠ ev_base w + j := by
    intro j hj hxj
    obtain ⟨z, hz'⟩ : ∃ z, h[j]? = some z := ⟨_, List.getElem?_eq_getElem hj⟩
    have h2 : (ev_ws w h ++ [(x, ev_e w y)])[j]? = some (ev_base w + j, ev_e w z) := by
      rw [List.getElem?_append_left (by rw [ev_ws_len]; exact hj)]; exact ev_ws_get hz'
    have h3 := hD1.1 h.length j _ _ hlast h2 hxj
    omega
  have hx : x = ev_base w + h.length := by
    rw [hT] at hz
    rcases Nat.lt_or_ge (x - ev_base w) h.length with hl | hl
    · exact absurd (by omega) (hne (x - ev_base w) hl)
    · omega
  subst hx
  have h1 := kk p e R s m args below meth c H1 locs ls ⟨c1, c2, c3, by rw [ev_ws_app]; exact hP1, hS1, c6, by rw [List.length_append]; exact Nat.le_trans c7 (Nat.le_add_right _ _), by rw [ev_cost_app]; exact Nat.le_trans c8 (Nat.le_add_right _ _), by rw [List.length_append]; exact hcap1, by rw [ev_cost_app]; exact hcap2⟩
  have e1 : (h ++ [y]).length - h0.length = h.length - h0.length + 1 := by rw [List.length_append, List.length_singleton]; omega
  have e2 : ev_cost (h ++ [y]) - ev_cost h0 = ev_cost h - ev_cost h0 + ev_c1 y := by rw [ev_cost_app]; omega
  rw [e1, e2] at h1
  exact h1 T hT X
theorem ev_cx.room {p : Program} {R : Room} {s : State} {m : MethodId} {meth : Method} {c : Code} {H : Heap} {locs : List Loc} {ls : Array Slot} (C : ev_cx w M d h0 p R s m meth c h H locs L ls) {n : Nat} (h1 : h.length + 1 ≤ w.2.2.2.2.2.2.1) (h2 : ev_cost h + n ≤ w.2.2.2.2.2.2.2.1) :
    h.length - h0.length + 1 ≤ R.cells ∧ ev_cost h - ev_cost h0 + n ≤ R.slots := by
  obtain ⟨-, -, ⟨-, -, f3, f4⟩, -, -, -, c7, c8, -, -⟩ := C
  omega
theorem ev_cx.A {p : Program} {R : Room} {s : State} {m : MethodId} {meth : Method} {c : Code} {H : Heap} {locs : List Loc} {ls : Array Slot} (C : ev_cx w M d h0 p R s m meth c h H locs L ls) : ∀ q, s.heap.size ≤ q → ev_A w q := by
  intro q hq
  have h1 := C.2.1.2.1
  show ev_base w ≤ q
  omega
def ev_dft (q : vw_C) : List Value := (List.range q.2.2).map (fun j => defaultValue (ev_fty q j))
theorem ev_v_dft (ty : FieldType) : ev_v w (defaultValue ty) = defaultValue ty := by cases ty <;> rfl
theorem ev_dft_map (q : vw_C) : (ev_dft q).map (ev_v w) = ev_dft q := by
  simp [ev_dft, ev_v_dft]
theorem ev_dft_V (q : vw_C) : ∀ j, j < q.2.2 → defaultValue (ev_fty q j) = vp_V (ev_dft q) j := by
  intro j hj
  simp [vp_V, ev_dft, hj]
theorem ev_new (ok : ev_ok w) (hM : ev_dec M = true) {idx ci : Nat} {q : vw_C} (hi : ev_ins M pc = some (.new idx, ci, b)) (hq : ev_cl[ci]? = some q) (hn : q.2.2 = ev_sz ci) (hl : ev_has (.classLink M.1.cls idx q.1) = true) (hin : ev_has (.instantiable q.1 q.2.2) = true) (hii : ev_has (.initialized q.1) = true)
    (h1 : h.length + 1 ≤ w.2.2.2.2.2.2.1) (h2 : ev_cost h + q.2.2 ≤ w.2.2.2.2.2.2.2.1) (kk : ev_G w M d h0 Q (pc + 3) L (.ref h.length :: st) (h ++ [.inr (ci, ev_dft q)])) : ev_G w M d h0 Q pc L st h := by
  intro p e R s m args below meth c H locs ls C
  have hW := C.1.warm
  have hcq := ev_cl_q hq
  obtain ⟨r1, r2⟩ := C.room h1 h2
  have hA := C.A
  obtain ⟨R0, T0, N0⟩ := q
  refine va_new (fs := ev_dft (R0, T0, N0)) C.1.1 C.1.2.1 (ev_hts ok hW) (ev_clq_in hcq) (ev_fty (R0, T0, N0)) (ev_clq_ty hcq) C.1.own (ev_word ok hW hl args) (ev_word ok hW hin args) (ev_word ok hW hii args) (va_K.moved hW.alike ok.2.1) C.2.2.2.1 (ev_ws_D w h) C.2.2.2.2.1 hA hq (ev_dft_V (R0, T0, N0)) r1 r2 (ev_dec_at hM hi) (fun x H1 hP1 hD1 hS1 => ?_)
  have e1 : ev_e w (.inr (ci, ev_dft (R0, T0, N0))) = .inr (ci, ev_dft (R0, T0, N0)) := by
    show Sum.inr (ci, (ev_dft (R0, T0, N0)).map (ev_v w)) = _
    rw [ev_dft_map]
  exact ev_G_app h1 (by show ev_cost h + ev_sz ci ≤ _; rw [← hn]; exact h2) kk (y := .inr (ci, ev_dft (R0, T0, N0))) hn C (by rw [e1]; exact hP1) (by rw [e1]; exact hD1) hS1
theorem ev_RA_eq {U : State} {cA cB : ClassId} {ty : FieldType} (h1 : va_RA U cA ty) (h2 : va_RA U cB ty) : cA = cB := by
  cases ty with
  | object C =>
    obtain ⟨_, _, _, _, _, q1⟩ := h1
    obtain ⟨_, _, _, _, _, q2⟩ := h2
    exact Option.some.inj (q1.symm.trans q2)
  | _ => exact Option.some.inj (Eq.trans (Eq.symm h1) h2)
theorem ev_tyN {U : State} {D : va_G} {tys : List (ClassId × FieldType)} {cA cB : ClassId} {ty : FieldType} {t : Nat} (hK : va_K D ev_cl (tys ++ [(cA, ty)]) U) (ht : tys[t]? = some (cB, ty)) : cA = cB := by
  have h1 := (hK.2 tys.length (cA, ty) (by rw [List.getElem?_append_right (Nat.le_refl _), Nat.sub_self]; rfl)).2
  have h2 := (hK.2 t (cB, ty) (by rw [List.getElem?_append_left (List.getElem?_eq_some_iff.mp ht).1]; exact ht)).2
  exact ev_RA_eq h1 h2
theorem ev_newR (ok : ev_ok w) (hM : ev_dec M = true) {idx : Nat} {n : Int32} (hi : ev_ins M pc = some (.anewarray idx, a, b)) (hl : ev_has (.classLink M.1.cls idx ev_Let) = true) (ho : ev_has (.arrayOver (.object ev_Let)) = true) (hn : ¬ n < 0) (hb : n.toNatClampNeg ≤ 10000) (h1 : h.length + 1 ≤ w.2.2.2.2.2.2.1) (h2 : ev_cost h + n.toNatClampNeg ≤ w.2.2.2.2.2.2.2.1)
    (kk : ev_G w M d h0 Q (pc + 3) L (.ref h.length :: st) (h ++ [.inl (3, n.toNatClampNeg, .inr (.inr (.inr (.inr (fun _ => none)))))])) : ev_G w M d h0 Q pc L (.int n :: st) h := by
  intro p e R s m args below meth c H locs ls C
  have hW := C.1.warm
  obtain ⟨r1, r2⟩ := C.room h1 h2
  refine va_newq C.1.1 C.1.2.1 C.1.own (ev_word ok hW hl args) (ev_word ok hW ho #[]) (va_K.moved hW.alike ok.2.1) C.2.2.2.1 (ev_ws_D w h) C.2.2.2.2.1 C.A hn rfl (by omega) r1 r2 (ev_dec_at hM hi) (fun x cA H1 hK1 hP1 hD1 hS1 => ?_)
  obtain rfl : cA = w.2.2.2.2.1 3 := ev_tyN (t := 3) hK1 rfl
  exact ev_G_app h1 h2 kk (y := .inl (3, n.toNatClampNeg, .inr (.inr (.inr (.inr (fun _ => none)))))) rfl C hP1 hD1 hS1
end EvHeap2
