/-! from the law's entry to the small machine -/
section EvStart
theorem ev_cl_inst : ((List.range 15).all (fun c => match ev_cl[c]? with | some q => ev_has (.instantiable q.1 (ev_sz c)) | none => true)) = true := by decide +kernel
theorem ev_arrs : (ev_has (.arrayClass .int) && ev_has (.arrayClass .char) && ev_has (.arrayClass .long) && ev_has (.arrayOver (.object ev_Let))) = true := by decide +kernel
theorem ev_arr_of {args : Array Value} {s : State} {ty : FieldType} (h : (Cond.arrayClass ty).before args s = true) : ∃ cA, ArrOfT s cA ty ∧ s.vm.findClass ("[" ++ ty.toString) = some cA := by
  obtain ⟨c, k, comp, h1, h2, h3⟩ := Cond.arrayClass_spec h
  exact ⟨c, fun n z => ⟨(fun k h => by cases h), k, h2, comp, h3⟩, h1⟩
/-- the world of a run -/
def ev_w0 (l : Launch) (s : State) (b L : Nat) (xs : Nat → Int32) (D : va_G) (tA : Nat → ClassId) : ev_W := (l, s, #[.ref b], D, tA, b, 601024, 7293034, L, xs)
theorem ev_world {l : Launch} {s : State} {b L : Nat} {xs : Nat → Int32} (hl : l.stackTraces = false) (hts : ∀ w ∈ lw_tbl, w.before #[Value.ref b] s = true) (hX : va_X b L xs s s.heap) (hb : b < s.heap.size) :
    ∃ (D : va_G) (tA : Nat → ClassId), ev_ok (ev_w0 l s b L xs D tA) := by
  have key : ∀ c : Nat, ∃ (cC : ClassId) (iS : Nat → Nat), ∀ q : vw_C, ev_cl[c]? = some q → u_Kn s q.1 q.2.1 q.2.2 cC iS := by
    intro c
    cases hc : ev_cl[c]? with
    | none => exact ⟨0, fun _ => 0, fun q hq => by cases hq⟩
    | some q =>
      have hlt : c < 15 := (List.getElem?_eq_some_iff.mp hc).1
      have h1 := List.all_eq_true.mp ev_cl_inst c (List.mem_range.mpr hlt)
      rw [hc] at h1
      have hg : ∀ x ∈ ev_Tg, x.before #[Value.ref b] s = true := fun x hx => hts x (List.mem_filter.mp hx).1
      obtain ⟨cC, iS, hK⟩ := u_known hg (ev_clq_in (ev_cl_q hc)) (hts _ (ev_has_in h1).1)
      exact ⟨cC, iS, fun q' hq' => by cases hq'; exact hK⟩
  have ha := ev_arrs
  simp only [Bool.and_eq_true] at ha
  obtain ⟨c0, a0, b0⟩ := ev_arr_of (hts _ (ev_has_in ha.1.1.1).1)
  obtain ⟨c1, a1, b1⟩ := ev_arr_of (hts _ (ev_has_in ha.1.1.2).1)
  obtain ⟨c2, a2, b2⟩ := ev_arr_of (hts _ (ev_has_in ha.1.2).1)
  obtain ⟨comp, c3, k3, g1, g2, g3, g4, g5⟩ := Cond.arrayOver_spec (hts _ (ev_has_in ha.2).1)
  refine ⟨(fun c => Classical.choose (key c), fun c => Classical.choose (Classical.choose_spec (key c))), fun k => if k = 0 then c0 else if k = 1 then c1 else if k = 2 then c2 else c3, hts, ⟨fun c q hq => Classical.choose_spec (Classical.choose_spec (key c)) q hq, ?_⟩, hl, hX, hb⟩
  intro k q hq
  match k, hq with
  | 0, hq => cases hq; exact ⟨a0, b0⟩
  | 1, hq => cases hq; exact ⟨a1, b1⟩
  | 2, hq => cases hq; exact ⟨a2, b2⟩
  | 3, hq => cases hq; exact ⟨fun n z => ⟨(fun k h => by cases h), k3, g3, comp, g4⟩, k3, comp, g3, g4, g1, g5⟩
  | n + 4, hq => cases hq
/-- what the law's end owes: 1 -/
def ev_one (r : ev_R) (_ : ev_H) : Prop := r = .inl (some (.int 1))
theorem ev_law_end {l : Launch} {s : State} {b L : Nat} {xs : Nat → Int32} {D : va_G} {tA : Nat → ClassId} {below : List Frame} {t : State} (hq : ev_PQ (ev_w0 l s b L xs D tA) [] ev_one below s t) :
    ∃ o, t.status = .running ∧ Ended t below o ∧ o = .returned (some (.int 1)) ∧ Framed s o t [] 601024 7293034 := by
  obtain ⟨o, h1, h2, r, h', hQ, hout, -, -, -, g3, g4, hW, Lc, hsame, hLc⟩ := hq
  cases hQ
  have ho : o = .returned (some (.int 1)) := hout
  refine ⟨o, h1, h2, ho, ⟨_, ho⟩, hW, hsame.weaken (fun x hx hlt => ?_) ?_ ?_⟩
  · have h3 : s.heap.size ≤ x.base := hLc x hx
    exact absurd hlt (Nat.not_lt.mpr h3)
  · have h3 : h'.length ≤ 601024 := g3
    omega
  · have h3 : ev_cost h' ≤ 7293034 := g4
    omega
theorem ev_law_start {p : Program} {l : Launch} {e : Env} {s : State} {m : MethodId} {below : List Frame} {meth : Method} {c : Code} {b L : Nat} {xs : Nat → Int32} {D : va_G} {tA : Nat → ClassId}
    (hx : p.tables.exec = Jvm.exec) (hb : c.code = code) (hr : meth.sig.returnType = ret) (hml : c.maxLocals = 7) (hown : s.vm.findClass "WitnessBenchLaw" = some m.cls) (hlocks : meth.locks = false) (hname : meth.name = "law") (hexc : c.exceptionTable = #[])
    (K : ev_G (ev_w0 l s b L xs D tA) ev_mlaw (12, 434) [] ev_one 0 (ev_L0 7 [.retAddr 0]) [] []) :
    ∀ T : State, T.heap = s.heap → Stand p l e room_1 s m #[Value.ref b] below meth c T [] 0 0 → ∃ t, Steps p.tables e below (T.setTop (entryFrame m ([Value.ref b] : List Value).toArray 7)) t ∧ ev_PQ (ev_w0 l s b L xs D tA) [] ev_one below s t := by
  have hls := ev_entry (ev_w0 l s b L xs D tA) [.retAddr 0] 7 (by simp [Value.category]) (by decide)
  have h1 := K p e room_1 s m #[Value.ref b] below meth c s.heap [] _ ⟨⟨hx, hb, hml, hr, hlocks, hown, hname, by rw [hexc]; rfl, State.WarmedH.refl s⟩,
    ⟨fun k q hq => by simp [ev_ws] at hq, rfl, fun q hq => rfl⟩, ⟨Nat.le_refl _, Nat.le_refl _, by show 601024 ≤ 0 + 601024; omega, by show 7293034 ≤ 0 + 7293034; omega⟩, fun k q hq => by simp [ev_ws] at hq, va_S.rf, hls, Nat.le_refl _, Nat.le_refl _, Nat.zero_le _, Nat.zero_le _⟩
  rw [lg_entry_eq]
  exact h1
end EvStart
