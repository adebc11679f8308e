section EvNew
variable {w : ev_W} {M : ev_M} {d : Nat × Nat} {h0 : ev_H} {Q : ev_R → ev_H → Prop} {pc : Nat} {L : List (Option Value)} {st : List Value} {h : ev_H} {a b : Nat}
theorem ev_a0I (N : Nat) : ∀ cA : ClassId, vp_cell cA (N, .inl (fun _ => 0)) = arrV cA N (fun _ => defaultValue .int) := fun cA => by rw [vp_cell_i]; rfl
theorem ev_a0C (N : Nat) : ∀ cA : ClassId, vp_cell cA (N, .inl (fun _ => 0)) = arrV cA N (fun _ => defaultValue .char) := fun cA => by rw [vp_cell_i]; rfl
theorem ev_a0L (N : Nat) : ∀ cA : ClassId, vp_cell cA (N, .inr (.inl (fun _ => 0))) = arrV cA N (fun _ => defaultValue .long) := fun cA => by rw [vp_cell_l]; rfl
theorem ev_newI (ok : ev_ok w) (hM : ev_dec M = true) {n : Int32} (hi : ev_ins M pc = some (.newarray .int, a, b)) (hl : ev_has (.arrayClass .int) = true) (hn : ¬ n < 0) (hb : n.toNatClampNeg ≤ 10000) (h1 : h.length + 1 ≤ w.2.2.2.2.2.2.1) (h2 : ev_cost h + n.toNatClampNeg ≤ w.2.2.2.2.2.2.2.1)
    (kk : ev_G w M d h0 Q (pc + 2) L (.ref h.length :: st) (h ++ [.inl (0, n.toNatClampNeg, .inl (fun _ => 0))])) : ev_G w M d h0 Q pc L (.int n :: st) h := by
  intro p e R s m args below meth c H locs ls C
  have hW := C.1.warm
  obtain ⟨r1, r2⟩ := C.room h1 h2
  have e4 : componentBytes FieldType.int = 4 := rfl
  have hb4 : n.toNatClampNeg * componentBytes FieldType.int ≤ 536870912 := by rw [e4]; omega
  generalize hN : n.toNatClampNeg = N at hb4 r2 h2 kk ⊢
  refine va_newa (atype := .int) (ty := .int) (N' := N) (a0 := (N, .inl (fun _ => 0))) C.1.1 C.1.2.1 (ev_word ok hW hl args) rfl (va_K.moved hW.alike ok.2.1) C.2.2.2.1 (ev_ws_D w h) C.2.2.2.2.1 C.A (ev_a0I N) hn hN hb4 r1 r2 (ev_dec_at hM hi) (fun x cA H1 hK1 hP1 hD1 hS1 => ?_)
  obtain rfl : cA = w.2.2.2.2.1 0 := ev_tyN (t := 0) hK1 rfl
  exact ev_G_app h1 h2 kk (y := .inl (0, N, .inl (fun _ => 0))) rfl C hP1 hD1 hS1
theorem ev_newC (ok : ev_ok w) (hM : ev_dec M = true) {n : Int32} (hi : ev_ins M pc = some (.newarray .char, a, b)) (hl : ev_has (.arrayClass .char) = true) (hn : ¬ n < 0) (hb : n.toNatClampNeg ≤ 10000) (h1 : h.length + 1 ≤ w.2.2.2.2.2.2.1) (h2 : ev_cost h + n.toNatClampNeg ≤ w.2.2.2.2.2.2.2.1)
    (kk : ev_G w M d h0 Q (pc + 2) L (.ref h.length :: st) (h ++ [.inl (1, n.toNatClampNeg, .inl (fun _ => 0))])) : ev_G w M d h0 Q pc L (.int n :: st) h := by
  intro p e R s m args below meth c H locs ls C
  have hW := C.1.warm
  obtain ⟨r1, r2⟩ := C.room h1 h2
  have e4 : componentBytes FieldType.char = 2 := rfl
  have hb4 : n.toNatClampNeg * componentBytes FieldType.char ≤ 536870912 := by rw [e4]; omega
  generalize hN : n.toNatClampNeg = N at hb4 r2 h2 kk ⊢
  refine va_newa (atype := .char) (ty := .char) (N' := N) (a0 := (N, .inl (fun _ => 0))) C.1.1 C.1.2.1 (ev_word ok hW hl args) rfl (va_K.moved hW.alike ok.2.1) C.2.2.2.1 (ev_ws_D w h) C.2.2.2.2.1 C.A (ev_a0C N) hn hN hb4 r1 r2 (ev_dec_at hM hi) (fun x cA H1 hK1 hP1 hD1 hS1 => ?_)
  obtain rfl : cA = w.2.2.2.2.1 1 := ev_tyN (t := 1) hK1 rfl
  exact ev_G_app h1 h2 kk (y := .inl (1, N, .inl (fun _ => 0))) rfl C hP1 hD1 hS1
theorem ev_newL (ok : ev_ok w) (hM : ev_dec M = true) {n : Int32} (hi : ev_ins M pc = some (.newarray .long, a, b)) (hl : ev_has (.arrayClass .long) = true) (hn : ¬ n < 0) (hb : n.toNatClampNeg ≤ 10000) (h1 : h.length + 1 ≤ w.2.2.2.2.2.2.1) (h2 : ev_cost h + n.toNatClampNeg ≤ w.2.2.2.2.2.2.2.1)
    (kk : ev_G w M d h0 Q (pc + 2) L (.ref h.length :: st) (h ++ [.inl (2, n.toNatClampNeg, .inr (.inl (fun _ => 0)))])) : ev_G w M d h0 Q pc L (.int n :: st) h := by
  intro p e R s m args below meth c H locs ls C
  have hW := C.1.warm
  obtain ⟨r1, r2⟩ := C.room h1 h2
  have e4 : componentBytes FieldType.long = 8 := rfl
  have hb4 : n.toNatClampNeg * componentBytes FieldType.long ≤ 536870912 := by rw [e4]; omega
  generalize hN : n.toNatClampNeg = N at hb4 r2 h2 kk ⊢
  refine va_newa (atype := .long) (ty := .long) (N' := N) (a0 := (N, .inr (.inl (fun _ => 0)))) C.1.1 C.1.2.1 (ev_word ok hW hl args) rfl (va_K.moved hW.alike ok.2.1) C.2.2.2.1 (ev_ws_D w h) C.2.2.2.2.1 C.A (ev_a0L N) hn hN hb4 r1 r2 (ev_dec_at hM hi) (fun x cA H1 hK1 hP1 hD1 hS1 => ?_)
  obtain rfl : cA = w.2.2.2.2.1 2 := ev_tyN (t := 2) hK1 rfl
  exact ev_G_app h1 h2 kk (y := .inl (2, N, .inr (.inl (fun _ => 0)))) rfl C hP1 hD1 hS1
end EvNew
