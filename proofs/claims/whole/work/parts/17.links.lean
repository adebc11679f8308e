section EvLinks
variable {M : ev_M} {pc a b : Nat} {i : Instr}
/-! the links of a listing, looked up once -/
def ev_lkp (M : ev_M) (idx ci k : Nat) : Bool := match ev_cl[ci]? with
  | none => false
  | some q => !(q.2.1 k).2.2.2 || (decide (M.1.name = "<init>") && decide ((q.2.1 k).1 = M.1.cls) && ev_has (.fieldLink M.1.cls idx (q.2.1 k).1 (q.2.1 k).2.1 (q.2.1 k).2.2.1))
theorem ev_lkp_of {idx ci k : Nat} {q : vw_C} (hq : ev_cl[ci]? = some q) (hl : ev_lkp M idx ci k = true) :
    (q.2.1 k).2.2.2 = false ∨ ((q.2.1 k).2.2.2 = true ∧ M.1.name = "<init>" ∧ (q.2.1 k).1 = M.1.cls ∧ ev_has (.fieldLink M.1.cls idx (q.2.1 k).1 (q.2.1 k).2.1 (q.2.1 k).2.2.1) = true) := by
  simp only [ev_lkp, hq, Bool.or_eq_true, Bool.and_eq_true, Bool.not_eq_true', decide_eq_true_eq] at hl
  rcases hl with hl | ⟨⟨h1, h2⟩, h3⟩
  · exact Or.inl hl
  · by_cases hf : (q.2.1 k).2.2.2 = true
    · exact Or.inr ⟨hf, h1, h2, h3⟩
    · exact Or.inl (by simpa using hf)
def ev_lkn (own : String) (idx ci : Nat) : Bool := match ev_cl[ci]? with
  | none => false
  | some q => decide (q.2.2 = ev_sz ci) && ev_has (.classLink own idx q.1) && ev_has (.instantiable q.1 q.2.2) && ev_has (.initialized q.1)
def ev_lkm (own : String) (idx : Nat) (M' : ev_M) : Bool := ev_has (.methodLink own idx M'.1) || ev_has (.methodLinkNest own idx M'.1 ev_host)
/-- a throw of one's own, its five instructions -/
def ev_thr1 (M : ev_M) (pc ik ce : Nat) : Bool := match ev_cl[ce]?, ev_ins M (pc + 3), ev_ins M (pc + 4), ev_ins M (pc + 6), ev_ins M (pc + 9) with
  | some q, some (.dup, _, _), some (.ldc is, _, _), some (.invokespecial ic, _, _), some (.athrow, _, _) => decide (q.2.2 = 0) && decide (ev_sz ce = 6) && ev_thw M.1.cls ik is ic q.1 (ev_tx is) && M.2.2.2.2.1.all (fun z => !(decide (z.1 ≤ pc + 9) && decide (pc + 9 < z.2.1)))
  | _, _, _, _, _ => false
def ev_thr2 (M : ev_M) (pc ik ce : Nat) : Bool := match ev_cl[ce]?, ev_ins M (pc + 3), ev_ins M (pc + 4), ev_ins M (pc + 7), ev_ins M (pc + 10) with
  | some q, some (.dup, _, _), some (.ldc_w is, _, _), some (.invokespecial ic, _, _), some (.athrow, _, _) => decide (q.2.2 = 0) && decide (ev_sz ce = 6) && ev_thw M.1.cls ik is ic q.1 (ev_tx is) && M.2.2.2.2.1.all (fun z => !(decide (z.1 ≤ pc + 10) && decide (pc + 10 < z.2.1)))
  | _, _, _, _, _ => false
def ev_thr (M : ev_M) (pc ik ce : Nat) : Bool := ev_thr1 M pc ik ce || ev_thr2 M pc ik ce
def ev_lnk (M : ev_M) (q : Nat × Instr × Nat × Nat) : Bool := match q.2.1 with
  | .getfield idx => ev_lkf M.1.cls idx q.2.2.1 q.2.2.2
  | .putfield idx => ev_lkf M.1.cls idx q.2.2.1 q.2.2.2 && ev_lkp M idx q.2.2.1 q.2.2.2
  | .ldc idx => if q.2.2.2 = 1 then ev_has (.constant M.1.cls idx (Int32.ofNat q.2.2.1)) else true
  | .new idx => if q.2.2.1 < ev_nc then ev_lkn M.1.cls idx q.2.2.1 else ev_thr M q.1 idx q.2.2.1
  | .newarray .int => ev_has (.arrayClass .int)
  | .newarray .char => ev_has (.arrayClass .char)
  | .newarray .long => ev_has (.arrayClass .long)
  | .anewarray idx => ev_has (.classLink M.1.cls idx ev_Let) && ev_has (.arrayOver (.object ev_Let))
  | .invokestatic idx => (match ev_prog[q.2.2.1]? with
    | none => false
    | some M' => ev_lkm M.1.cls idx M' && ev_has (.static M'.1) && ev_npar M'.1 q.2.2.2 && decide (q.2.2.2 ≤ M'.2.2.1))
  | .invokevirtual idx => (match ev_prog[q.2.2.1]?, ev_cl[(ev_mcs[q.2.2.1]?).getD 99]? with
    | some M', some z => ev_lkm M.1.cls idx M' && ev_has (.instanceMethod M'.1) && ev_has (.selects M'.1.cls M'.1 M'.1) && ev_npar M'.1 q.2.2.2 && decide (q.2.2.2 + 1 ≤ M'.2.2.1) && decide (z.1 = M'.1.cls)
    | _, _ => false)
  | .invokespecial idx => if q.2.2.1 = 998 then true else if q.2.2.1 = 999 then ev_has (.methodLink M.1.cls idx Lib.objectInit) && ev_has (.instanceMethod Lib.objectInit) && ev_has (.code Lib.objectInit ⟨#[0xb1]⟩ 1 none) else (match ev_prog[q.2.2.1]? with
    | none => false
    | some M' => ev_lkm M.1.cls idx M' && ev_has (.instanceMethod M'.1) && ev_npar M'.1 q.2.2.2 && decide (q.2.2.2 + 1 ≤ M'.2.2.1) && decide (M'.1.name = "<init>") && decide (M'.2.2.2.2.1 = []) && decide (M'.2.2.2.1 = none))
  | _ => true
def ev_lnks (M : ev_M) : Bool := M.2.2.2.2.2.all (ev_lnk M)
theorem ev_lnk_at (hl : ev_lnks M = true) (hi : ev_ins M pc = some (i, a, b)) : ev_lnk M (pc, i, a, b) = true := List.all_eq_true.mp hl _ (ev_ins_mem hi)
end EvLinks
