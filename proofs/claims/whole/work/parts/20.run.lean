/-! a program that runs the listings: what it comes to, the machine comes to -/
section EvRun
/-- the caps: cells, slots -/
abbrev ev_P : Type := Nat × Nat
abbrev ev_F : Type := Nat × List (Option Value) × List Value × ev_H
def ev_tgt (pc : Nat) (off : Int) : Option Nat := if ((pc : Int) + off) = (((pc : Int) + off).toNat : Int) then some (((pc : Int) + off).toNat) else none
theorem ev_tgt_of {pc t : Nat} {off : Int} (h : ev_tgt pc off = some t) : (pc : Int) + off = (t : Int) := by
  unfold ev_tgt at h
  split at h
  · rename_i hc
    cases h
    exact hc
  · cases h
def ev_s1 (i : Instr) (pc : Nat) (L : List (Option Value)) (st : List Value) (h : ev_H) : Option ev_F := match i with
  | .iconst n => some (pc + 1, L, .int (Int32.ofInt n) :: st, h)
  | .bipush n => some (pc + 2, L, .int (Int8.ofInt n).toInt32 :: st, h)
  | .sipush n => some (pc + 3, L, .int (Int16.ofInt n).toInt32 :: st, h)
  | _ => none
def ev_s2 (i : Instr) (pc : Nat) (L : List (Option Value)) (st : List Value) (h : ev_H) : Option ev_F := match i with
  | .iload_n k => (match L[(k : Nat)]? with | some (some (.int x)) => some (pc + 1, L, .int x :: st, h) | _ => none)
  | .iload k => (match L[k]? with | some (some (.int x)) => some (pc + 2, L, .int x :: st, h) | _ => none)
  | .aload_n k => (match L[(k : Nat)]? with | some (some (.ref x)) => some (pc + 1, L, .ref x :: st, h) | some (some (.retAddr x)) => some (pc + 1, L, .retAddr x :: st, h) | _ => none)
  | .aload k => (match L[k]? with | some (some (.ref x)) => some (pc + 2, L, .ref x :: st, h) | some (some (.retAddr x)) => some (pc + 2, L, .retAddr x :: st, h) | _ => none)
  | _ => none
def ev_s3 (nL : Nat) (i : Instr) (pc : Nat) (L : List (Option Value)) (st : List Value) (h : ev_H) : Option ev_F := match i with
  | .istore_n k => (match st with | .int x :: st => if (k : Nat) < nL then some (pc + 1, L.set (k : Nat) (some (.int x)), st, h) else none | _ => none)
  | .istore k => (match st with | .int x :: st => if k < nL then some (pc + 2, L.set k (some (.int x)), st, h) else none | _ => none)
  | .astore_n k => (match st with | .ref x :: st => if (k : Nat) < nL then some (pc + 1, L.set (k : Nat) (some (.ref x)), st, h) else none | _ => none)
  | .astore k => (match st with | .ref x :: st => if k < nL then some (pc + 2, L.set k (some (.ref x)), st, h) else none | _ => none)
  | .iinc k n => (match L[k]? with | some (some (.int x)) => if k < nL then some (pc + 3, L.set k (some (.int (x + Int32.ofInt n))), st, h) else none | _ => none)
  | _ => none
def ev_s4 (i : Instr) (pc : Nat) (L : List (Option Value)) (st : List Value) (h : ev_H) : Option ev_F := match st with
  | .int y :: .int x :: st => (match i with
    | .iadd => some (pc + 1, L, .int (x + y) :: st, h)
    | .isub => some (pc + 1, L, .int (x - y) :: st, h)
    | .imul => some (pc + 1, L, .int (x * y) :: st, h)
    | .iand => some (pc + 1, L, .int (x &&& y) :: st, h)
    | .ior => some (pc + 1, L, .int (x ||| y) :: st, h)
    | .ishl => some (pc + 1, L, .int (x <<< (y &&& 31)) :: st, h)
    | .ishr => some (pc + 1, L, .int (x >>> (y &&& 31)) :: st, h)
    | .idiv => if y = 0 then none else some (pc + 1, L, .int (x / y) :: st, h)
    | .irem => if y = 0 then none else some (pc + 1, L, .int (x - x / y * y) :: st, h)
    | _ => none)
  | .long y :: .long x :: st => (match i with
    | .lcmp => some (pc + 1, L, .int (lg_cmp x y) :: st, h)
    | _ => none)
  | _ => none
def ev_s5 (i : Instr) (pc : Nat) (L : List (Option Value)) (st : List Value) (h : ev_H) : Option ev_F := match i with
  | .ineg => (match st with | .int x :: st => some (pc + 1, L, .int (-x) :: st, h) | _ => none)
  | .i2c => (match st with | .int x :: st => some (pc + 1, L, .int (x.toUInt32 % 65536).toInt32 :: st, h) | _ => none)
  | .i2l => (match st with | .int x :: st => some (pc + 1, L, .long x.toInt64 :: st, h) | _ => none)
  | .dup => (match st with | v :: st => if v.category = 1 then some (pc + 1, L, v :: v :: st, h) else none | _ => none)
  | .pop => (match st with | v :: st => if v.category = 1 then some (pc + 1, L, st, h) else none | _ => none)
  | .dup_x1 => (match st with | v :: u :: st => if v.category = 1 ∧ u.category = 1 then some (pc + 1, L, v :: u :: v :: st, h) else none | _ => none)
  | .dup2 => (match st with | v :: u :: st => if v.category = 1 ∧ u.category = 1 then some (pc + 1, L, v :: u :: v :: u :: st, h) else none | _ => none)
  | _ => none
def ev_s6 (i : Instr) (pc : Nat) (L : List (Option Value)) (st : List Value) (h : ev_H) : Option ev_F := match i with
  | .goto off => (ev_tgt pc off).map (fun t => (t, L, st, h))
  | .ifCond cd off => (match st with | .int x :: st => (if ev_c0 cd x = true then (ev_tgt pc off).map (fun t => (t, L, st, h)) else (ev_tgt pc off).map (fun _ => (pc + 3, L, st, h))) | _ => none)
  | .if_icmp cd off => (match st with | .int y :: .int x :: st => (if ev_c2 cd x y = true then (ev_tgt pc off).map (fun t => (t, L, st, h)) else (ev_tgt pc off).map (fun _ => (pc + 3, L, st, h))) | _ => none)
  | .tableswitch dflt lo hi offs => (match st with
    | .int x :: st => if x.toInt < lo ∨ hi < x.toInt then (ev_tgt pc dflt).map (fun t => (t, L, st, h)) else (match offs[(x.toInt - lo).toNat]? with | some off => (ev_tgt pc off).map (fun t => (t, L, st, h)) | none => none)
    | _ => none)
  | _ => none
def ev_s7 (i : Instr) (a b pc : Nat) (L : List (Option Value)) (st : List Value) (h : ev_H) : Option ev_F := match i with
  | .getfield _ => (match st with
    | .ref x :: st => (match h[x]? with | some (.inr (ci, fs)) => if ci = a then (match fs[b]? with | some v => some (pc + 3, L, v :: st, h) | none => none) else none | _ => none)
    | _ => none)
  | .putfield _ => (match st with
    | v :: .ref x :: st => (match h[x]? with | some (.inr (ci, fs)) => if ci = a ∧ b < fs.length ∧ ev_fitv (ev_fty ((ev_cl[a]?).getD ("", fun _ => ("", "", "", false), 0)) b) v = true then some (pc + 3, L, st, h.set x (.inr (ci, fs.set b v))) else none | _ => none)
    | _ => none)
  | _ => none
def ev_inb (i : Int32) (n : Nat) : Bool := !(decide (i < 0) || decide (n ≤ i.toNatClampNeg))
theorem ev_inb_of {i : Int32} {n : Nat} (hi : ev_inb i n = true) : vp_in i n := by
  simp only [ev_inb, Bool.not_eq_true', Bool.or_eq_false_iff, decide_eq_false_iff_not] at hi
  rintro (q | q)
  · exact hi.1 q
  · exact hi.2 q
def ev_s8 (i : Instr) (pc : Nat) (L : List (Option Value)) (st : List Value) (h : ev_H) : Option ev_F := match i with
  | .iaload => (match st with | .int j :: .ref x :: st => (match h[x]? with | some (.inl (0, n, .inl f)) => if ev_inb j n = true then some (pc + 1, L, .int (f j.toNatClampNeg) :: st, h) else none | _ => none) | _ => none)
  | .caload => (match st with | .int j :: .ref x :: st => (match h[x]? with | some (.inl (1, n, .inl f)) => if ev_inb j n = true then some (pc + 1, L, .int (f j.toNatClampNeg) :: st, h) else none | _ => none) | _ => none)
  | .laload => (match st with | .int j :: .ref x :: st => (match h[x]? with | some (.inl (2, n, .inr (.inl f))) => if ev_inb j n = true then some (pc + 1, L, .long (f j.toNatClampNeg) :: st, h) else none | _ => none) | _ => none)
  | .aaload => (match st with | .int j :: .ref x :: st => (match h[x]? with | some (.inl (3, n, .inr (.inr (.inr (.inr f))))) => if ev_inb j n = true then some (pc + 1, L, va_rf (f j.toNatClampNeg) :: st, h) else none | _ => none) | _ => none)
  | .iastore => (match st with | .int v :: .int j :: .ref x :: st => (match h[x]? with | some (.inl (0, n, .inl f)) => if ev_inb j n = true then some (pc + 1, L, st, h.set x (.inl (0, n, .inl (upd f j.toNatClampNeg v)))) else none | _ => none) | _ => none)
  | .castore => (match st with | .int v :: .int j :: .ref x :: st => (match h[x]? with | some (.inl (1, n, .inl f)) => if ev_inb j n = true then some (pc + 1, L, st, h.set x (.inl (1, n, .inl (upd f j.toNatClampNeg (vp_nar .char v))))) else none | _ => none) | _ => none)
  | .lastore => (match st with | .long v :: .int j :: .ref x :: st => (match h[x]? with | some (.inl (2, n, .inr (.inl f))) => if ev_inb j n = true then some (pc + 1, L, st, h.set x (.inl (2, n, .inr (.inl (vp_updL f j.toNatClampNeg v))))) else none | _ => none) | _ => none)
  | .aastore => (match st with | .ref y :: .int j :: .ref x :: st => (match h[x]?, h[y]? with | some (.inl (3, n, .inr (.inr (.inr (.inr f))))), some (.inr (ci, _)) => if ev_inb j n = true ∧ ci = ev_ciL then some (pc + 1, L, st, h.set x (.inl (3, n, .inr (.inr (.inr (.inr (va_up f j.toNatClampNeg (some y)))))))) else none | _, _ => none) | _ => none)
  | .arraylength => (match st with | .ref x :: st => (match h[x]? with | some (.inl (t, z)) => if t < 4 then some (pc + 1, L, .int (Int32.ofNat z.1) :: st, h) else none | _ => none) | _ => none)
  | _ => none
def ev_s9 (cp : ev_P) (i : Instr) (a pc : Nat) (L : List (Option Value)) (st : List Value) (h : ev_H) : Option ev_F := match i with
  | .new _ => (match ev_cl[a]? with | some q => if a < ev_nc ∧ h.length + 1 ≤ cp.1 ∧ ev_cost h + q.2.2 ≤ cp.2 then some (pc + 3, L, .ref h.length :: st, h ++ [.inr (a, ev_dft q)]) else none | none => none)
  | .newarray .int => (match st with | .int n :: st => if ¬ n < 0 ∧ n.toNatClampNeg ≤ 10000 ∧ h.length + 1 ≤ cp.1 ∧ ev_cost h + n.toNatClampNeg ≤ cp.2 then some (pc + 2, L, .ref h.length :: st, h ++ [.inl (0, n.toNatClampNeg, .inl (fun _ => 0))]) else none | _ => none)
  | .newarray .char => (match st with | .int n :: st => if ¬ n < 0 ∧ n.toNatClampNeg ≤ 10000 ∧ h.length + 1 ≤ cp.1 ∧ ev_cost h + n.toNatClampNeg ≤ cp.2 then some (pc + 2, L, .ref h.length :: st, h ++ [.inl (1, n.toNatClampNeg, .inl (fun _ => 0))]) else none | _ => none)
  | .newarray .long => (match st with | .int n :: st => if ¬ n < 0 ∧ n.toNatClampNeg ≤ 10000 ∧ h.length + 1 ≤ cp.1 ∧ ev_cost h + n.toNatClampNeg ≤ cp.2 then some (pc + 2, L, .ref h.length :: st, h ++ [.inl (2, n.toNatClampNeg, .inr (.inl (fun _ => 0)))]) else none | _ => none)
  | .anewarray _ => (match st with | .int n :: st => if ¬ n < 0 ∧ n.toNatClampNeg ≤ 10000 ∧ h.length + 1 ≤ cp.1 ∧ ev_cost h + n.toNatClampNeg ≤ cp.2 then some (pc + 3, L, .ref h.length :: st, h ++ [.inl (3, n.toNatClampNeg, .inr (.inr (.inr (.inr (fun _ => none)))))]) else none | _ => none)
  | _ => none
end EvRun
