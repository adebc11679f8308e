/-! what a method's listing asks, worked out over the numbers of the two objects -/
section EvWp
abbrev ev_Mem : Type := Nat → Nat → Int32
abbrev ev_QT : Type := ev_R → ev_Mem → ev_H → Prop
abbrev ev_SP : Type := List Value → ev_Mem → ev_H → ev_QT → Prop
def ev_hp (m : ev_Mem) (t : ev_H) : ev_H := ev_st m ++ t
def ev_up (m : ev_Mem) (x j : Nat) (v : Int32) : ev_Mem := fun k i => if k = x ∧ i = j then v else m k i
theorem ev_shs_len : ev_shs.length = 307 := by decide +kernel
theorem ev_st_len (m : ev_Mem) : (ev_st m).length = 307 := by simp [ev_st, ev_shs_len]
theorem ev_hp_len (m : ev_Mem) (t : ev_H) : (ev_hp m t).length = 307 + t.length := by simp [ev_hp, ev_st_len]
theorem ev_hp_get (m : ev_Mem) (t : ev_H) {x : Nat} {s : ev_Sh} (hs : ev_shs[x]? = some s) : (ev_hp m t)[x]? = some (ev_cell m x s) := by
  have hlt : x < (ev_st m).length := by rw [ev_st_len, ← ev_shs_len]; exact (List.getElem?_eq_some_iff.mp hs).1
  rw [ev_hp, List.getElem?_append_left hlt, ev_st, List.getElem?_mapIdx, hs]
  rfl
theorem ev_cell_ne (m : ev_Mem) {x k : Nat} (hk : k ≠ x) (j : Nat) (v : Int32) (s : ev_Sh) : ev_cell (ev_up m x j v) k s = ev_cell m k s := by
  have e1 : ∀ i, ev_up m x j v k i = m k i := fun i => if_neg (fun h => hk h.1)
  have e2 : ev_up m x j v k = m k := funext e1
  unfold ev_cell
  split
  · rw [e2]
  · rfl
  · have e3 : (fun (j' : Nat) (r : Option Nat) => ev_fld (ev_up m x j v) k j' r) = fun j' r => ev_fld m k j' r := by
      funext j' r
      unfold ev_fld
      rw [e2]
    rw [e3]
theorem ev_hp_set (m : ev_Mem) (t : ev_H) {x j : Nat} {v : Int32} {s : ev_Sh} (hs : ev_shs[x]? = some s) {y : ev_E} (hy : y = ev_cell (ev_up m x j v) x s) : (ev_hp m t).set x y = ev_hp (ev_up m x j v) t := by
  have hlt : x < (ev_st m).length := by rw [ev_st_len, ← ev_shs_len]; exact (List.getElem?_eq_some_iff.mp hs).1
  unfold ev_hp
  rw [List.set_append_left _ _ hlt]
  refine congrArg (fun z => z ++ t) ?_
  apply List.ext_getElem?
  intro i
  rw [List.getElem?_set]
  by_cases hi : x = i
  · subst hi
    rw [if_pos rfl, if_pos hlt, ev_st, List.getElem?_mapIdx, hs, hy]
    rfl
  · rw [if_neg hi, ev_st, ev_st, List.getElem?_mapIdx, List.getElem?_mapIdx]
    cases ev_shs[i]? with
    | none => rfl
    | some s' => simp only [Option.map_some]; rw [ev_cell_ne m (fun h => hi h.symm)]
theorem ev_up_arr (m : ev_Mem) (x j : Nat) (v : Int32) : upd (m x) j v = ev_up m x j v x := by
  funext i
  simp only [upd, ev_up, true_and]
theorem ev_cost_hp (m : ev_Mem) (t : ev_H) : ev_cost (ev_hp m t) = ev_cost (ev_st ev_M0) + ev_cost t := by
  have key : ∀ (l : List ev_Sh) (m1 m2 : ev_Mem) (f : Nat → Nat), ((l.mapIdx (fun k s => ev_cell m1 (f k) s)).map ev_c1).sum = ((l.mapIdx (fun k s => ev_cell m2 (f k) s)).map ev_c1).sum := by
    intro l
    induction l with
    | nil => intros; rfl
    | cons s l ih =>
      intro m1 m2 f
      simp only [List.mapIdx_cons, List.map_cons, List.sum_cons]
      have h1 := ih m1 m2 (fun k => f (k + 1))
      have h2 : ev_c1 (ev_cell m1 (f 0) s) = ev_c1 (ev_cell m2 (f 0) s) := by
        rcases s with ⟨_, _⟩ | ⟨_, _, _⟩ | ⟨_, _⟩ <;> rfl
      rw [h2]
      exact congrArg _ h1
  unfold ev_hp ev_st ev_cost
  rw [List.map_append, List.sum_append, key ev_shs m ev_M0 (fun k => k)]
def ev_lift (Q : ev_QT) (r : ev_R) (h : ev_H) : Prop := ∃ m t, h = ev_hp m t ∧ Q r m t
def ev_J (w : ev_W) (M : ev_M) (d : Nat × Nat) (Q : ev_QT) (pc : Nat) (L : List (Option Value)) (st : List Value) (m : ev_Mem) (t : ev_H) : Prop := ∀ h0, ev_G w M d h0 (ev_lift Q) pc L st (ev_hp m t)
/-- the methods that are called without an object -/
def ev_sta (k : Nat) : Bool := [0, 1, 2, 53, 61, 67, 89, 90, 106, 112, 140].contains k || Nat.ble 210 k
def ev_shc (x : Nat) : Option Nat := match ev_shs[x]? with
  | some (.inr (.inr (c, _))) => some c
  | _ => none
def ev_rv (k : Nat) (vs : List Value) : Prop := ev_sta k = true ∨ ∃ x us, vs = .ref x :: us ∧ ev_shc x = ev_mcs[k]?
def ev_K (w : ev_W) (k : Nat) : ev_SP := fun vs m t Q => ev_rv k vs ∧ ∃ M, ev_prog[k]? = some M ∧ ev_J w M (ev_nd k) Q 0 (ev_L0 M.2.2.1 vs) [] m t
/-- conditions, of whole numbers -/
def ev_p0 (c : Jvm.ClassFile.Cond) (x : Int32) : Prop := match c with
  | .eq => x.toInt = 0 | .ne => ¬ x.toInt = 0 | .lt => x.toInt < 0 | .ge => 0 ≤ x.toInt | .gt => 0 < x.toInt | .le => x.toInt ≤ 0
def ev_n0 (c : Jvm.ClassFile.Cond) (x : Int32) : Prop := match c with
  | .eq => ¬ x.toInt = 0 | .ne => x.toInt = 0 | .lt => 0 ≤ x.toInt | .ge => x.toInt < 0 | .gt => x.toInt ≤ 0 | .le => 0 < x.toInt
def ev_p2 (c : Jvm.ClassFile.Cond) (x y : Int32) : Prop := match c with
  | .eq => x.toInt = y.toInt | .ne => ¬ x.toInt = y.toInt | .lt => x.toInt < y.toInt | .ge => y.toInt ≤ x.toInt | .gt => y.toInt < x.toInt | .le => x.toInt ≤ y.toInt
def ev_n2 (c : Jvm.ClassFile.Cond) (x y : Int32) : Prop := match c with
  | .eq => ¬ x.toInt = y.toInt | .ne => x.toInt = y.toInt | .lt => y.toInt ≤ x.toInt | .ge => x.toInt < y.toInt | .gt => x.toInt ≤ y.toInt | .le => y.toInt < x.toInt
theorem ev_p2_of {c : Jvm.ClassFile.Cond} {x y : Int32} (h : ev_c2 c x y = true) : ev_p2 c x y := by
  cases c <;> simp only [ev_c2, decide_eq_true_eq] at h <;> simp only [ev_p2]
  · rw [h]
  · exact fun e => h (Int32.toInt_inj.mp e)
  · exact Int32.lt_iff_toInt_lt.mp h
  · exact Int32.le_iff_toInt_le.mp h
  · exact Int32.lt_iff_toInt_lt.mp h
  · exact Int32.le_iff_toInt_le.mp h
theorem ev_n2_of {c : Jvm.ClassFile.Cond} {x y : Int32} (h : ev_c2 c x y = false) : ev_n2 c x y := by
  cases c <;> simp only [ev_c2, decide_eq_false_iff_not, Decidable.not_not, Int32.lt_iff_toInt_lt, Int32.le_iff_toInt_le] at h <;> simp only [ev_n2]
  · exact fun e => h (Int32.toInt_inj.mp e)
  · rw [h]
  all_goals omega
theorem ev_c02 (c : Jvm.ClassFile.Cond) (x : Int32) : ev_c0 c x = ev_c2 c x 0 := by cases c <;> rfl
theorem ev_p0_of {c : Jvm.ClassFile.Cond} {x : Int32} (h : ev_c0 c x = true) : ev_p0 c x := by
  rw [ev_c02] at h
  have h1 := ev_p2_of h
  cases c <;> exact h1
theorem ev_n0_of {c : Jvm.ClassFile.Cond} {x : Int32} (h : ev_c0 c x = false) : ev_n0 c x := by
  rw [ev_c02] at h
  have h1 := ev_n2_of h
  cases c <;> exact h1
def ev_in (i : Int32) (n : Nat) : Prop := 0 ≤ i.toInt ∧ i.toInt < (n : Int)
theorem ev_in_of {i : Int32} {n : Nat} (h : ev_in i n) : ev_inb i n = true := by
  obtain ⟨h1, h2⟩ := h
  have e1 : i.toNatClampNeg = i.toInt.toNat := rfl
  have n1 : ¬ i < 0 := by
    rw [Int32.lt_iff_toInt_lt]
    have e2 : (0 : Int32).toInt = 0 := by decide
    omega
  have n2 : ¬ n ≤ i.toNatClampNeg := by omega
  simp [ev_inb, n1, n2]
abbrev ev_cd : Type := List (Nat × Instr × Nat × Nat)
/-- the listing from a place on -/
def ev_seek (M : ev_M) (pc : Nat) : ev_cd := M.2.2.2.2.2.dropWhile (fun q => !(q.1 == pc))
/-- on with what lies at p: there the listing goes on -/
def ev_nx (w : ev_W) (cut : List Nat) (M : ev_M) (d : Nat × Nat) (Q : ev_QT) (go : ev_cd → List (Option Value) → List Value → ev_Mem → ev_H → Prop) (p : Nat) (tl : ev_cd) (L : List (Option Value)) (st : List Value) (m : ev_Mem) (t : ev_H) : Prop := match tl with
  | [] => False
  | q :: tl' => match Nat.beq q.1 p, cut.contains q.1 with
    | true, true => ev_J w M d Q q.1 L st m t
    | true, false => go (q :: tl') L st m t
    | _, _ => False
def ev_room (a : Nat) (rest : List Value) (d : Nat × Nat) : Bool := match ev_prog[a]? with
  | some M' => decide ((ev_nd a).1 + 1 ≤ d.1) && decide (ev_csum rest + (M'.2.2.1 + 11) + (ev_nd a).2 ≤ d.2)
  | none => false
def ev_rm (w : ev_W) (t : ev_H) : Prop := 307 + t.length + 1 ≤ w.2.2.2.2.2.2.1 ∧ ev_cost (ev_st ev_M0) + ev_cost t + 6 ≤ w.2.2.2.2.2.2.2.1
def ev_jstep (w : ev_W) (sp : Nat → ev_SP) (cut : List Nat) (M : ev_M) (d : Nat × Nat) (Q : ev_QT) (go : ev_cd → List (Option Value) → List Value → ev_Mem → ev_H → Prop) (cd : ev_cd) (L : List (Option Value)) (st : List Value) (m : ev_Mem) (t : ev_H) : Prop := match cd with
  | [] => False
  | (pc, i, a, b) :: tl => match i with
    | .iconst n => ev_nx w cut M d Q go (pc + 1) tl L (.int (Int32.ofInt n) :: st) m t
    | .bipush n => ev_nx w cut M d Q go (pc + 2) tl L (.int (Int8.ofInt n).toInt32 :: st) m t
    | .sipush n => ev_nx w cut M d Q go (pc + 3) tl L (.int (Int16.ofInt n).toInt32 :: st) m t
    | .iload_n k => (match L[(k : Nat)]? with
      | some (some (.int x)) => ev_nx w cut M d Q go (pc + 1) tl L (.int x :: st) m t
      | _ => False)
    | .iload k => (match L[k]? with
      | some (some (.int x)) => ev_nx w cut M d Q go (pc + 2) tl L (.int x :: st) m t
      | _ => False)
    | .aload_n k => (match L[(k : Nat)]? with
      | some (some (.ref x)) => ev_nx w cut M d Q go (pc + 1) tl L (.ref x :: st) m t
      | _ => False)
    | .aload k => (match L[k]? with
      | some (some (.ref x)) => ev_nx w cut M d Q go (pc + 2) tl L (.ref x :: st) m t
      | _ => False)
    | .istore_n k => (match st with
      | .int x :: st => (match Nat.blt (k : Nat) M.2.2.1 with | true => ev_nx w cut M d Q go (pc + 1) tl (L.set (k : Nat) (some (.int x))) st m t | false => False)
      | _ => False)
    | .istore k => (match st with
      | .int x :: st => (match Nat.blt k M.2.2.1 with | true => ev_nx w cut M d Q go (pc + 2) tl (L.set k (some (.int x))) st m t | false => False)
      | _ => False)
    | .astore_n k => (match st with
      | .ref x :: st => (match Nat.blt (k : Nat) M.2.2.1 with | true => ev_nx w cut M d Q go (pc + 1) tl (L.set (k : Nat) (some (.ref x))) st m t | false => False)
      | _ => False)
    | .astore k => (match st with
      | .ref x :: st => (match Nat.blt k M.2.2.1 with | true => ev_nx w cut M d Q go (pc + 2) tl (L.set k (some (.ref x))) st m t | false => False)
      | _ => False)
    | .iinc k n => (match L[k]?, Nat.blt k M.2.2.1 with
      | some (some (.int x)), true => ev_nx w cut M d Q go (pc + 3) tl (L.set k (some (.int (x + Int32.ofInt n)))) st m t
      | _, _ => False)
    | .iadd => (match st with
      | .int y :: .int x :: st => ev_nx w cut M d Q go (pc + 1) tl L (.int (x + y) :: st) m t
      | _ => False)
    | .isub => (match st with
      | .int y :: .int x :: st => ev_nx w cut M d Q go (pc + 1) tl L (.int (x - y) :: st) m t
      | _ => False)
    | .imul => (match st with
      | .int y :: .int x :: st => ev_nx w cut M d Q go (pc + 1) tl L (.int (x * y) :: st) m t
      | _ => False)
    | .iand => (match st with
      | .int y :: .int x :: st => ev_nx w cut M d Q go (pc + 1) tl L (.int (x &&& y) :: st) m t
      | _ => False)
    | .ior => (match st with
      | .int y :: .int x :: st => ev_nx w cut M d Q go (pc + 1) tl L (.int (x ||| y) :: st) m t
      | _ => False)
    | .ishl => (match st with
      | .int y :: .int x :: st => ev_nx w cut M d Q go (pc + 1) tl L (.int (x <<< (y &&& 31)) :: st) m t
      | _ => False)
    | .ishr => (match st with
      | .int y :: .int x :: st => ev_nx w cut M d Q go (pc + 1) tl L (.int (x >>> (y &&& 31)) :: st) m t
      | _ => False)
    | .idiv => (match st with
      | .int y :: .int x :: st => ¬ y = 0 ∧ ev_nx w cut M d Q go (pc + 1) tl L (.int (x / y) :: st) m t
      | _ => False)
    | .irem => (match st with
      | .int y :: .int x :: st => ¬ y = 0 ∧ ev_nx w cut M d Q go (pc + 1) tl L (.int (x - x / y * y) :: st) m t
      | _ => False)
    | .ineg => (match st with
      | .int x :: st => ev_nx w cut M d Q go (pc + 1) tl L (.int (-x) :: st) m t
      | _ => False)
    | .i2c => (match st with
      | .int x :: st => ev_nx w cut M d Q go (pc + 1) tl L (.int (x.toUInt32 % 65536).toInt32 :: st) m t
      | _ => False)
    | .dup => (match st with
      | v :: st => (match Nat.beq v.category 1 with | true => ev_nx w cut M d Q go (pc + 1) tl L (v :: v :: st) m t | false => False)
      | _ => False)
    | .pop => (match st with
      | v :: st => (match Nat.beq v.category 1 with | true => ev_nx w cut M d Q go (pc + 1) tl L st m t | false => False)
      | _ => False)
    | .dup_x1 => (match st with
      | v :: u :: st => (match Nat.beq v.category 1 && Nat.beq u.category 1 with | true => ev_nx w cut M d Q go (pc + 1) tl L (v :: u :: v :: st) m t | false => False)
      | _ => False)
    | .dup2 => (match st with
      | v :: u :: st => (match Nat.beq v.category 1 && Nat.beq u.category 1 with | true => ev_nx w cut M d Q go (pc + 1) tl L (v :: u :: v :: u :: st) m t | false => False)
      | _ => False)
    | .goto off => (match ev_tgt pc off with
      | some p => ev_nx w cut M d Q go p (ev_seek M p) L st m t
      | none => False)
    | .ifCond cd off => (match st with
      | .int x :: st => (match ev_tgt pc off with
        | some p => (ev_p0 cd x → ev_nx w cut M d Q go p (ev_seek M p) L st m t) ∧ (ev_n0 cd x → ev_nx w cut M d Q go (pc + 3) tl L st m t)
        | none => False)
      | _ => False)
    | .if_icmp cd off => (match st with
      | .int y :: .int x :: st => (match ev_tgt pc off with
        | some p => (ev_p2 cd x y → ev_nx w cut M d Q go p (ev_seek M p) L st m t) ∧ (ev_n2 cd x y → ev_nx w cut M d Q go (pc + 3) tl L st m t)
        | none => False)
      | _ => False)
    | .ldc _ => (match Nat.beq b 1 with
      | true => ev_nx w cut M d Q go (pc + 2) tl L (.int (Int32.ofNat a) :: st) m t
      | false => False)
    | .getfield _ => (match st with
      | .ref x :: st => (match ev_shs[x]? with
        | some (.inr (.inr (c, fs))) => (match decide (c = a), fs[b]? with
          | true, some (some y) => ev_nx w cut M d Q go (pc + 3) tl L (.ref y :: st) m t
          | true, some none => ev_nx w cut M d Q go (pc + 3) tl L (.int (m x b) :: st) m t
          | _, _ => False)
        | _ => False)
      | _ => False)
    | .putfield _ => (match st with
      | .int v :: .ref x :: st => (match ev_shs[x]? with
        | some (.inr (.inr (c, fs))) => (match decide (c = a), fs[b]? with
          | true, some none => (match ev_fty ((ev_cl[a]?).getD ("", fun _ => ("", "", "", false), 0)) b with
            | .int => ev_nx w cut M d Q go (pc + 3) tl L st (ev_up m x b v) t
            | .boolean => (v = 0 ∨ v = 1) ∧ ev_nx w cut M d Q go (pc + 3) tl L st (ev_up m x b v) t
            | _ => False)
          | _, _ => False)
        | _ => False)
      | _ => False)
    | .iaload => (match st with
      | .int j :: .ref x :: st => (match ev_shs[x]? with
        | some (.inl (0, l)) => ev_in j l ∧ ev_nx w cut M d Q go (pc + 1) tl L (.int (m x j.toNatClampNeg) :: st) m t
        | _ => False)
      | _ => False)
    | .caload => (match st with
      | .int j :: .ref x :: st => (match ev_shs[x]? with
        | some (.inl (1, l)) => ev_in j l ∧ ev_nx w cut M d Q go (pc + 1) tl L (.int (m x j.toNatClampNeg) :: st) m t
        | _ => False)
      | _ => False)
    | .aaload => (match st with
      | .int j :: .ref x :: st => (match ev_shs[x]? with
        | some (.inr (.inl (l, f, g))) => ev_in j l ∧ ev_nx w cut M d Q go (pc + 1) tl L (.ref (f + g * j.toNatClampNeg) :: st) m t
        | _ => False)
      | _ => False)
    | .iastore => (match st with
      | .int v :: .int j :: .ref x :: st => (match ev_shs[x]? with
        | some (.inl (0, l)) => ev_in j l ∧ ev_nx w cut M d Q go (pc + 1) tl L st (ev_up m x j.toNatClampNeg v) t
        | _ => False)
      | _ => False)
    | .castore => (match st with
      | .int v :: .int j :: .ref x :: st => (match ev_shs[x]? with
        | some (.inl (1, l)) => ev_in j l ∧ ev_nx w cut M d Q go (pc + 1) tl L st (ev_up m x j.toNatClampNeg (vp_nar .char v)) t
        | _ => False)
      | _ => False)
    | .arraylength => (match st with
      | .ref x :: st => (match ev_shs[x]? with
        | some (.inl (ty, l)) => (match decide (ty < 4) with | true => ev_nx w cut M d Q go (pc + 1) tl L (.int (Int32.ofNat l) :: st) m t | false => False)
        | some (.inr (.inl (l, _))) => ev_nx w cut M d Q go (pc + 1) tl L (.int (Int32.ofNat l) :: st) m t
        | _ => False)
      | _ => False)
    | .ireturn => (match st with
      | [.int v] => (match M.2.2.2.1 with
        | some .int => Q (.inl (some (.int v))) m t
        | some ty => narrow ty (.int v) = .int v ∧ Q (.inl (some (.int v))) m t
        | none => False)
      | _ => False)
    | .return_ => (match st with
      | [] => (match M.2.2.2.1 with
        | none => Q (.inl none) m t
        | some _ => False)
      | _ => False)
    | .areturn => (match st with
      | [.ref x] => (match M.2.2.2.1 with
        | some (.object _) => Q (.inl (some (.ref x))) m t
        | some (.array _) => Q (.inl (some (.ref x))) m t
        | _ => False)
      | _ => False)
    | .new _ => (match !(decide (a < ev_nc)) && decide (6 ≤ d.1) && decide (ev_csum st + 82 ≤ d.2) with
      | true => ev_rm w t ∧ Q (.inr (307 + t.length)) m (t ++ [.inr (a, [])])
      | false => False)
    | .invokestatic _ => (match decide (b ≤ st.length) && ev_cats (st.take b) && ev_room a (st.drop b) d, M.2.2.2.2.1 with
      | true, [] => sp a (st.take b).reverse m t (fun r m' t' => match r with
        | .inl v => ev_nx w cut M d Q go (pc + 3) tl L (v.toList ++ st.drop b) m' t'
        | .inr k => Q (.inr k) m' t')
      | _, _ => False)
    | .invokevirtual _ => (match st.drop b, M.2.2.2.2.1 with
      | .ref x :: rest, [] => (match decide (b ≤ st.length) && ev_cats (st.take b) && ev_room a rest d && !(ev_sta a) with
        | true => sp a (.ref x :: (st.take b).reverse) m t (fun r m' t' => match r with
          | .inl v => ev_nx w cut M d Q go (pc + 3) tl L (v.toList ++ rest) m' t'
          | .inr k => Q (.inr k) m' t')
        | false => False)
      | _, _ => False)
    | _ => False
def ev_jw (w : ev_W) (sp : Nat → ev_SP) (cut : List Nat) (M : ev_M) (d : Nat × Nat) (Q : ev_QT) : Nat → ev_cd → List (Option Value) → List Value → ev_Mem → ev_H → Prop
  | 0 => fun cd L st m t => match cd with
    | [] => False
    | q :: _ => ev_J w M d Q q.1 L st m t
  | n + 1 => ev_jstep w sp cut M d Q (ev_jw w sp cut M d Q n)
def ev_jv (w : ev_W) (sp : Nat → ev_SP) (cut : List Nat) (M : ev_M) (d : Nat × Nat) (Q : ev_QT) (n pc : Nat) (L : List (Option Value)) (st : List Value) (m : ev_Mem) (t : ev_H) : Prop := ev_jw w sp cut M d Q n (ev_seek M pc) L st m t
end EvWp
