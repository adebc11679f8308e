/-! the bench, in plain words: its state, and what each call does -/
section AbState
abbrev ab_Z : Type := ab_Ls × List (ab_Ls × ab_Ls) × (Nat → List ab_Ls) × List (Nat × Nat) × ab_T × ab_Ls × List (Option ab_Ls) × List Nat × List (Nat × Nat × Nat) × (Nat → Option Nat)
abbrev zD (z : ab_Z) : ab_Ls := z.1
abbrev zR (z : ab_Z) : List (ab_Ls × ab_Ls) := z.2.1
abbrev zW (z : ab_Z) : Nat → List ab_Ls := z.2.2.1
abbrev zP (z : ab_Z) : List (Nat × Nat) := z.2.2.2.1
abbrev zT (z : ab_Z) : ab_T := z.2.2.2.2.1
abbrev zO (z : ab_Z) : ab_Ls := z.2.2.2.2.2.1
abbrev zB (z : ab_Z) : List (Option ab_Ls) := z.2.2.2.2.2.2.1
abbrev zF (z : ab_Z) : List Nat := z.2.2.2.2.2.2.2.1
abbrev zK (z : ab_Z) : List (Nat × Nat × Nat) := z.2.2.2.2.2.2.2.2.1
abbrev zA (z : ab_Z) : Nat → Option Nat := z.2.2.2.2.2.2.2.2.2
/-- forms, marks, equality, distance -/
abbrev zf (z : ab_Z) : Nat → Option ab_Ls := ab_fo (zR z) (zW z)
abbrev zt (z : ab_Z) : Nat → Bool := ab_there (zW z)
def ab_mk1 (th : Nat → Bool) (fo : Nat → Option ab_Ls) (x : Nat) : Option Nat := (List.range 40).find? (fun y => th y && decide (fo y = fo x))
def ab_mke (th : Nat → Bool) (mk : Nat → Option Nat) (q : Nat × Nat) : Nat → Option Nat := fun x => if th x = true ∧ mk x = mk q.1 then mk q.2 else mk x
def ab_mkp (th : Nat → Bool) (fo : Nat → Option ab_Ls) (ps : List (Nat × Nat)) : Nat → Option Nat := ps.foldl (ab_mke th) (ab_mk1 th fo)
abbrev zm (z : ab_Z) : Nat → Option Nat := ab_mkp (zt z) (zf z) (zP z)
def zq (z : ab_Z) (x y : Nat) : Bool := decide (zm z x = zm z y)
def zd (z : ab_Z) (x y : Nat) : Nat := if zq z x y = true then 0 else ab_apart (zf z x) (zf z y)
/-- a witness, a word, a place: asked for by any number -/
def ab_wi (x : Int32) : Option Nat := if 0 ≤ x.toInt ∧ x.toInt < 4 then some x.toInt.toNat else none
def ab_wd (z : ab_Z) (x i : Int32) : Option Nat := match ab_wi x with
  | none => none
  | some v => if 0 ≤ i.toInt ∧ i.toInt < ((zW z v).length : Int) then some (10 * v + i.toInt.toNat) else none
def ab_pi (z : ab_Z) (x : Int32) : Option Nat := if 0 ≤ x.toInt ∧ x.toInt < ((zT z).1 : Int) then some x.toInt.toNat else none
def zj (z : ab_Z) (v : Nat) : Bool := ab_isJ (zT z).2.2.2.1 (Int32.ofNat v)
/-- what a call gives: which throw (0: none), the answer, the state -/
abbrev ab_Y : Type := Nat × Int32 × ab_Z
def ab_type (z : ab_Z) (c : Int32) : ab_Y := if c.toInt < 97 ∨ 122 < c.toInt then (1, 0, z) else if 8 ≤ (zD z).length then (2, 0, z) else (0, Int32.ofNat ((zD z).length + 1), (zD z ++ [c], z.2))
def ab_cut (z : ab_Z) (n : Int32) : ab_Y := if n.toInt < 0 ∨ ((zD z).length : Int) < n.toInt then (1, 0, z) else (0, 0, ((zD z).take n.toInt.toNat, z.2))
def ab_word (z : ab_Z) (x : Int32) : ab_Y := match ab_wi x with
  | none => (1, 0, z)
  | some v => if zj z v = true then (2, 0, z) else if 6 < (zD z).length then (3, 0, z) else if 10 ≤ (zW z v).length then (4, 0, z) else (0, Int32.ofNat ((zW z v).length + 1), ([], zR z, ab_put (zW z) v (zD z), z.2.2.2))
def ab_rule (z : ab_Z) (n : Int32) : ab_Y := if n.toInt < 1 ∨ 3 < n.toInt ∨ ((zD z).length : Int) < n.toInt ∨ n.toInt + 2 < ((zD z).length : Int) then (1, 0, z) else if 8 ≤ (zR z).length then (2, 0, z) else (0, Int32.ofNat ((zR z).length + 1), ([], zR z ++ [((zD z).take n.toInt.toNat, (zD z).drop n.toInt.toNat)], z.2.2))
def ab_equate (z : ab_Z) (x i y j : Int32) : ab_Y := match ab_wd z x i, ab_wd z y j with
  | some a, some b => if zf z a = none ∨ zf z b = none then (2, 0, z) else if 6 ≤ (zP z).length then (3, 0, z) else (0, Int32.ofNat ((zP z).length + 1), (zD z, zR z, zW z, zP z ++ [(a, b)], z.2.2.2.2))
  | _, _ => (1, 0, z)
def ab_fl (f : Option ab_Ls) : Int32 := match f with
  | none => -1
  | some l => Int32.ofNat l.length
def ab_fform (z : ab_Z) (x i : Int32) : ab_Y := match ab_wd z x i with
  | none => (1, 0, z)
  | some a => (0, ab_fl (zf z a), z)
def ab_dist (z : ab_Z) (x i y j : Int32) : ab_Y := match ab_wd z x i, ab_wd z y j with
  | some a, some b => (0, Int32.ofNat (zd z a b), z)
  | _, _ => (1, 0, z)
def ab_nt (T : ab_T) : ab_T := (T.1, fun p v => if p < T.1 ∧ v < 4 then T.2.1 p v else none, fun p => if p < T.1 then T.2.2.1 p else none, T.2.2.2.1, T.2.2.2.2)
def zg (z : ab_Z) (v : Nat) : Nat → Nat → Nat := ab_gm (zT z) (zd z) v (zT z).1 (zW z v).length
def zp (z : ab_Z) (v : Nat) : List Nat := ab_path (zg z v) (zT z).1 (zW z v).length
def ab_setT (z : ab_Z) (T : ab_T) : ab_Z := (zD z, zR z, zW z, zP z, T, z.2.2.2.2.2)
def ab_join (z : ab_Z) (x : Int32) : ab_Y := match ab_wi x with
  | none => (1, 0, z)
  | some v => if zj z v = true ∨ (zW z v).length = 0 then (2, 0, z) else if 24 < (zp z v).length then (3, 0, z) else (0, Int32.ofNat (ab_C (zg z v) (zT z).1 (zW z v).length), ab_setT z (ab_nt (ab_jt (zT z) v (zp z v))))
def ab_rt (T : ab_T) (v : Nat) : ab_T := ((ab_sel T v T.1).length, fun q u => ab_cfx T v ((ab_sel T v T.1).getD q 0) u, fun q => ab_chx T v ((ab_sel T v T.1).getD q 0), T.2.2.2.1.dropLast, if T.2.2.2.2 = some v then none else T.2.2.2.2)
def ab_retract (z : ab_Z) : ab_Y := match (zT z).2.2.2.1.getLast? with
  | none => (1, 0, z)
  | some v => (0, Int32.ofNat v, ab_setT z (ab_nt (ab_rt (zT z) v)))
def ab_places (z : ab_Z) : ab_Y := (0, Int32.ofNat (zT z).1, z)
def ab_at (z : ab_Z) (p x : Int32) : ab_Y := match ab_pi z p, ab_wi x with
  | some p, some v => (0, ab_oi ((zT z).2.1 p v), z)
  | _, _ => (1, 0, z)
def ab_beside (z : ab_Z) (x i y : Int32) : ab_Y := match ab_wd z x i, ab_wi y with
  | some a, some v => (0, ab_oi (ab_nb (zT z) (a / 10) (a % 10) v), z)
  | _, _ => (1, 0, z)
def ab_reb (T : ab_T) (b : Option Nat) : ab_T := (T.1, T.2.1, fun _ => none, T.2.2.2.1, b)
def ab_base (z : ab_Z) (x : Int32) : ab_Y := if x.toInt = -1 then (0, 0, ab_setT z (ab_reb (zT z) none)) else match ab_wi x with
  | none => (1, 0, z)
  | some v => if zj z v = true then (0, 0, ab_setT z (ab_reb (zT z) (some v))) else (2, 0, z)
def ab_cho (T : ab_T) (p : Nat) (c : Option Nat) : ab_T := (T.1, T.2.1, fun q => if q = p then c else T.2.2.1 q, T.2.2.2.1, T.2.2.2.2)
def ab_choose (z : ab_Z) (p x : Int32) : ab_Y := match ab_pi z p with
  | none => (1, 0, z)
  | some p => if x.toInt = -1 then (0, 0, ab_setT z (ab_cho (zT z) p none)) else match ab_wi x with
    | none => (1, 0, z)
    | some v => if zj z v = true then (0, 0, ab_setT z (ab_cho (zT z) p (some v))) else (2, 0, z)
def ab_setO (z : ab_Z) (o : ab_Ls) : ab_Z := (zD z, zR z, zW z, zP z, zT z, o, z.2.2.2.2.2.2)
def ab_app (z : ab_Z) (neg : Bool) : ab_Y := (0, Int32.ofNat (ab_wr (zT z) (zf z) neg (zT z).1).length, ab_setO z (ab_wr (zT z) (zf z) neg (zT z).1))
def ab_outc (z : ab_Z) (k : Int32) : ab_Y := if 0 ≤ k.toInt ∧ k.toInt < ((zO z).length : Int) then (0, (zO z).getD k.toInt.toNat 0, z) else (1, 0, z)
def ab_amend (z : ab_Z) (k c : Int32) : ab_Y := if 0 ≤ k.toInt ∧ k.toInt < ((zO z).length : Int) then (0, 0, ab_setO z ((zO z).set k.toInt.toNat c)) else (1, 0, z)
def ab_rebuild (z : ab_Z) (x : Int32) : ab_Y := match ab_wi x with
  | none => (1, 0, z)
  | some v => if zj z v = true then (match ab_es (zO z) (zT z) (zf z) v 25 0 0 (fun _ => none) with
    | .inl e => (0, Int32.ofInt (-100 - (e : Int)), z)
    | .inr R => (0, Int32.ofNat (ab_bl (zO z) (zT z) (zf z) R (zT z).1).length, (zD z, zR z, zW z, zP z, zT z, zO z, ab_bl (zO z) (zT z) (zf z) R (zT z).1, z.2.2.2.2.2.2.2))) else (2, 0, z)
def ab_built (z : ab_Z) (i k : Int32) : ab_Y := (0, ab_blt (zB z) i k, z)
def ab_dfo (z : ab_Z) : Option ab_Ls := if zD z = [] then none else some (ab_form (zR z) (zD z))
def ab_fds (z : ab_Z) : List Nat := match (List.range 40).find? (fun x => zt z x && decide (zf z x = ab_dfo z)) with
  | none => []
  | some y => ((List.range 40).filter (fun x => zt z x && zq z x y)).map (fun x => 100 * (x / 10) + x % 10)
def ab_concord (z : ab_Z) : ab_Y := (0, Int32.ofNat (ab_fds z).length, (zD z, zR z, zW z, zP z, zT z, zO z, zB z, ab_fds z, z.2.2.2.2.2.2.2.2))
def ab_found (z : ab_Z) (i : Int32) : ab_Y := if 0 ≤ i.toInt ∧ i.toInt < ((zF z).length : Int) then (0, Int32.ofNat ((zF z).getD i.toInt.toNat 0), z) else (1, 0, z)
def zb (z : ab_Z) (u v : Nat) : List (Nat × Nat × Nat) := ab_bks (fun i j => ab_mv (zT z) (zt z) (zf z) (zq z) (10 * u + i) (10 * v + j)) (zW z v).length (zW z u).length
def ab_blocks (z : ab_Z) (x y : Int32) : ab_Y := match ab_wi x, ab_wi y with
  | some u, some v => if u = v then (2, 0, z) else if zj z u = true ∧ zj z v = true then (0, Int32.ofNat (zb z u v).length, (zD z, zR z, zW z, zP z, zT z, zO z, zB z, zF z, zb z u v, zA z)) else (3, 0, z)
  | _, _ => (1, 0, z)
def ab_bf (q : Nat × Nat × Nat) (c : Nat) : Nat := if c = 0 then q.1 else if c = 1 then q.2.1 else q.2.2
def ab_block (z : ab_Z) (k c : Int32) : ab_Y := if (0 ≤ k.toInt ∧ k.toInt < ((zK z).length : Int)) ∧ 0 ≤ c.toInt ∧ c.toInt < 3 then (0, Int32.ofNat (ab_bf ((zK z).getD k.toInt.toNat (0, 0, 0)) c.toInt.toNat), z) else (1, 0, z)
def ab_setA (z : ab_Z) (u : Nat) (v : Option Nat) : ab_Z := (zD z, zR z, zW z, zP z, zT z, zO z, zB z, zF z, zK z, fun a => if a = u then v else zA z a)
def ab_parent (z : ab_Z) (x y : Int32) : ab_Y := match ab_wi x with
  | none => (1, 0, z)
  | some u => if y.toInt = -1 then (0, 0, ab_setA z u none) else match ab_wi y with
    | none => (1, 0, z)
    | some v => if ab_ab (zA z) 4 (some v) u = true then (2, 0, z) else (0, 0, ab_setA z u (some v))
def zr (z : ab_Z) (p : Nat) : Nat → Option Nat := ab_tr (ab_free (zT z) (zf z) p) (fun a b => ab_eqo (zq z) (ab_nat (zT z) p a) (ab_nat (zT z) p b)) 4
def zc (z : ab_Z) : Nat → Nat
  | 0 => 0
  | p + 1 => zc z p + ab_lc (zA z) (zr z p)
def ab_changes (z : ab_Z) (x : Int32) : ab_Y := if x.toInt = -1 then (0, Int32.ofNat (zc z (zT z).1), z) else match ab_pi z x with
  | none => (1, 0, z)
  | some p => (0, Int32.ofNat (ab_lc (zA z) (zr z p)), z)
/-- the line of parents ends -/
def ab_end (pa : Nat → Option Nat) : Nat → Option Nat → Bool
  | _, none => true
  | 0, some _ => false
  | n + 1, some u => ab_end pa n (pa u)
def ab_acy (pa : Nat → Option Nat) : Prop := ∀ v, v < 4 → ab_end pa 4 (some v) = true
/-- the state, as it may be -/
def ab_Tin (W : Nat → List ab_Ls) (T : ab_T) : Prop := (∀ p v i, T.2.1 p v = some i → i < (W v).length) ∧ T.2.2.2.1.Nodup ∧ (∀ p v, v < 4 → ¬ v ∈ T.2.2.2.1 → T.2.1 p v = none) ∧ (∀ v, v ∈ T.2.2.2.1 → ∀ i, i < (W v).length → ∃ p, p < T.1 ∧ T.2.1 p v = some i) ∧ (∀ p q v i, p < T.1 → q < T.1 → T.2.1 p v = some i → T.2.1 q v = some i → p = q) ∧ (∀ p, p < T.1 → ∃ v i, v < 4 ∧ T.2.1 p v = some i)
def ab_ok (z : ab_Z) : Prop := ((zD z).length ≤ 8 ∧ ab_az (zD z)) ∧ ((zR z).length ≤ 8 ∧ ab_Rok (zR z)) ∧ ab_Wok (zW z) ∧ ((zP z).length ≤ 6 ∧ ∀ q ∈ zP z, (q.1 < 40 ∧ zt z q.1 = true) ∧ (q.2 < 40 ∧ zt z q.2 = true)) ∧ (ab_Tok (zT z) ∧ ab_Tin (zW z) (zT z)) ∧ ab_Ook (zO z) ∧ ab_Bok (zB z) ∧ (zF z).length ≤ 40 ∧ (zK z).length ≤ 50 ∧ (ab_PAok (zA z) ∧ ab_acy (zA z))
/-- the class's numbers -/
def ab_RepC (m : ev_Mem) (z : ab_Z) : Prop := ab_L m 1 (zD z) ∧ (ab_RC m (zR z) ∧ ab_R0 m (zR z).length) ∧ ab_WS m (zW z) ∧ ab_FO m (zf z) ∧ ((∀ x, x < 40 → zt z x = true → m 204 x = ab_oi (ab_mk1 (zt z) (zf z) x)) ∧ (∀ x, x < 40 → zt z x = true → m 205 x = ab_oi (zm z x))) ∧ ab_PC m (zP z) ∧ ab_TC m (zT z) ∧ ab_O m (zO z) ∧ ab_B m (zB z) ∧ (m 0 9 = Int32.ofNat (zF z).length ∧ ∀ k, k < (zF z).length → m 270 k = Int32.ofNat ((zF z).getD k 0)) ∧ ab_K m (zK z) ∧ ab_FA m (zA z)
/-- how a call of the class ends -/
def ab_PQ (m : ev_Mem) (t : ev_H) (ex : List Nat) (b : Bool) (r : ab_Y) (Q : ev_QT) : Prop := ∀ m', ab_RepC m' r.2.2 → (∀ c i, 277 ≤ c → m' c i = m c i) → (r.1 = 0 → Q (.inl (if b = true then some (.int r.2.1) else none)) m' t) ∧ (¬ r.1 = 0 → Q (.inr (307 + t.length)) m' (t ++ [.inr (ex.getD (r.1 - 1) 0, [])]))
theorem ab_wi_some {x : Int32} {v : Nat} (h : ab_wi x = some v) : v < 4 ∧ x = Int32.ofNat v := by
  unfold ab_wi at h
  split at h
  · rename_i q
    cases h
    exact ⟨by omega, (ev_ofNat_toNat q.1).symm⟩
  · cases h
theorem ab_wi_of {v : Nat} (h : v < 4) : ab_wi (Int32.ofNat v) = some v := by
  have e := ev_ofNat_i (n := v) (by omega)
  unfold ab_wi
  rw [if_pos (by omega), e]
  rfl
end AbState
