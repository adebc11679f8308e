/-! changes along a family: the least, found in two ways -/
section AbLeast
def ab_t4 (a b c d : Option Nat) : Nat → Option Nat
  | 0 => a
  | 1 => b
  | 2 => c
  | 3 => d
  | _ => none
def ab_acb (pa : Nat → Option Nat) : Bool := ab_end pa 4 (some 0) && ab_end pa 4 (some 1) && ab_end pa 4 (some 2) && ab_end pa 4 (some 3)
def ab_cn1 (rd : Nat → Option Nat) (v : Nat) : Bool := match rd v with
  | none => true
  | some u => Nat.ble u v && (match rd u with | none => false | some x => Nat.beq x u)
def ab_rp (rd : Nat → Option Nat) : Nat → List Nat
  | 0 => []
  | k + 1 => match rd k with
    | none => ab_rp rd k
    | some u => if Nat.beq u k = true then ab_rp rd k ++ [k] else ab_rp rd k
def ab_okd (rd : Nat → Option Nat) (rp : List Nat) (v d : Nat) : Bool := Nat.blt d rp.length && (match rd v with
  | none => true
  | some u => Nat.beq u (rp.getD d 9))
def ab_ch1 (x : Option Nat) (dv : Nat) (f : Nat → Nat) : Nat := match x with
  | none => 0
  | some u => if Nat.beq dv (f u) = true then 0 else 1
def ab_f4 (a b c d : Nat) : Nat → Nat
  | 0 => a
  | 1 => b
  | 2 => c
  | _ => d
def ab_ct (pa : Nat → Option Nat) (a b c d : Nat) : Nat := ab_ch1 (pa 0) a (ab_f4 a b c d) + ab_ch1 (pa 1) b (ab_f4 a b c d) + ab_ch1 (pa 2) c (ab_f4 a b c d) + ab_ch1 (pa 3) d (ab_f4 a b c d)
def ab_mno (f : Nat → Nat) (ok : Nat → Bool) : Nat → Nat
  | 0 => 1000
  | k + 1 => if ok k = true then (if Nat.ble (f k) (ab_mno f ok k) = true then f k else ab_mno f ok k) else ab_mno f ok k
def ab_bst (pa rd : Nat → Option Nat) (rp : List Nat) : Nat := ab_mno (fun a => ab_mno (fun b => ab_mno (fun c => ab_mno (fun d => ab_ct pa a b c d) (ab_okd rd rp 3) 4) (ab_okd rd rp 2) 4) (ab_okd rd rp 1) 4) (ab_okd rd rp 0) 4
def ab_chk1 (pa rd : Nat → Option Nat) : Bool := match ab_rp rd 4 with
  | [] => Nat.beq (ab_lc pa rd) 0
  | x :: l => Nat.beq (ab_lc pa rd) (ab_bst pa rd (x :: l))
def ab_o5 : List (Option Nat) := [none, some 0, some 1, some 2, some 3]
def ab_chk (a : Option Nat) : Bool := ab_o5.all fun b => ab_o5.all fun c => ab_o5.all fun d => !(ab_acb (ab_t4 a b c d)) || ([none, some 0].all fun e => [none, some 0, some 1].all fun f => [none, some 0, some 1, some 2].all fun g => ab_o5.all fun h => !(ab_cn1 (ab_t4 e f g h) 1 && ab_cn1 (ab_t4 e f g h) 2 && ab_cn1 (ab_t4 e f g h) 3) || ab_chk1 (ab_t4 a b c d) (ab_t4 e f g h))
theorem ab_chkn : ab_chk none = true := by decide +kernel
theorem ab_chk0 : ab_chk (some 0) = true := by decide +kernel
theorem ab_chk1' : ab_chk (some 1) = true := by decide +kernel
theorem ab_chk2 : ab_chk (some 2) = true := by decide +kernel
theorem ab_chk3 : ab_chk (some 3) = true := by decide +kernel
end AbLeast
