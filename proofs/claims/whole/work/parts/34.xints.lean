/-! whole numbers of 32 bits -/
section EvInts
theorem ev_lo (x : Int32) : -2147483648 ≤ x.toInt := Int32.le_toInt x
theorem ev_hi (x : Int32) : x.toInt < 2147483648 := Int32.toInt_lt x
theorem ev_bm {a : Int} (h1 : -2147483648 ≤ a) (h2 : a < 2147483648) : a.bmod 4294967296 = a := by
  rw [Int.bmod_def]
  split <;> omega
theorem ev_add_i {x y : Int32} (h1 : -2147483648 ≤ x.toInt + y.toInt) (h2 : x.toInt + y.toInt < 2147483648) : (x + y).toInt = x.toInt + y.toInt := by
  rw [Int32.toInt_add]; exact ev_bm h1 h2
theorem ev_sub_i {x y : Int32} (h1 : -2147483648 ≤ x.toInt - y.toInt) (h2 : x.toInt - y.toInt < 2147483648) : (x - y).toInt = x.toInt - y.toInt := by
  rw [Int32.toInt_sub]; exact ev_bm h1 h2
theorem ev_mul_i {x y : Int32} (h1 : -2147483648 ≤ x.toInt * y.toInt) (h2 : x.toInt * y.toInt < 2147483648) : (x * y).toInt = x.toInt * y.toInt := by
  rw [Int32.toInt_mul]; exact ev_bm h1 h2
theorem ev_ofNat_i {n : Nat} (h : n < 2147483648) : (Int32.ofNat n).toInt = (n : Int) := by
  rw [Int32.toInt_ofNat']; exact ev_bm (by omega) (by omega)
theorem ev_ofInt_i {a : Int} (h1 : -2147483648 ≤ a) (h2 : a < 2147483648) : (Int32.ofInt a).toInt = a := by
  rw [Int32.toInt_ofInt]; exact ev_bm h1 h2
theorem ev_eq_of {x y : Int32} (h : x.toInt = y.toInt) : x = y := Int32.toInt_inj.mp h
theorem ev_nat (x : Int32) : x.toNatClampNeg = x.toInt.toNat := rfl
theorem ev_div_i {x y : Int32} (hx : 0 ≤ x.toInt) (hy : 0 < y.toInt) : (x / y).toInt = x.toInt / y.toInt := by
  have h1 := ev_hi x
  rw [Int32.toInt_div, Int.tdiv_eq_ediv_of_nonneg hx]
  have h2 : 0 ≤ x.toInt / y.toInt := Int.ediv_nonneg hx (Int.le_of_lt hy)
  have h3 : x.toInt / y.toInt ≤ x.toInt := Int.ediv_le_self _ hx
  exact ev_bm (by omega) (by omega)
theorem ev_rem_i {x y : Int32} (hx : 0 ≤ x.toInt) (hy : 0 < y.toInt) : (x - x / y * y).toInt = x.toInt % y.toInt := by
  have h1 := ev_hi x
  have h2 := ev_div_i hx hy
  have h3 : 0 ≤ x.toInt / y.toInt := Int.ediv_nonneg hx (Int.le_of_lt hy)
  have h4 : x.toInt / y.toInt * y.toInt ≤ x.toInt := Int.ediv_mul_le _ (by omega)
  have h5 : 0 ≤ x.toInt / y.toInt * y.toInt := Int.mul_nonneg h3 (Int.le_of_lt hy)
  have h6 : (x / y * y).toInt = x.toInt / y.toInt * y.toInt := by
    rw [← h2] at h4 h5
    rw [ev_mul_i (by omega) (by omega), h2]
  rw [ev_sub_i (by rw [h6]; omega) (by rw [h6]; omega), h6, Int.emod_def, Int.mul_comm]
theorem ev_succ {k : Nat} (h : k < 2147483647) : Int32.ofNat k + 1 = Int32.ofNat (k + 1) := by
  apply ev_eq_of
  have e1 : (1 : Int32).toInt = 1 := by decide
  have e2 := ev_ofNat_i (n := k) (by omega)
  rw [ev_add_i (by omega) (by omega), e2, e1, ev_ofNat_i (by omega)]
  omega
theorem ev_ofNat_toNat {x : Int32} (h : 0 ≤ x.toInt) : Int32.ofNat x.toInt.toNat = x := by
  have h1 := ev_hi x
  apply ev_eq_of
  rw [ev_ofNat_i (by omega)]
  omega
theorem ev_ne10 : ¬ (1 : Int32).toInt = 0 := by decide
theorem ev_eq00 : (0 : Int32).toInt = 0 := by decide
theorem ev_up_same (m : ev_Mem) (x j : Nat) (v : Int32) : ev_up m x j v x j = v := if_pos ⟨rfl, rfl⟩
theorem ev_up_cell (m : ev_Mem) {x k : Nat} (hk : k ≠ x) (j : Nat) (v : Int32) (i : Nat) : ev_up m x j v k i = m k i := if_neg (fun h => hk h.1)
theorem ev_up_idx (m : ev_Mem) (x : Nat) {j i : Nat} (hi : i ≠ j) (v : Int32) (k : Nat) : ev_up m x j v k i = m k i := if_neg (fun h => hi h.2)
end EvInts
