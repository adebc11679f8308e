/-! the law's loop -/
section EvLawLoop
variable {w : ev_W} {m : ev_Mem} {z : ab_Z}
theorem ev_and31 (x : Int32) : ∃ v, v < 32 ∧ x &&& (Int8.ofInt 31).toInt32 = Int32.ofNat v := by
  have e1 : (Int8.ofInt 31).toInt32 = UInt32.toInt32 31 := by decide
  have e2 : x = x.toUInt32.toInt32 := rfl
  have e : ∀ u : UInt32, u.toInt32 = Int32.ofNat u.toNat := by
    intro u
    have h : UInt32.ofNat u.toNat = u := UInt32.ofNat_toNat
    exact (congrArg UInt32.toInt32 h).symm.trans rfl
  refine ⟨(x.toUInt32 &&& 31).toNat, ?_, ?_⟩
  · rw [UInt32.toNat_and]
    have h31 : (31 : UInt32).toNat = 31 := by decide
    rw [h31]
    exact Nat.lt_of_le_of_lt Nat.and_le_right (by decide)
  · rw [e1]
    exact e (x.toUInt32 &&& 31)
def ev_offs : Array Int := #[113, 171, 207, 263, 319, 411, 479, 571, 627, 671, 684, 752, 832, 868, 916, 957, 1013, 1063, 1119, 1156, 1169, 1225, 1293, 1361, 1409]
def ev_tg (v : Nat) : Nat := (([152, 210, 246, 302, 358, 450, 518, 610, 666, 710, 723, 791, 871, 907, 955, 996, 1052, 1102, 1158, 1195, 1208, 1264, 1332, 1400, 1448] : List Nat)[v]?).getD 1504
theorem ev_tg_in : ∀ v, v < 25 → ev_offs[v]? = some ((ev_tg v : Int) - 39) := by decide +kernel
theorem ev_tg_out : ∀ v, v < 32 → ¬ v < 25 → ev_tg v = 1504 := by decide +kernel
theorem ev_ins39 : ev_ins ev_mlaw 39 = some (.tableswitch 1465 0 24 ev_offs, 113, 0) := rfl
theorem ev_tsw {Q : ev_QT} {L : List (Option Value)} {t : ev_H} {v : Nat} (hv : v < 32) (k : ev_J w ev_mlaw (12, 434) Q (ev_tg v) L [] m t) : ev_J w ev_mlaw (12, 434) Q 39 L [.int (Int32.ofNat v)] m t := by
  intro h0
  have e : (Int32.ofNat v).toInt = (v : Int) := ev_ofNat_i (by omega)
  by_cases h : v < 25
  · refine ev_tableIn (off := (ev_tg v : Int) - 39) ev_klawd ev_ins39 (by omega) (by omega) ?_ (by omega) (k h0)
    have e2 : ((Int32.ofNat v).toInt - 0).toNat = v := by omega
    rw [e2]
    exact ev_tg_in v h
  · refine ev_tableOut ev_klawd ev_ins39 (Or.inr (by omega)) ?_ (k h0)
    rw [ev_tg_out v hv h]
    rfl
def ev_QL : ev_QT := fun r _ _ => r = .inl (some (.int 1))
theorem ev_cost0 : ev_cost (ev_st ev_M0) ≤ 1000000 := by decide +kernel
theorem ev_cost_lc (f : Nat → Int64) (ths : ev_H) : ev_cost (ev_lc f :: ths) = 1 + ev_cost ths := by
  simp only [ev_cost, List.map_cons, List.sum_cons]
  rfl
set_option maxRecDepth 20000 in
theorem ev_fin1504 {i : Nat} {o5 o6 : Option Value} {t : ev_H} {Q : ev_QT} (A : ev_all w) (hi : i < 10000) (k : ev_J w ev_mlaw (12, 434) Q 23 (ev_LL (i + 5) o5 o6) [] m t) : ev_J w ev_mlaw (12, 434) Q 1504 (ev_LL i o5 o6) [] m t := by
  refine ev_gL A [23] 10 ?_
  show ev_J w ev_mlaw (12, 434) Q 23 [some (.retAddr 0), ev_vr 0, ev_vr 277, ev_vr 307, ev_vi (Int32.ofNat i + Int32.ofNat 5), o5, o6] [] m t
  rw [ev_addN (by omega)]
  exact k
set_option maxRecDepth 20000 in
theorem ev_head {i : Nat} {o5 o6 : Option Value} {t : ev_H} (A : ev_all w) (hi : i < 10000) (hn : ev_n w ≤ 2560) (k : i + 5 ≤ ev_n w → ∀ v, v < 32 → ev_J w ev_mlaw (12, 434) ev_QL (ev_tg v) (ev_LL i o5 o6) [] m t) : ev_J w ev_mlaw (12, 434) ev_QL 23 (ev_LL i o5 o6) [] m t := by
  refine ev_gL A [39] 100 ?_
  refine And.intro (fun _ => ⟨rfl, rfl⟩) (fun h => ?_)
  have h2 : (Int32.ofNat i).toInt ≤ (Int32.ofNat (ev_n w) - Int32.ofNat 5).toInt := h
  have e1 : (Int32.ofNat i).toInt = (i : Int) := ev_ofNat_i (by omega)
  have e2 : (Int32.ofNat (ev_n w)).toInt = (ev_n w : Int) := ev_ofNat_i (by omega)
  have e3 : (Int32.ofNat 5).toInt = 5 := by decide
  have e4 : (Int32.ofNat (ev_n w) - Int32.ofNat 5).toInt = (ev_n w : Int) - 5 := by
    rw [ev_sub_i (by omega) (by omega), e2, e3]
  have h3 : i + 5 ≤ ev_n w := by omega
  refine And.intro (show ev_in (Int32.ofNat i) (ev_n w) from ev_oin (n := ev_n w) (by omega) (by omega)) ?_
  show ev_J w ev_mlaw (12, 434) ev_QL 39 (ev_LL i o5 o6) [.int (ev_s w (Int32.ofNat i) &&& (Int8.ofInt 31).toInt32)] m t
  obtain ⟨v, hv, e⟩ := ev_and31 (ev_s w (Int32.ofNat i))
  rw [e]
  exact ev_tsw hv (k h3 v hv)
theorem ev_law_loop (A : ev_all w) (N : ∀ x ∈ ev_nots, x.before w.2.2.1 w.2.1 = true) (c1 : w.2.2.2.2.2.2.1 = 601024) (c2 : w.2.2.2.2.2.2.2.1 = 7293034) (hn : ev_n w ≤ 2560) :
    ∀ (d i k : Nat) (z : ab_Z) (m : ev_Mem) (f : Nat → Int64) (ths : ev_H) (o5 o6 : Option Value), ev_n w ≤ i + d → i ≤ 2560 → k ≤ i → ab_ok z → ab_RepC m z → ab_RepM m z → ths.length ≤ k → ev_cost ths ≤ 6 * k →
      ev_J w ev_mlaw (12, 434) ev_QL 23 (ev_LL i o5 o6) [] m (ev_lc f :: ths) := by
  intro d
  induction d with
  | zero =>
    intro i k z m f ths o5 o6 hd hi hk hok hs hM hl hc
    exact ev_head A (by omega) hn (fun h => absurd h (by omega))
  | succ d ih =>
    intro i k z m f ths o5 o6 hd hi hk hok hs hM hl hc
    refine ev_head A (by omega) hn (fun h3 v hv => ?_)
    have fin : ab_LF w ev_QL i ths := fun z' m' f' ths' x5 x6 g1 g2 g3 g4 g5 =>
      ev_fin1504 A (by omega) (ih (i + 5) (k + 1) z' m' f' ths' x5 x6 (by omega) (by omega) (by omega) g1 g2 g3 (by omega) (by omega))
    have hrm : ev_rm w (ev_lc f :: ths) := by
      have h0 := ev_cost0
      refine ⟨?_, ?_⟩
      · rw [c1, List.length_cons]; omega
      · rw [c2, ev_cost_lc]; omega
    have dfl : ev_J w ev_mlaw (12, 434) ev_QL 1504 (ev_LL i o5 o6) [] m (ev_lc f :: ths) := fin z m f ths o5 o6 hok hs hM (Nat.le_succ _) (Nat.le_add_right _ _)
    by_cases h25 : v < 25
    · match v, h25 with
      | 0, _ => exact ev_C0 A N hs hM hok hrm h3 hn fin
      | 1, _ => exact ev_C1 A N hs hM hok hrm h3 hn fin
      | 2, _ => exact ev_C2 A N hs hM hok hrm h3 hn fin
      | 3, _ => exact ev_C3 A N hs hM hok hrm h3 hn fin
      | 4, _ => exact ev_C4 A N hs hM hok hrm h3 hn fin
      | 5, _ => exact ev_C5 A N hs hM hok hrm h3 hn fin
      | 6, _ => exact ev_C6 A N hs hM hok hrm h3 hn fin
      | 7, _ => exact ev_C7 A N hs hM hok hrm h3 hn fin
      | 8, _ => exact ev_C8 A N hs hM hok hrm h3 hn fin
      | 9, _ => exact ev_C9 A N hs hM hok hrm h3 hn fin
      | 10, _ => exact ev_C10 A N hs hM hok hrm h3 hn fin
      | 11, _ => exact ev_C11 A N hs hM hok hrm h3 hn fin
      | 12, _ => exact ev_C12 A N hs hM hok hrm h3 hn fin
      | 13, _ => exact ev_C13 A N hs hM hok hrm h3 hn fin
      | 14, _ => exact ev_C14 A N hs hM hok hrm h3 hn fin
      | 15, _ => exact ev_C15 A N hs hM hok hrm h3 hn fin
      | 16, _ => exact ev_C16 A N hs hM hok hrm h3 hn fin
      | 17, _ => exact ev_C17 A N hs hM hok hrm h3 hn fin
      | 18, _ => exact ev_C18 A N hs hM hok hrm h3 hn fin
      | 19, _ => exact ev_C19 A N hs hM hok hrm h3 hn fin
      | 20, _ => exact ev_C20 A N hs hM hok hrm h3 hn fin
      | 21, _ => exact ev_C21 A N hs hM hok hrm h3 hn fin
      | 22, _ => exact ev_C22 A N hs hM hok hrm h3 hn fin
      | 23, _ => exact ev_C23 A N hs hM hok hrm h3 hn fin
      | 24, _ => exact ev_C24 A N hs hM hok hrm h3 hn fin
      | n + 25, h => exact absurd h (by omega)
    · rw [ev_tg_out v hv h25]
      exact dfl
end EvLawLoop
