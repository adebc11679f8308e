/-! the words of a throw: each is a good one of the tables, or one of the four that speak of the heap; by the constructors that are called -/
section EvThW
def ev_sp : List Cond := [.isRef (.static Bundle.tN "UNASSIGNED_STACK" Bundle.steD), .isRef (.static Bundle.tN "SUPPRESSED_SENTINEL" Bundle.listD), .laysStatic Bundle.tN "UNASSIGNED_STACK" Bundle.steD, .laysStatic Bundle.tN "SUPPRESSED_SENTINEL" Bundle.listD]
def ev_names : List String := ["java/lang/RuntimeException", "java/lang/Exception"]
def ev_thL : List (Nat × String × String) := [(85, "WitnessBench", "java/lang/IllegalArgumentException"), (96, "WitnessBench", "java/lang/IllegalStateException"), (125, "WitnessBench", "java/lang/UnsupportedOperationException"), (262, "WitnessBench", "java/lang/IndexOutOfBoundsException")]
theorem ev_thL_ok : ∀ t ∈ ev_thL, (Bundle.ownAtoms t.2.1 t.1 t.2.2 ev_names).all (fun x => ev_has x || decide (x ∈ ev_sp)) = true := by decide +kernel
def ev_thw (own : String) (ik is ic : Nat) (E tx : String) : Bool := decide ((ic, own, E) ∈ ev_thL) && ev_has (.classLink own ik E) && ev_has (.initialized E) && decide (Cond.stringRef own is tx ∈ lw_tbl) && Bundle.fit E
end EvThW
