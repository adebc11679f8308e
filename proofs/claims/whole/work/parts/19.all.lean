theorem ev_prog_ok : ∀ M ∈ ev_prog, ev_mw M = true ∧ ev_lnks M = true := sorry
theorem ev_klawd : ev_dec ev_mlaw = true := sorry
theorem ev_klawl : ev_lnks ev_mlaw = true := sorry
