section EvCheck
theorem ev_k109 : ev_mw ev_m109 = true ∧ ev_lnks ev_m109 = true := ⟨by decide +kernel, by decide +kernel⟩
end EvCheck
