/-! the listings are those of the code, and their links are the tables' words -/
section EvCheck
theorem ev_ck0 : ev_dec ev_m0 = true := by decide +kernel
theorem ev_ck1 : ev_mw ev_m0 = true := by decide +kernel
theorem ev_ck2 : ev_mw ev_m3 = true := by decide +kernel
theorem ev_ck3 : ev_lnks ev_m3 = true := by decide +kernel
end EvCheck
