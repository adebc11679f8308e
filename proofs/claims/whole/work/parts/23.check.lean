/-! the listings are those of the code, and their links are the tables' words -/
section EvCheck
theorem ev_k0 : (ev_mw ev_m0 && ev_lnks ev_m0) = true := by decide +kernel
theorem ev_k1 : (ev_mw ev_m1 && ev_lnks ev_m1) = true := by decide +kernel
theorem ev_k2 : (ev_mw ev_m2 && ev_lnks ev_m2) = true := by decide +kernel
theorem ev_k3 : (ev_mw ev_m3 && ev_lnks ev_m3) = true := by decide +kernel
theorem ev_k4 : (ev_mw ev_m4 && ev_lnks ev_m4) = true := by decide +kernel
theorem ev_k5 : (ev_mw ev_m5 && ev_lnks ev_m5) = true := by decide +kernel
theorem ev_k6 : (ev_mw ev_m6 && ev_lnks ev_m6) = true := by decide +kernel
theorem ev_k7 : (ev_mw ev_m7 && ev_lnks ev_m7) = true := by decide +kernel
theorem ev_k8 : (ev_mw ev_m8 && ev_lnks ev_m8) = true := by decide +kernel
theorem ev_k9 : (ev_mw ev_m9 && ev_lnks ev_m9) = true := by decide +kernel
theorem ev_k10 : (ev_mw ev_m10 && ev_lnks ev_m10) = true := by decide +kernel
theorem ev_k11 : (ev_mw ev_m11 && ev_lnks ev_m11) = true := by decide +kernel
end EvCheck
