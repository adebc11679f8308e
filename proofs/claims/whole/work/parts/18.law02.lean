section EvLaw2
theorem ev_kl2 : ev_law2.all (fun q => decide (decode code q.1 = .ok (q.2.1, ev_len q.2.1 q.2.2.1))) = true := by decide +kernel
end EvLaw2
