section EvLaw6
theorem ev_kl6 : ev_law6.all (fun q => decide (decode code q.1 = .ok (q.2.1, ev_len q.2.1 q.2.2.1))) = true := by decide +kernel
end EvLaw6
