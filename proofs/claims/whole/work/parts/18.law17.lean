section EvLaw17
theorem ev_kl17 : ev_law17.all (fun q => decide (decode code q.1 = .ok (q.2.1, ev_len q.2.1 q.2.2.1))) = true := by decide +kernel
end EvLaw17
