section EvLaw8
theorem ev_kl8 : ev_law8.all (fun q => decide (decode code q.1 = .ok (q.2.1, ev_len q.2.1 q.2.2.1))) = true := by decide +kernel
end EvLaw8
