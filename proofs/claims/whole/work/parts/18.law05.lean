section EvLaw5
theorem ev_kl5 : ev_law5.all (fun q => decide (decode code q.1 = .ok (q.2.1, ev_len q.2.1 q.2.2.1))) = true := by decide +kernel
end EvLaw5
