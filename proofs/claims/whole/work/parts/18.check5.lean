/-! the listings are those of the code, and their links are the tables' words: methods 200 to 230 -/
section EvCheck5
theorem ev_k200 : ev_mw ev_m200 = true ∧ ev_lnks ev_m200 = true := ⟨by decide +kernel, by decide +kernel⟩
theorem ev_k201 : ev_mw ev_m201 = true ∧ ev_lnks ev_m201 = true := ⟨by decide +kernel, by decide +kernel⟩
theorem ev_k202 : ev_mw ev_m202 = true ∧ ev_lnks ev_m202 = true := ⟨by decide +kernel, by decide +kernel⟩
theorem ev_k203 : ev_mw ev_m203 = true ∧ ev_lnks ev_m203 = true := ⟨by decide +kernel, by decide +kernel⟩
theorem ev_k204 : ev_mw ev_m204 = true ∧ ev_lnks ev_m204 = true := ⟨by decide +kernel, by decide +kernel⟩
theorem ev_k205 : ev_mw ev_m205 = true ∧ ev_lnks ev_m205 = true := ⟨by decide +kernel, by decide +kernel⟩
theorem ev_k206 : ev_mw ev_m206 = true ∧ ev_lnks ev_m206 = true := ⟨by decide +kernel, by decide +kernel⟩
theorem ev_k207 : ev_mw ev_m207 = true ∧ ev_lnks ev_m207 = true := ⟨by decide +kernel, by decide +kernel⟩
theorem ev_k208 : ev_mw ev_m208 = true ∧ ev_lnks ev_m208 = true := ⟨by decide +kernel, by decide +kernel⟩
theorem ev_k209 : ev_mw ev_m209 = true ∧ ev_lnks ev_m209 = true := ⟨by decide +kernel, by decide +kernel⟩
theorem ev_k210 : ev_mw ev_m210 = true ∧ ev_lnks ev_m210 = true := ⟨by decide +kernel, by decide +kernel⟩
theorem ev_k211 : ev_mw ev_m211 = true ∧ ev_lnks ev_m211 = true := ⟨by decide +kernel, by decide +kernel⟩
theorem ev_k212 : ev_mw ev_m212 = true ∧ ev_lnks ev_m212 = true := ⟨by decide +kernel, by decide +kernel⟩
theorem ev_k213 : ev_mw ev_m213 = true ∧ ev_lnks ev_m213 = true := ⟨by decide +kernel, by decide +kernel⟩
theorem ev_k214 : ev_mw ev_m214 = true ∧ ev_lnks ev_m214 = true := ⟨by decide +kernel, by decide +kernel⟩
theorem ev_k215 : ev_mw ev_m215 = true ∧ ev_lnks ev_m215 = true := ⟨by decide +kernel, by decide +kernel⟩
theorem ev_k216 : ev_mw ev_m216 = true ∧ ev_lnks ev_m216 = true := ⟨by decide +kernel, by decide +kernel⟩
theorem ev_k217 : ev_mw ev_m217 = true ∧ ev_lnks ev_m217 = true := ⟨by decide +kernel, by decide +kernel⟩
theorem ev_k218 : ev_mw ev_m218 = true ∧ ev_lnks ev_m218 = true := ⟨by decide +kernel, by decide +kernel⟩
theorem ev_k219 : ev_mw ev_m219 = true ∧ ev_lnks ev_m219 = true := ⟨by decide +kernel, by decide +kernel⟩
theorem ev_k220 : ev_mw ev_m220 = true ∧ ev_lnks ev_m220 = true := ⟨by decide +kernel, by decide +kernel⟩
theorem ev_k221 : ev_mw ev_m221 = true ∧ ev_lnks ev_m221 = true := ⟨by decide +kernel, by decide +kernel⟩
theorem ev_k222 : ev_mw ev_m222 = true ∧ ev_lnks ev_m222 = true := ⟨by decide +kernel, by decide +kernel⟩
theorem ev_k223 : ev_mw ev_m223 = true ∧ ev_lnks ev_m223 = true := ⟨by decide +kernel, by decide +kernel⟩
theorem ev_k224 : ev_mw ev_m224 = true ∧ ev_lnks ev_m224 = true := ⟨by decide +kernel, by decide +kernel⟩
theorem ev_k225 : ev_mw ev_m225 = true ∧ ev_lnks ev_m225 = true := ⟨by decide +kernel, by decide +kernel⟩
theorem ev_k226 : ev_mw ev_m226 = true ∧ ev_lnks ev_m226 = true := ⟨by decide +kernel, by decide +kernel⟩
theorem ev_k227 : ev_mw ev_m227 = true ∧ ev_lnks ev_m227 = true := ⟨by decide +kernel, by decide +kernel⟩
theorem ev_k228 : ev_mw ev_m228 = true ∧ ev_lnks ev_m228 = true := ⟨by decide +kernel, by decide +kernel⟩
theorem ev_k229 : ev_mw ev_m229 = true ∧ ev_lnks ev_m229 = true := ⟨by decide +kernel, by decide +kernel⟩
theorem ev_k230 : ev_mw ev_m230 = true ∧ ev_lnks ev_m230 = true := ⟨by decide +kernel, by decide +kernel⟩
end EvCheck5
