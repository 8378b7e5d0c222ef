theorem okp_127_0 : (k_L_isGrammar.2.take 60).all (okE (nth mi0 mit 127)) = true := by decide +kernel
theorem okp_127_1 : ((k_L_isGrammar.2.drop 60).take 60).all (okE (nth mi0 mit 127)) = true := by decide +kernel
theorem okp_127_2 : ((k_L_isGrammar.2.drop 60).drop 60).all (okE (nth mi0 mit 127)) = true := by decide +kernel
theorem okm_127 : okM k_L_isGrammar (nth mi0 mit 127) := ⟨(all_pieces 60 okp_127_0 (all_pieces 60 okp_127_1 okp_127_2)), rfl, by decide +kernel, by decide +kernel⟩
