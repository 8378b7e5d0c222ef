theorem okp_131_0 : (k_L_isWell.2.take 60).all (okE (nth mi0 mit 131)) = true := by decide +kernel
theorem okp_131_1 : ((k_L_isWell.2.drop 60).take 60).all (okE (nth mi0 mit 131)) = true := by decide +kernel
theorem okp_131_2 : (((k_L_isWell.2.drop 60).drop 60).take 60).all (okE (nth mi0 mit 131)) = true := by decide +kernel
theorem okp_131_3 : ((((k_L_isWell.2.drop 60).drop 60).drop 60).take 60).all (okE (nth mi0 mit 131)) = true := by decide +kernel
theorem okp_131_4 : ((((k_L_isWell.2.drop 60).drop 60).drop 60).drop 60).all (okE (nth mi0 mit 131)) = true := by decide +kernel
theorem okm_131 : okM k_L_isWell (nth mi0 mit 131) := ⟨(all_pieces 60 okp_131_0 (all_pieces 60 okp_131_1 (all_pieces 60 okp_131_2 (all_pieces 60 okp_131_3 okp_131_4)))), rfl, by decide +kernel, by decide +kernel⟩
