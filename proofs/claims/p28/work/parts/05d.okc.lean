theorem okp_129_0 : (k_L_isStep.2.take 60).all (okE (nth mi0 mit 129)) = true := by decide +kernel
theorem okp_129_1 : ((k_L_isStep.2.drop 60).take 60).all (okE (nth mi0 mit 129)) = true := by decide +kernel
theorem okp_129_2 : (((k_L_isStep.2.drop 60).drop 60).take 60).all (okE (nth mi0 mit 129)) = true := by decide +kernel
theorem okp_129_3 : ((((k_L_isStep.2.drop 60).drop 60).drop 60).take 60).all (okE (nth mi0 mit 129)) = true := by decide +kernel
theorem okp_129_4 : (((((k_L_isStep.2.drop 60).drop 60).drop 60).drop 60).take 60).all (okE (nth mi0 mit 129)) = true := by decide +kernel
theorem okp_129_5 : ((((((k_L_isStep.2.drop 60).drop 60).drop 60).drop 60).drop 60).take 60).all (okE (nth mi0 mit 129)) = true := by decide +kernel
theorem okp_129_6 : (((((((k_L_isStep.2.drop 60).drop 60).drop 60).drop 60).drop 60).drop 60).take 60).all (okE (nth mi0 mit 129)) = true := by decide +kernel
theorem okp_129_7 : (((((((k_L_isStep.2.drop 60).drop 60).drop 60).drop 60).drop 60).drop 60).drop 60).all (okE (nth mi0 mit 129)) = true := by decide +kernel
theorem okm_129 : okM k_L_isStep (nth mi0 mit 129) := ⟨(all_pieces 60 okp_129_0 (all_pieces 60 okp_129_1 (all_pieces 60 okp_129_2 (all_pieces 60 okp_129_3 (all_pieces 60 okp_129_4 (all_pieces 60 okp_129_5 (all_pieces 60 okp_129_6 okp_129_7))))))), rfl, by decide +kernel, by decide +kernel⟩
