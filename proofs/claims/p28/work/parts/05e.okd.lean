theorem okp_130_0 : (k_L_areAlike.2.take 60).all (okE (nth mi0 mit 130)) = true := by decide +kernel
theorem okp_130_1 : ((k_L_areAlike.2.drop 60).take 60).all (okE (nth mi0 mit 130)) = true := by decide +kernel
theorem okp_130_2 : (((k_L_areAlike.2.drop 60).drop 60).take 60).all (okE (nth mi0 mit 130)) = true := by decide +kernel
theorem okp_130_3 : (((k_L_areAlike.2.drop 60).drop 60).drop 60).all (okE (nth mi0 mit 130)) = true := by decide +kernel
theorem okm_130 : okM k_L_areAlike (nth mi0 mit 130) := ⟨(all_pieces 60 okp_130_0 (all_pieces 60 okp_130_1 (all_pieces 60 okp_130_2 okp_130_3))), rfl, by decide +kernel, by decide +kernel⟩
