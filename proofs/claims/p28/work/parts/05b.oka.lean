theorem okm_124 : okM k_L_cell (nth mi0 mit 124) := ⟨by decide +kernel, rfl, by decide +kernel, by decide +kernel⟩
theorem okm_125 : okM k_L_up (nth mi0 mit 125) := ⟨by decide +kernel, rfl, by decide +kernel, by decide +kernel⟩
theorem okm_126 : okM k_L_there (nth mi0 mit 126) := ⟨by decide +kernel, rfl, by decide +kernel, by decide +kernel⟩
theorem okm_128 : okM k_L_puts (nth mi0 mit 128) := ⟨by decide +kernel, rfl, by decide +kernel, by decide +kernel⟩
theorem okm_132 : okM k_L_law (nth mi0 mit 132) := ⟨by decide +kernel, rfl, by decide +kernel, by decide +kernel⟩
