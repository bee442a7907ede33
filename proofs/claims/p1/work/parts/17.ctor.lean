/-! printed: both constructors run -/
theorem x_phaseA : x_go xMT 1000000 10 (t_L_law 6) 0 (x_s0 (x_e0 (-2147483648, 2147483647))) = some (18, x_s1 (x_e0 (-2147483648, 2147483647))) := x_same_eq (by decide +kernel)
theorem x_short_0 : x_chk0 0 = true := by decide +kernel
theorem x_short_1 : x_chk0 1 = true := by decide +kernel
theorem x_short_2 : x_chk0 2 = true := by decide +kernel
theorem x_short_3 : x_chk0 3 = true := by decide +kernel
theorem x_short_4 : x_chk0 4 = true := by decide +kernel
theorem x_short_5 : x_chk0 5 = true := by decide +kernel
