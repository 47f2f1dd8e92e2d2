/-! Every table agrees with the class files: checked by counting. -/
theorem am_k0_0_ok : am_c0_0.all (am_eok am_s0) = true := by decide +kernel
theorem am_k0_1_ok : am_c0_1.all (am_eok am_s0) = true := by decide +kernel
theorem am_k0_2_ok : am_c0_2.all (am_eok am_s0) = true := by decide +kernel
theorem am_k0_3_ok : am_c0_3.all (am_eok am_s0) = true := by decide +kernel
theorem am_k0_4_ok : am_c0_4.all (am_eok am_s0) = true := by decide +kernel
