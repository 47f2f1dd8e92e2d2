/-! Every table agrees with the class files: checked by counting. -/
theorem am_k126_1_ok : am_c126_1.all (am_eok am_s126) = true := by decide +kernel
theorem am_k126_2_ok : am_c126_2.all (am_eok am_s126) = true := by decide +kernel
theorem am_k126_3_ok : am_c126_3.all (am_eok am_s126) = true := by decide +kernel
theorem am_k126_4_ok : am_c126_4.all (am_eok am_s126) = true := by decide +kernel
