/-! Every table agrees with the class files: checked by counting. -/
theorem am_k126_5_ok : am_c126_5.all (am_eok am_s126) = true := by decide +kernel
theorem am_k126_6_ok : am_c126_6.all (am_eok am_s126) = true := by decide +kernel
theorem am_k126_7_ok : am_c126_7.all (am_eok am_s126) = true := by decide +kernel
theorem am_k126_8_ok : am_c126_8.all (am_eok am_s126) = true := by decide +kernel
