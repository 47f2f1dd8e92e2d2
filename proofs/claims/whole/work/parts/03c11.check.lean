/-! Every table agrees with the class files: checked by counting. -/
theorem am_k126_8_ok : am_c126_8.all (am_eok am_s126) = true := by decide +kernel
theorem am_k126_9_ok : am_c126_9.all (am_eok am_s126) = true := by decide +kernel
