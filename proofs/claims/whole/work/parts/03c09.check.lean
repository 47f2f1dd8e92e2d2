/-! Every table agrees with the class files: checked by counting. -/
theorem am_k126_4_ok : am_c126_4.all (am_eok am_s126) = true := by decide +kernel
theorem am_k126_5_ok : am_c126_5.all (am_eok am_s126) = true := by decide +kernel
