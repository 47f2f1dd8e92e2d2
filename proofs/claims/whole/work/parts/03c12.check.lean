/-! Every table agrees with the class files: checked by counting. -/
theorem am_k126_10_ok : am_c126_10.all (am_eok am_s126) = true := by decide +kernel
theorem am_k126_11_ok : am_c126_11.all (am_eok am_s126) = true := by decide +kernel
