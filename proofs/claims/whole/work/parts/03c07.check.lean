/-! Every table agrees with the class files: checked by counting. -/
theorem am_h121_ok : am_sok am_s121 = true := by decide +kernel
theorem am_k122_ok : am_c122.all (am_eok am_s122) = true := by decide +kernel
theorem am_h122_ok : am_sok am_s122 = true := by decide +kernel
theorem am_k123_ok : am_c123.all (am_eok am_s123) = true := by decide +kernel
theorem am_h123_ok : am_sok am_s123 = true := by decide +kernel
theorem am_k124_ok : am_c124.all (am_eok am_s124) = true := by decide +kernel
theorem am_h124_ok : am_sok am_s124 = true := by decide +kernel
theorem am_k125_ok : am_c125.all (am_eok am_s125) = true := by decide +kernel
theorem am_h125_ok : am_sok am_s125 = true := by decide +kernel
theorem am_k126_0_ok : am_c126_0.all (am_eok am_s126) = true := by decide +kernel
theorem am_k126_1_ok : am_c126_1.all (am_eok am_s126) = true := by decide +kernel
