/-! Every table agrees with the class files: checked by counting. -/
theorem am_k0_6_ok : am_c0_6.all (am_eok am_s0) = true := by decide +kernel
theorem am_k0_7_ok : am_c0_7.all (am_eok am_s0) = true := by decide +kernel
theorem am_k0_ok : am_c0.all (am_eok am_s0) = true := am_all_app am_k0_0_ok (am_all_app am_k0_1_ok (am_all_app am_k0_2_ok (am_all_app am_k0_3_ok (am_all_app am_k0_4_ok (am_all_app am_k0_5_ok (am_all_app am_k0_6_ok am_k0_7_ok))))))
theorem am_h0_ok : am_sok am_s0 = true := by decide +kernel
theorem am_k1_ok : am_c1.all (am_eok am_s1) = true := by decide +kernel
theorem am_h1_ok : am_sok am_s1 = true := by decide +kernel
theorem am_k2_ok : am_c2.all (am_eok am_s2) = true := by decide +kernel
theorem am_h2_ok : am_sok am_s2 = true := by decide +kernel
theorem am_k3_ok : am_c3.all (am_eok am_s3) = true := by decide +kernel
theorem am_h3_ok : am_sok am_s3 = true := by decide +kernel
theorem am_k4_ok : am_c4.all (am_eok am_s4) = true := by decide +kernel
theorem am_h4_ok : am_sok am_s4 = true := by decide +kernel
theorem am_k5_ok : am_c5.all (am_eok am_s5) = true := by decide +kernel
theorem am_h5_ok : am_sok am_s5 = true := by decide +kernel
theorem am_k6_ok : am_c6.all (am_eok am_s6) = true := by decide +kernel
