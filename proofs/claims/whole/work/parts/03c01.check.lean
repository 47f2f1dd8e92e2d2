/-! Every table agrees with the class files: checked by counting. -/
theorem am_k0_5_ok : am_c0_5.all (am_eok am_s0) = true := by decide +kernel
theorem am_k0_6_ok : am_c0_6.all (am_eok am_s0) = true := by decide +kernel
theorem am_k0_7_ok : am_c0_7.all (am_eok am_s0) = true := by decide +kernel
theorem am_k0_ok : am_c0.all (am_eok am_s0) = true := am_all_app am_k0_0_ok (am_all_app am_k0_1_ok (am_all_app am_k0_2_ok (am_all_app am_k0_3_ok (am_all_app am_k0_4_ok (am_all_app am_k0_5_ok (am_all_app am_k0_6_ok am_k0_7_ok))))))
theorem am_h0_ok : am_sok am_s0 = true := by decide +kernel
theorem am_k1_ok : am_c1.all (am_eok am_s1) = true := by decide +kernel
theorem am_h1_ok : am_sok am_s1 = true := by decide +kernel
theorem am_k2_ok : am_c2.all (am_eok am_s2) = true := by decide +kernel
theorem am_h2_ok : am_sok am_s2 = true := by decide +kernel
theorem am_k3_ok : am_c3.all (am_eok am_s3) = true := by decide +kernel
theorem am_h3_ok : am_sok am_s3 = true := by decide +kernel
theorem am_k4_ok : am_c4.all (am_eok am_s4) = true := by decide +kernel
theorem am_h4_ok : am_sok am_s4 = true := by decide +kernel
theorem am_k5_ok : am_c5.all (am_eok am_s5) = true := by decide +kernel
theorem am_h5_ok : am_sok am_s5 = true := by decide +kernel
theorem am_k6_ok : am_c6.all (am_eok am_s6) = true := by decide +kernel
theorem am_h6_ok : am_sok am_s6 = true := by decide +kernel
theorem am_k7_ok : am_c7.all (am_eok am_s7) = true := by decide +kernel
theorem am_h7_ok : am_sok am_s7 = true := by decide +kernel
theorem am_k8_ok : am_c8.all (am_eok am_s8) = true := by decide +kernel
theorem am_h8_ok : am_sok am_s8 = true := by decide +kernel
theorem am_k9_ok : am_c9.all (am_eok am_s9) = true := by decide +kernel
theorem am_h9_ok : am_sok am_s9 = true := by decide +kernel
theorem am_k10_ok : am_c10.all (am_eok am_s10) = true := by decide +kernel
theorem am_h10_ok : am_sok am_s10 = true := by decide +kernel
theorem am_k11_ok : am_c11.all (am_eok am_s11) = true := by decide +kernel
theorem am_h11_ok : am_sok am_s11 = true := by decide +kernel
theorem am_k12_ok : am_c12.all (am_eok am_s12) = true := by decide +kernel
theorem am_h12_ok : am_sok am_s12 = true := by decide +kernel
theorem am_k13_ok : am_c13.all (am_eok am_s13) = true := by decide +kernel
theorem am_h13_ok : am_sok am_s13 = true := by decide +kernel
theorem am_k14_ok : am_c14.all (am_eok am_s14) = true := by decide +kernel
theorem am_h14_ok : am_sok am_s14 = true := by decide +kernel
theorem am_k15_ok : am_c15.all (am_eok am_s15) = true := by decide +kernel
theorem am_h15_ok : am_sok am_s15 = true := by decide +kernel
theorem am_k16_ok : am_c16.all (am_eok am_s16) = true := by decide +kernel
theorem am_h16_ok : am_sok am_s16 = true := by decide +kernel
theorem am_k17_ok : am_c17.all (am_eok am_s17) = true := by decide +kernel
theorem am_h17_ok : am_sok am_s17 = true := by decide +kernel
theorem am_k18_ok : am_c18.all (am_eok am_s18) = true := by decide +kernel
theorem am_h18_ok : am_sok am_s18 = true := by decide +kernel
theorem am_k19_ok : am_c19.all (am_eok am_s19) = true := by decide +kernel
theorem am_h19_ok : am_sok am_s19 = true := by decide +kernel
theorem am_k20_ok : am_c20.all (am_eok am_s20) = true := by decide +kernel
theorem am_h20_ok : am_sok am_s20 = true := by decide +kernel
theorem am_k21_ok : am_c21.all (am_eok am_s21) = true := by decide +kernel
theorem am_h21_ok : am_sok am_s21 = true := by decide +kernel
theorem am_k22_ok : am_c22.all (am_eok am_s22) = true := by decide +kernel
