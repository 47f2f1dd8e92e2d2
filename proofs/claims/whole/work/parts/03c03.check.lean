/-! Every table agrees with the class files: checked by counting. -/
theorem am_h6_ok : am_sok am_s6 = true := by decide +kernel
theorem am_k7_ok : am_c7.all (am_eok am_s7) = true := by decide +kernel
theorem am_h7_ok : am_sok am_s7 = true := by decide +kernel
theorem am_k8_ok : am_c8.all (am_eok am_s8) = true := by decide +kernel
theorem am_h8_ok : am_sok am_s8 = true := by decide +kernel
theorem am_k9_ok : am_c9.all (am_eok am_s9) = true := by decide +kernel
theorem am_h9_ok : am_sok am_s9 = true := by decide +kernel
theorem am_k10_ok : am_c10.all (am_eok am_s10) = true := by decide +kernel
theorem am_h10_ok : am_sok am_s10 = true := by decide +kernel
theorem am_k11_ok : am_c11.all (am_eok am_s11) = true := by decide +kernel
theorem am_h11_ok : am_sok am_s11 = true := by decide +kernel
theorem am_k12_ok : am_c12.all (am_eok am_s12) = true := by decide +kernel
theorem am_h12_ok : am_sok am_s12 = true := by decide +kernel
theorem am_k13_ok : am_c13.all (am_eok am_s13) = true := by decide +kernel
theorem am_h13_ok : am_sok am_s13 = true := by decide +kernel
theorem am_k14_ok : am_c14.all (am_eok am_s14) = true := by decide +kernel
theorem am_h14_ok : am_sok am_s14 = true := by decide +kernel
theorem am_k15_ok : am_c15.all (am_eok am_s15) = true := by decide +kernel
theorem am_h15_ok : am_sok am_s15 = true := by decide +kernel
theorem am_k16_ok : am_c16.all (am_eok am_s16) = true := by decide +kernel
theorem am_h16_ok : am_sok am_s16 = true := by decide +kernel
theorem am_k17_ok : am_c17.all (am_eok am_s17) = true := by decide +kernel
theorem am_h17_ok : am_sok am_s17 = true := by decide +kernel
theorem am_k18_ok : am_c18.all (am_eok am_s18) = true := by decide +kernel
theorem am_h18_ok : am_sok am_s18 = true := by decide +kernel
theorem am_k19_ok : am_c19.all (am_eok am_s19) = true := by decide +kernel
theorem am_h19_ok : am_sok am_s19 = true := by decide +kernel
theorem am_k20_ok : am_c20.all (am_eok am_s20) = true := by decide +kernel
theorem am_h20_ok : am_sok am_s20 = true := by decide +kernel
theorem am_k21_ok : am_c21.all (am_eok am_s21) = true := by decide +kernel
theorem am_h21_ok : am_sok am_s21 = true := by decide +kernel
theorem am_k22_ok : am_c22.all (am_eok am_s22) = true := by decide +kernel
theorem am_h22_ok : am_sok am_s22 = true := by decide +kernel
theorem am_k23_ok : am_c23.all (am_eok am_s23) = true := by decide +kernel
theorem am_h23_ok : am_sok am_s23 = true := by decide +kernel
theorem am_k24_ok : am_c24.all (am_eok am_s24) = true := by decide +kernel
theorem am_h24_ok : am_sok am_s24 = true := by decide +kernel
theorem am_k25_ok : am_c25.all (am_eok am_s25) = true := by decide +kernel
theorem am_h25_ok : am_sok am_s25 = true := by decide +kernel
theorem am_k26_ok : am_c26.all (am_eok am_s26) = true := by decide +kernel
theorem am_h26_ok : am_sok am_s26 = true := by decide +kernel
theorem am_k27_ok : am_c27.all (am_eok am_s27) = true := by decide +kernel
theorem am_h27_ok : am_sok am_s27 = true := by decide +kernel
theorem am_k28_ok : am_c28.all (am_eok am_s28) = true := by decide +kernel
theorem am_h28_ok : am_sok am_s28 = true := by decide +kernel
theorem am_k29_ok : am_c29.all (am_eok am_s29) = true := by decide +kernel
theorem am_h29_ok : am_sok am_s29 = true := by decide +kernel
theorem am_k30_ok : am_c30.all (am_eok am_s30) = true := by decide +kernel
theorem am_h30_ok : am_sok am_s30 = true := by decide +kernel
theorem am_k31_ok : am_c31.all (am_eok am_s31) = true := by decide +kernel
theorem am_h31_ok : am_sok am_s31 = true := by decide +kernel
theorem am_k32_ok : am_c32.all (am_eok am_s32) = true := by decide +kernel
theorem am_h32_ok : am_sok am_s32 = true := by decide +kernel
theorem am_k33_0_ok : am_c33_0.all (am_eok am_s33) = true := by decide +kernel
