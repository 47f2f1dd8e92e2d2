/-! Every table agrees with the class files: checked by counting. -/
theorem am_k126_9_ok : am_c126_9.all (am_eok am_s126) = true := by decide +kernel
theorem am_k126_10_ok : am_c126_10.all (am_eok am_s126) = true := by decide +kernel
theorem am_k126_11_ok : am_c126_11.all (am_eok am_s126) = true := by decide +kernel
theorem am_k126_12_ok : am_c126_12.all (am_eok am_s126) = true := by decide +kernel
theorem am_k126_ok : am_c126.all (am_eok am_s126) = true := am_all_app am_k126_0_ok (am_all_app am_k126_1_ok (am_all_app am_k126_2_ok (am_all_app am_k126_3_ok (am_all_app am_k126_4_ok (am_all_app am_k126_5_ok (am_all_app am_k126_6_ok (am_all_app am_k126_7_ok (am_all_app am_k126_8_ok (am_all_app am_k126_9_ok (am_all_app am_k126_10_ok (am_all_app am_k126_11_ok am_k126_12_ok)))))))))))
theorem am_h126_ok : am_sok am_s126 = true := by decide +kernel
theorem am_k127_ok : am_c127.all (am_eok am_s127) = true := by decide +kernel
theorem am_h127_ok : am_sok am_s127 = true := by decide +kernel
theorem am_k128_ok : am_c128.all (am_eok am_s128) = true := by decide +kernel
theorem am_h128_ok : am_sok am_s128 = true := by decide +kernel
theorem am_k129_ok : am_c129.all (am_eok am_s129) = true := by decide +kernel
theorem am_h129_ok : am_sok am_s129 = true := by decide +kernel
theorem am_k130_ok : am_c130.all (am_eok am_s130) = true := by decide +kernel
theorem am_h130_ok : am_sok am_s130 = true := by decide +kernel
theorem am_k131_ok : am_c131.all (am_eok am_s131) = true := by decide +kernel
theorem am_h131_ok : am_sok am_s131 = true := by decide +kernel
theorem am_k132_ok : am_c132.all (am_eok am_s132) = true := by decide +kernel
theorem am_h132_ok : am_sok am_s132 = true := by decide +kernel
theorem am_k133_ok : am_c133.all (am_eok am_s133) = true := by decide +kernel
theorem am_h133_ok : am_sok am_s133 = true := by decide +kernel
theorem am_k134_ok : am_c134.all (am_eok am_s134) = true := by decide +kernel
theorem am_h134_ok : am_sok am_s134 = true := by decide +kernel
theorem am_k135_ok : am_c135.all (am_eok am_s135) = true := by decide +kernel
theorem am_h135_ok : am_sok am_s135 = true := by decide +kernel
theorem am_k136_ok : am_c136.all (am_eok am_s136) = true := by decide +kernel
theorem am_h136_ok : am_sok am_s136 = true := by decide +kernel
theorem am_k137_ok : am_c137.all (am_eok am_s137) = true := by decide +kernel
theorem am_h137_ok : am_sok am_s137 = true := by decide +kernel
theorem am_k138_ok : am_c138.all (am_eok am_s138) = true := by decide +kernel
theorem am_h138_ok : am_sok am_s138 = true := by decide +kernel
theorem am_k139_ok : am_c139.all (am_eok am_s139) = true := by decide +kernel
theorem am_h139_ok : am_sok am_s139 = true := by decide +kernel
theorem am_k140_0_ok : am_c140_0.all (am_eok am_s140) = true := by decide +kernel
