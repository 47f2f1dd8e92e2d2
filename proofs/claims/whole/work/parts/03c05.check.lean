/-! Every table agrees with the class files: checked by counting. -/
theorem am_h111_ok : am_sok am_s111 = true := by decide +kernel
theorem am_k112_ok : am_c112.all (am_eok am_s112) = true := by decide +kernel
theorem am_h112_ok : am_sok am_s112 = true := by decide +kernel
theorem am_k113_ok : am_c113.all (am_eok am_s113) = true := by decide +kernel
theorem am_h113_ok : am_sok am_s113 = true := by decide +kernel
theorem am_k114_ok : am_c114.all (am_eok am_s114) = true := by decide +kernel
theorem am_h114_ok : am_sok am_s114 = true := by decide +kernel
theorem am_k115_ok : am_c115.all (am_eok am_s115) = true := by decide +kernel
theorem am_h115_ok : am_sok am_s115 = true := by decide +kernel
theorem am_k116_ok : am_c116.all (am_eok am_s116) = true := by decide +kernel
theorem am_h116_ok : am_sok am_s116 = true := by decide +kernel
theorem am_k117_ok : am_c117.all (am_eok am_s117) = true := by decide +kernel
theorem am_h117_ok : am_sok am_s117 = true := by decide +kernel
theorem am_k118_ok : am_c118.all (am_eok am_s118) = true := by decide +kernel
theorem am_h118_ok : am_sok am_s118 = true := by decide +kernel
theorem am_k119_ok : am_c119.all (am_eok am_s119) = true := by decide +kernel
theorem am_h119_ok : am_sok am_s119 = true := by decide +kernel
theorem am_k120_ok : am_c120.all (am_eok am_s120) = true := by decide +kernel
theorem am_h120_ok : am_sok am_s120 = true := by decide +kernel
theorem am_k121_ok : am_c121.all (am_eok am_s121) = true := by decide +kernel
theorem am_h121_ok : am_sok am_s121 = true := by decide +kernel
theorem am_k122_ok : am_c122.all (am_eok am_s122) = true := by decide +kernel
theorem am_h122_ok : am_sok am_s122 = true := by decide +kernel
theorem am_k123_ok : am_c123.all (am_eok am_s123) = true := by decide +kernel
theorem am_h123_ok : am_sok am_s123 = true := by decide +kernel
theorem am_k124_ok : am_c124.all (am_eok am_s124) = true := by decide +kernel
theorem am_h124_ok : am_sok am_s124 = true := by decide +kernel
theorem am_k125_ok : am_c125.all (am_eok am_s125) = true := by decide +kernel
theorem am_h125_ok : am_sok am_s125 = true := by decide +kernel
theorem am_k126_0_ok : am_c126_0.all (am_eok am_s126) = true := by decide +kernel
theorem am_k126_1_ok : am_c126_1.all (am_eok am_s126) = true := by decide +kernel
