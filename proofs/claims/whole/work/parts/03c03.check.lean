/-! Every table agrees with the class files: checked by counting. -/
theorem am_h88_ok : am_sok am_s88 = true := by decide +kernel
theorem am_k89_ok : am_c89.all (am_eok am_s89) = true := by decide +kernel
theorem am_h89_ok : am_sok am_s89 = true := by decide +kernel
theorem am_k90_ok : am_c90.all (am_eok am_s90) = true := by decide +kernel
theorem am_h90_ok : am_sok am_s90 = true := by decide +kernel
theorem am_k91_0_ok : am_c91_0.all (am_eok am_s91) = true := by decide +kernel
theorem am_k91_1_ok : am_c91_1.all (am_eok am_s91) = true := by decide +kernel
theorem am_k91_ok : am_c91.all (am_eok am_s91) = true := am_all_app am_k91_0_ok am_k91_1_ok
theorem am_h91_ok : am_sok am_s91 = true := by decide +kernel
theorem am_k92_ok : am_c92.all (am_eok am_s92) = true := by decide +kernel
theorem am_h92_ok : am_sok am_s92 = true := by decide +kernel
theorem am_k93_ok : am_c93.all (am_eok am_s93) = true := by decide +kernel
theorem am_h93_ok : am_sok am_s93 = true := by decide +kernel
theorem am_k94_ok : am_c94.all (am_eok am_s94) = true := by decide +kernel
theorem am_h94_ok : am_sok am_s94 = true := by decide +kernel
theorem am_k95_0_ok : am_c95_0.all (am_eok am_s95) = true := by decide +kernel
theorem am_k95_1_ok : am_c95_1.all (am_eok am_s95) = true := by decide +kernel
theorem am_k95_ok : am_c95.all (am_eok am_s95) = true := am_all_app am_k95_0_ok am_k95_1_ok
theorem am_h95_ok : am_sok am_s95 = true := by decide +kernel
theorem am_k96_ok : am_c96.all (am_eok am_s96) = true := by decide +kernel
theorem am_h96_ok : am_sok am_s96 = true := by decide +kernel
theorem am_k97_ok : am_c97.all (am_eok am_s97) = true := by decide +kernel
theorem am_h97_ok : am_sok am_s97 = true := by decide +kernel
theorem am_k98_ok : am_c98.all (am_eok am_s98) = true := by decide +kernel
theorem am_h98_ok : am_sok am_s98 = true := by decide +kernel
theorem am_k99_ok : am_c99.all (am_eok am_s99) = true := by decide +kernel
theorem am_h99_ok : am_sok am_s99 = true := by decide +kernel
theorem am_k100_0_ok : am_c100_0.all (am_eok am_s100) = true := by decide +kernel
theorem am_k100_1_ok : am_c100_1.all (am_eok am_s100) = true := by decide +kernel
theorem am_k100_ok : am_c100.all (am_eok am_s100) = true := am_all_app am_k100_0_ok am_k100_1_ok
theorem am_h100_ok : am_sok am_s100 = true := by decide +kernel
theorem am_k101_ok : am_c101.all (am_eok am_s101) = true := by decide +kernel
theorem am_h101_ok : am_sok am_s101 = true := by decide +kernel
theorem am_k102_ok : am_c102.all (am_eok am_s102) = true := by decide +kernel
theorem am_h102_ok : am_sok am_s102 = true := by decide +kernel
theorem am_k103_ok : am_c103.all (am_eok am_s103) = true := by decide +kernel
theorem am_h103_ok : am_sok am_s103 = true := by decide +kernel
theorem am_k104_ok : am_c104.all (am_eok am_s104) = true := by decide +kernel
theorem am_h104_ok : am_sok am_s104 = true := by decide +kernel
theorem am_k105_ok : am_c105.all (am_eok am_s105) = true := by decide +kernel
theorem am_h105_ok : am_sok am_s105 = true := by decide +kernel
theorem am_k106_ok : am_c106.all (am_eok am_s106) = true := by decide +kernel
theorem am_h106_ok : am_sok am_s106 = true := by decide +kernel
theorem am_k107_ok : am_c107.all (am_eok am_s107) = true := by decide +kernel
theorem am_h107_ok : am_sok am_s107 = true := by decide +kernel
theorem am_k108_0_ok : am_c108_0.all (am_eok am_s108) = true := by decide +kernel
theorem am_k108_1_ok : am_c108_1.all (am_eok am_s108) = true := by decide +kernel
theorem am_k108_ok : am_c108.all (am_eok am_s108) = true := am_all_app am_k108_0_ok am_k108_1_ok
theorem am_h108_ok : am_sok am_s108 = true := by decide +kernel
theorem am_k109_ok : am_c109.all (am_eok am_s109) = true := by decide +kernel
theorem am_h109_ok : am_sok am_s109 = true := by decide +kernel
theorem am_k110_ok : am_c110.all (am_eok am_s110) = true := by decide +kernel
theorem am_h110_ok : am_sok am_s110 = true := by decide +kernel
theorem am_k111_ok : am_c111.all (am_eok am_s111) = true := by decide +kernel
theorem am_h111_ok : am_sok am_s111 = true := by decide +kernel
theorem am_k112_ok : am_c112.all (am_eok am_s112) = true := by decide +kernel
theorem am_h112_ok : am_sok am_s112 = true := by decide +kernel
theorem am_k113_ok : am_c113.all (am_eok am_s113) = true := by decide +kernel
theorem am_h113_ok : am_sok am_s113 = true := by decide +kernel
theorem am_k114_ok : am_c114.all (am_eok am_s114) = true := by decide +kernel
theorem am_h114_ok : am_sok am_s114 = true := by decide +kernel
theorem am_k115_ok : am_c115.all (am_eok am_s115) = true := by decide +kernel
theorem am_h115_ok : am_sok am_s115 = true := by decide +kernel
theorem am_k116_ok : am_c116.all (am_eok am_s116) = true := by decide +kernel
theorem am_h116_ok : am_sok am_s116 = true := by decide +kernel
theorem am_k117_ok : am_c117.all (am_eok am_s117) = true := by decide +kernel
theorem am_h117_ok : am_sok am_s117 = true := by decide +kernel
theorem am_k118_ok : am_c118.all (am_eok am_s118) = true := by decide +kernel
theorem am_h118_ok : am_sok am_s118 = true := by decide +kernel
theorem am_k119_ok : am_c119.all (am_eok am_s119) = true := by decide +kernel
theorem am_h119_ok : am_sok am_s119 = true := by decide +kernel
theorem am_k120_ok : am_c120.all (am_eok am_s120) = true := by decide +kernel
theorem am_h120_ok : am_sok am_s120 = true := by decide +kernel
theorem am_k121_ok : am_c121.all (am_eok am_s121) = true := by decide +kernel
theorem am_h121_ok : am_sok am_s121 = true := by decide +kernel
theorem am_k122_ok : am_c122.all (am_eok am_s122) = true := by decide +kernel
theorem am_h122_ok : am_sok am_s122 = true := by decide +kernel
theorem am_k123_ok : am_c123.all (am_eok am_s123) = true := by decide +kernel
theorem am_h123_ok : am_sok am_s123 = true := by decide +kernel
theorem am_k124_ok : am_c124.all (am_eok am_s124) = true := by decide +kernel
theorem am_h124_ok : am_sok am_s124 = true := by decide +kernel
theorem am_k125_ok : am_c125.all (am_eok am_s125) = true := by decide +kernel
theorem am_h125_ok : am_sok am_s125 = true := by decide +kernel
theorem am_k126_0_ok : am_c126_0.all (am_eok am_s126) = true := by decide +kernel
