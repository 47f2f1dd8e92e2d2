/-! Every table agrees with the class files: checked by counting. -/
theorem am_h73_ok : am_sok am_s73 = true := by decide +kernel
theorem am_k74_ok : am_c74.all (am_eok am_s74) = true := by decide +kernel
theorem am_h74_ok : am_sok am_s74 = true := by decide +kernel
theorem am_k75_ok : am_c75.all (am_eok am_s75) = true := by decide +kernel
theorem am_h75_ok : am_sok am_s75 = true := by decide +kernel
theorem am_k76_ok : am_c76.all (am_eok am_s76) = true := by decide +kernel
theorem am_h76_ok : am_sok am_s76 = true := by decide +kernel
theorem am_k77_0_ok : am_c77_0.all (am_eok am_s77) = true := by decide +kernel
theorem am_k77_1_ok : am_c77_1.all (am_eok am_s77) = true := by decide +kernel
theorem am_k77_ok : am_c77.all (am_eok am_s77) = true := am_all_app am_k77_0_ok am_k77_1_ok
theorem am_h77_ok : am_sok am_s77 = true := by decide +kernel
theorem am_k78_ok : am_c78.all (am_eok am_s78) = true := by decide +kernel
theorem am_h78_ok : am_sok am_s78 = true := by decide +kernel
theorem am_k79_ok : am_c79.all (am_eok am_s79) = true := by decide +kernel
theorem am_h79_ok : am_sok am_s79 = true := by decide +kernel
theorem am_k80_ok : am_c80.all (am_eok am_s80) = true := by decide +kernel
theorem am_h80_ok : am_sok am_s80 = true := by decide +kernel
theorem am_k81_ok : am_c81.all (am_eok am_s81) = true := by decide +kernel
theorem am_h81_ok : am_sok am_s81 = true := by decide +kernel
theorem am_k82_ok : am_c82.all (am_eok am_s82) = true := by decide +kernel
theorem am_h82_ok : am_sok am_s82 = true := by decide +kernel
theorem am_k83_ok : am_c83.all (am_eok am_s83) = true := by decide +kernel
theorem am_h83_ok : am_sok am_s83 = true := by decide +kernel
theorem am_k84_ok : am_c84.all (am_eok am_s84) = true := by decide +kernel
theorem am_h84_ok : am_sok am_s84 = true := by decide +kernel
theorem am_k85_ok : am_c85.all (am_eok am_s85) = true := by decide +kernel
theorem am_h85_ok : am_sok am_s85 = true := by decide +kernel
theorem am_k86_ok : am_c86.all (am_eok am_s86) = true := by decide +kernel
theorem am_h86_ok : am_sok am_s86 = true := by decide +kernel
theorem am_k87_ok : am_c87.all (am_eok am_s87) = true := by decide +kernel
theorem am_h87_ok : am_sok am_s87 = true := by decide +kernel
theorem am_k88_ok : am_c88.all (am_eok am_s88) = true := by decide +kernel
theorem am_h88_ok : am_sok am_s88 = true := by decide +kernel
theorem am_k89_ok : am_c89.all (am_eok am_s89) = true := by decide +kernel
theorem am_h89_ok : am_sok am_s89 = true := by decide +kernel
theorem am_k90_ok : am_c90.all (am_eok am_s90) = true := by decide +kernel
theorem am_h90_ok : am_sok am_s90 = true := by decide +kernel
theorem am_k91_0_ok : am_c91_0.all (am_eok am_s91) = true := by decide +kernel
theorem am_k91_1_ok : am_c91_1.all (am_eok am_s91) = true := by decide +kernel
theorem am_k91_ok : am_c91.all (am_eok am_s91) = true := am_all_app am_k91_0_ok am_k91_1_ok
theorem am_h91_ok : am_sok am_s91 = true := by decide +kernel
theorem am_k92_ok : am_c92.all (am_eok am_s92) = true := by decide +kernel
theorem am_h92_ok : am_sok am_s92 = true := by decide +kernel
theorem am_k93_ok : am_c93.all (am_eok am_s93) = true := by decide +kernel
theorem am_h93_ok : am_sok am_s93 = true := by decide +kernel
theorem am_k94_ok : am_c94.all (am_eok am_s94) = true := by decide +kernel
theorem am_h94_ok : am_sok am_s94 = true := by decide +kernel
theorem am_k95_0_ok : am_c95_0.all (am_eok am_s95) = true := by decide +kernel
theorem am_k95_1_ok : am_c95_1.all (am_eok am_s95) = true := by decide +kernel
theorem am_k95_ok : am_c95.all (am_eok am_s95) = true := am_all_app am_k95_0_ok am_k95_1_ok
theorem am_h95_ok : am_sok am_s95 = true := by decide +kernel
theorem am_k96_ok : am_c96.all (am_eok am_s96) = true := by decide +kernel
theorem am_h96_ok : am_sok am_s96 = true := by decide +kernel
theorem am_k97_ok : am_c97.all (am_eok am_s97) = true := by decide +kernel
theorem am_h97_ok : am_sok am_s97 = true := by decide +kernel
theorem am_k98_ok : am_c98.all (am_eok am_s98) = true := by decide +kernel
theorem am_h98_ok : am_sok am_s98 = true := by decide +kernel
theorem am_k99_ok : am_c99.all (am_eok am_s99) = true := by decide +kernel
