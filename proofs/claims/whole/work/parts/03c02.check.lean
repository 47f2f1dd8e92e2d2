/-! Every table agrees with the class files: checked by counting. -/
theorem am_h22_ok : am_sok am_s22 = true := by decide +kernel
theorem am_k23_ok : am_c23.all (am_eok am_s23) = true := by decide +kernel
theorem am_h23_ok : am_sok am_s23 = true := by decide +kernel
theorem am_k24_ok : am_c24.all (am_eok am_s24) = true := by decide +kernel
theorem am_h24_ok : am_sok am_s24 = true := by decide +kernel
theorem am_k25_ok : am_c25.all (am_eok am_s25) = true := by decide +kernel
theorem am_h25_ok : am_sok am_s25 = true := by decide +kernel
theorem am_k26_ok : am_c26.all (am_eok am_s26) = true := by decide +kernel
theorem am_h26_ok : am_sok am_s26 = true := by decide +kernel
theorem am_k27_ok : am_c27.all (am_eok am_s27) = true := by decide +kernel
theorem am_h27_ok : am_sok am_s27 = true := by decide +kernel
theorem am_k28_ok : am_c28.all (am_eok am_s28) = true := by decide +kernel
theorem am_h28_ok : am_sok am_s28 = true := by decide +kernel
theorem am_k29_ok : am_c29.all (am_eok am_s29) = true := by decide +kernel
theorem am_h29_ok : am_sok am_s29 = true := by decide +kernel
theorem am_k30_ok : am_c30.all (am_eok am_s30) = true := by decide +kernel
theorem am_h30_ok : am_sok am_s30 = true := by decide +kernel
theorem am_k31_ok : am_c31.all (am_eok am_s31) = true := by decide +kernel
theorem am_h31_ok : am_sok am_s31 = true := by decide +kernel
theorem am_k32_ok : am_c32.all (am_eok am_s32) = true := by decide +kernel
theorem am_h32_ok : am_sok am_s32 = true := by decide +kernel
theorem am_k33_0_ok : am_c33_0.all (am_eok am_s33) = true := by decide +kernel
theorem am_k33_1_ok : am_c33_1.all (am_eok am_s33) = true := by decide +kernel
theorem am_k33_ok : am_c33.all (am_eok am_s33) = true := am_all_app am_k33_0_ok am_k33_1_ok
theorem am_h33_ok : am_sok am_s33 = true := by decide +kernel
theorem am_k34_ok : am_c34.all (am_eok am_s34) = true := by decide +kernel
theorem am_h34_ok : am_sok am_s34 = true := by decide +kernel
theorem am_k35_ok : am_c35.all (am_eok am_s35) = true := by decide +kernel
theorem am_h35_ok : am_sok am_s35 = true := by decide +kernel
theorem am_k36_ok : am_c36.all (am_eok am_s36) = true := by decide +kernel
theorem am_h36_ok : am_sok am_s36 = true := by decide +kernel
theorem am_k37_ok : am_c37.all (am_eok am_s37) = true := by decide +kernel
theorem am_h37_ok : am_sok am_s37 = true := by decide +kernel
theorem am_k38_ok : am_c38.all (am_eok am_s38) = true := by decide +kernel
theorem am_h38_ok : am_sok am_s38 = true := by decide +kernel
theorem am_k39_ok : am_c39.all (am_eok am_s39) = true := by decide +kernel
theorem am_h39_ok : am_sok am_s39 = true := by decide +kernel
theorem am_k40_ok : am_c40.all (am_eok am_s40) = true := by decide +kernel
theorem am_h40_ok : am_sok am_s40 = true := by decide +kernel
theorem am_k41_ok : am_c41.all (am_eok am_s41) = true := by decide +kernel
theorem am_h41_ok : am_sok am_s41 = true := by decide +kernel
theorem am_k42_ok : am_c42.all (am_eok am_s42) = true := by decide +kernel
theorem am_h42_ok : am_sok am_s42 = true := by decide +kernel
theorem am_k43_ok : am_c43.all (am_eok am_s43) = true := by decide +kernel
theorem am_h43_ok : am_sok am_s43 = true := by decide +kernel
theorem am_k44_ok : am_c44.all (am_eok am_s44) = true := by decide +kernel
theorem am_h44_ok : am_sok am_s44 = true := by decide +kernel
theorem am_k45_ok : am_c45.all (am_eok am_s45) = true := by decide +kernel
theorem am_h45_ok : am_sok am_s45 = true := by decide +kernel
theorem am_k46_ok : am_c46.all (am_eok am_s46) = true := by decide +kernel
theorem am_h46_ok : am_sok am_s46 = true := by decide +kernel
theorem am_k47_ok : am_c47.all (am_eok am_s47) = true := by decide +kernel
theorem am_h47_ok : am_sok am_s47 = true := by decide +kernel
theorem am_k48_ok : am_c48.all (am_eok am_s48) = true := by decide +kernel
theorem am_h48_ok : am_sok am_s48 = true := by decide +kernel
theorem am_k49_ok : am_c49.all (am_eok am_s49) = true := by decide +kernel
theorem am_h49_ok : am_sok am_s49 = true := by decide +kernel
theorem am_k50_ok : am_c50.all (am_eok am_s50) = true := by decide +kernel
theorem am_h50_ok : am_sok am_s50 = true := by decide +kernel
theorem am_k51_ok : am_c51.all (am_eok am_s51) = true := by decide +kernel
theorem am_h51_ok : am_sok am_s51 = true := by decide +kernel
theorem am_k52_ok : am_c52.all (am_eok am_s52) = true := by decide +kernel
theorem am_h52_ok : am_sok am_s52 = true := by decide +kernel
theorem am_k53_ok : am_c53.all (am_eok am_s53) = true := by decide +kernel
theorem am_h53_ok : am_sok am_s53 = true := by decide +kernel
theorem am_k54_ok : am_c54.all (am_eok am_s54) = true := by decide +kernel
theorem am_h54_ok : am_sok am_s54 = true := by decide +kernel
theorem am_k55_ok : am_c55.all (am_eok am_s55) = true := by decide +kernel
theorem am_h55_ok : am_sok am_s55 = true := by decide +kernel
theorem am_k56_ok : am_c56.all (am_eok am_s56) = true := by decide +kernel
theorem am_h56_ok : am_sok am_s56 = true := by decide +kernel
theorem am_k57_ok : am_c57.all (am_eok am_s57) = true := by decide +kernel
theorem am_h57_ok : am_sok am_s57 = true := by decide +kernel
theorem am_k58_ok : am_c58.all (am_eok am_s58) = true := by decide +kernel
theorem am_h58_ok : am_sok am_s58 = true := by decide +kernel
theorem am_k59_ok : am_c59.all (am_eok am_s59) = true := by decide +kernel
theorem am_h59_ok : am_sok am_s59 = true := by decide +kernel
theorem am_k60_ok : am_c60.all (am_eok am_s60) = true := by decide +kernel
theorem am_h60_ok : am_sok am_s60 = true := by decide +kernel
theorem am_k61_ok : am_c61.all (am_eok am_s61) = true := by decide +kernel
theorem am_h61_ok : am_sok am_s61 = true := by decide +kernel
theorem am_k62_0_ok : am_c62_0.all (am_eok am_s62) = true := by decide +kernel
theorem am_k62_1_ok : am_c62_1.all (am_eok am_s62) = true := by decide +kernel
theorem am_k62_ok : am_c62.all (am_eok am_s62) = true := am_all_app am_k62_0_ok am_k62_1_ok
theorem am_h62_ok : am_sok am_s62 = true := by decide +kernel
theorem am_k63_ok : am_c63.all (am_eok am_s63) = true := by decide +kernel
theorem am_h63_ok : am_sok am_s63 = true := by decide +kernel
theorem am_k64_ok : am_c64.all (am_eok am_s64) = true := by decide +kernel
theorem am_h64_ok : am_sok am_s64 = true := by decide +kernel
theorem am_k65_ok : am_c65.all (am_eok am_s65) = true := by decide +kernel
theorem am_h65_ok : am_sok am_s65 = true := by decide +kernel
theorem am_k66_ok : am_c66.all (am_eok am_s66) = true := by decide +kernel
theorem am_h66_ok : am_sok am_s66 = true := by decide +kernel
theorem am_k67_ok : am_c67.all (am_eok am_s67) = true := by decide +kernel
theorem am_h67_ok : am_sok am_s67 = true := by decide +kernel
theorem am_k68_ok : am_c68.all (am_eok am_s68) = true := by decide +kernel
theorem am_h68_ok : am_sok am_s68 = true := by decide +kernel
theorem am_k69_ok : am_c69.all (am_eok am_s69) = true := by decide +kernel
theorem am_h69_ok : am_sok am_s69 = true := by decide +kernel
theorem am_k70_ok : am_c70.all (am_eok am_s70) = true := by decide +kernel
theorem am_h70_ok : am_sok am_s70 = true := by decide +kernel
theorem am_k71_ok : am_c71.all (am_eok am_s71) = true := by decide +kernel
theorem am_h71_ok : am_sok am_s71 = true := by decide +kernel
theorem am_k72_ok : am_c72.all (am_eok am_s72) = true := by decide +kernel
theorem am_h72_ok : am_sok am_s72 = true := by decide +kernel
theorem am_k73_ok : am_c73.all (am_eok am_s73) = true := by decide +kernel
theorem am_h73_ok : am_sok am_s73 = true := by decide +kernel
theorem am_k74_ok : am_c74.all (am_eok am_s74) = true := by decide +kernel
theorem am_h74_ok : am_sok am_s74 = true := by decide +kernel
theorem am_k75_ok : am_c75.all (am_eok am_s75) = true := by decide +kernel
theorem am_h75_ok : am_sok am_s75 = true := by decide +kernel
theorem am_k76_ok : am_c76.all (am_eok am_s76) = true := by decide +kernel
theorem am_h76_ok : am_sok am_s76 = true := by decide +kernel
theorem am_k77_0_ok : am_c77_0.all (am_eok am_s77) = true := by decide +kernel
theorem am_k77_1_ok : am_c77_1.all (am_eok am_s77) = true := by decide +kernel
theorem am_k77_ok : am_c77.all (am_eok am_s77) = true := am_all_app am_k77_0_ok am_k77_1_ok
theorem am_h77_ok : am_sok am_s77 = true := by decide +kernel
theorem am_k78_ok : am_c78.all (am_eok am_s78) = true := by decide +kernel
theorem am_h78_ok : am_sok am_s78 = true := by decide +kernel
theorem am_k79_ok : am_c79.all (am_eok am_s79) = true := by decide +kernel
theorem am_h79_ok : am_sok am_s79 = true := by decide +kernel
theorem am_k80_ok : am_c80.all (am_eok am_s80) = true := by decide +kernel
theorem am_h80_ok : am_sok am_s80 = true := by decide +kernel
theorem am_k81_ok : am_c81.all (am_eok am_s81) = true := by decide +kernel
theorem am_h81_ok : am_sok am_s81 = true := by decide +kernel
theorem am_k82_ok : am_c82.all (am_eok am_s82) = true := by decide +kernel
theorem am_h82_ok : am_sok am_s82 = true := by decide +kernel
theorem am_k83_ok : am_c83.all (am_eok am_s83) = true := by decide +kernel
theorem am_h83_ok : am_sok am_s83 = true := by decide +kernel
theorem am_k84_ok : am_c84.all (am_eok am_s84) = true := by decide +kernel
theorem am_h84_ok : am_sok am_s84 = true := by decide +kernel
theorem am_k85_ok : am_c85.all (am_eok am_s85) = true := by decide +kernel
theorem am_h85_ok : am_sok am_s85 = true := by decide +kernel
theorem am_k86_ok : am_c86.all (am_eok am_s86) = true := by decide +kernel
theorem am_h86_ok : am_sok am_s86 = true := by decide +kernel
theorem am_k87_ok : am_c87.all (am_eok am_s87) = true := by decide +kernel
theorem am_h87_ok : am_sok am_s87 = true := by decide +kernel
theorem am_k88_ok : am_c88.all (am_eok am_s88) = true := by decide +kernel
