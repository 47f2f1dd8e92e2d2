/-! Every table agrees with the class files: checked by counting. -/
theorem am_k244_2_ok : am_c244_2.all (am_eok am_s244) = true := by decide +kernel
theorem am_k244_ok : am_c244.all (am_eok am_s244) = true := am_all_app am_k244_0_ok (am_all_app am_k244_1_ok am_k244_2_ok)
theorem am_h244_ok : am_sok am_s244 = true := by decide +kernel
theorem am_k245_ok : am_c245.all (am_eok am_s245) = true := by decide +kernel
theorem am_h245_ok : am_sok am_s245 = true := by decide +kernel
theorem am_k246_ok : am_c246.all (am_eok am_s246) = true := by decide +kernel
theorem am_h246_ok : am_sok am_s246 = true := by decide +kernel
theorem am_k247_ok : am_c247.all (am_eok am_s247) = true := by decide +kernel
theorem am_h247_ok : am_sok am_s247 = true := by decide +kernel
theorem am_k248_ok : am_c248.all (am_eok am_s248) = true := by decide +kernel
theorem am_h248_ok : am_sok am_s248 = true := by decide +kernel
theorem am_k249_ok : am_c249.all (am_eok am_s249) = true := by decide +kernel
theorem am_h249_ok : am_sok am_s249 = true := by decide +kernel
theorem am_k250_0_ok : am_c250_0.all (am_eok am_s250) = true := by decide +kernel
theorem am_k250_1_ok : am_c250_1.all (am_eok am_s250) = true := by decide +kernel
theorem am_k250_ok : am_c250.all (am_eok am_s250) = true := am_all_app am_k250_0_ok am_k250_1_ok
theorem am_h250_ok : am_sok am_s250 = true := by decide +kernel
theorem am_k251_ok : am_c251.all (am_eok am_s251) = true := by decide +kernel
theorem am_h251_ok : am_sok am_s251 = true := by decide +kernel
theorem am_k252_ok : am_c252.all (am_eok am_s252) = true := by decide +kernel
theorem am_h252_ok : am_sok am_s252 = true := by decide +kernel
theorem am_k253_ok : am_c253.all (am_eok am_s253) = true := by decide +kernel
theorem am_h253_ok : am_sok am_s253 = true := by decide +kernel
theorem am_k254_0_ok : am_c254_0.all (am_eok am_s254) = true := by decide +kernel
theorem am_k254_1_ok : am_c254_1.all (am_eok am_s254) = true := by decide +kernel
theorem am_k254_ok : am_c254.all (am_eok am_s254) = true := am_all_app am_k254_0_ok am_k254_1_ok
theorem am_h254_ok : am_sok am_s254 = true := by decide +kernel
theorem am_k255_ok : am_c255.all (am_eok am_s255) = true := by decide +kernel
theorem am_h255_ok : am_sok am_s255 = true := by decide +kernel
theorem am_k256_ok : am_c256.all (am_eok am_s256) = true := by decide +kernel
theorem am_h256_ok : am_sok am_s256 = true := by decide +kernel
theorem am_k257_ok : am_c257.all (am_eok am_s257) = true := by decide +kernel
theorem am_h257_ok : am_sok am_s257 = true := by decide +kernel
theorem am_k258_ok : am_c258.all (am_eok am_s258) = true := by decide +kernel
theorem am_h258_ok : am_sok am_s258 = true := by decide +kernel
theorem am_k259_ok : am_c259.all (am_eok am_s259) = true := by decide +kernel
theorem am_h259_ok : am_sok am_s259 = true := by decide +kernel
theorem am_k260_0_ok : am_c260_0.all (am_eok am_s260) = true := by decide +kernel
theorem am_k260_1_ok : am_c260_1.all (am_eok am_s260) = true := by decide +kernel
theorem am_k260_ok : am_c260.all (am_eok am_s260) = true := am_all_app am_k260_0_ok am_k260_1_ok
theorem am_h260_ok : am_sok am_s260 = true := by decide +kernel
theorem am_k261_ok : am_c261.all (am_eok am_s261) = true := by decide +kernel
theorem am_h261_ok : am_sok am_s261 = true := by decide +kernel
theorem am_k262_ok : am_c262.all (am_eok am_s262) = true := by decide +kernel
theorem am_h262_ok : am_sok am_s262 = true := by decide +kernel
theorem am_k263_ok : am_c263.all (am_eok am_s263) = true := by decide +kernel
theorem am_h263_ok : am_sok am_s263 = true := by decide +kernel
theorem am_k264_ok : am_c264.all (am_eok am_s264) = true := by decide +kernel
