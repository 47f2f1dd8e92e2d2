/-! Every table agrees with the class files: checked by counting. -/
theorem am_k250_1_ok : am_c250_1.all (am_eok am_s250) = true := by decide +kernel
theorem am_k250_ok : am_c250.all (am_eok am_s250) = true := am_all_app am_k250_0_ok am_k250_1_ok
theorem am_h250_ok : am_sok am_s250 = true := by decide +kernel
theorem am_k251_ok : am_c251.all (am_eok am_s251) = true := by decide +kernel
theorem am_h251_ok : am_sok am_s251 = true := by decide +kernel
theorem am_k252_ok : am_c252.all (am_eok am_s252) = true := by decide +kernel
theorem am_h252_ok : am_sok am_s252 = true := by decide +kernel
theorem am_k253_ok : am_c253.all (am_eok am_s253) = true := by decide +kernel
theorem am_h253_ok : am_sok am_s253 = true := by decide +kernel
theorem am_k254_0_ok : am_c254_0.all (am_eok am_s254) = true := by decide +kernel
theorem am_k254_1_ok : am_c254_1.all (am_eok am_s254) = true := by decide +kernel
theorem am_k254_ok : am_c254.all (am_eok am_s254) = true := am_all_app am_k254_0_ok am_k254_1_ok
theorem am_h254_ok : am_sok am_s254 = true := by decide +kernel
theorem am_k255_ok : am_c255.all (am_eok am_s255) = true := by decide +kernel
theorem am_h255_ok : am_sok am_s255 = true := by decide +kernel
theorem am_k256_ok : am_c256.all (am_eok am_s256) = true := by decide +kernel
theorem am_h256_ok : am_sok am_s256 = true := by decide +kernel
theorem am_k257_ok : am_c257.all (am_eok am_s257) = true := by decide +kernel
theorem am_h257_ok : am_sok am_s257 = true := by decide +kernel
theorem am_k258_ok : am_c258.all (am_eok am_s258) = true := by decide +kernel
theorem am_h258_ok : am_sok am_s258 = true := by decide +kernel
theorem am_k259_ok : am_c259.all (am_eok am_s259) = true := by decide +kernel
theorem am_h259_ok : am_sok am_s259 = true := by decide +kernel
theorem am_k260_0_ok : am_c260_0.all (am_eok am_s260) = true := by decide +kernel
theorem am_k260_1_ok : am_c260_1.all (am_eok am_s260) = true := by decide +kernel
theorem am_k260_ok : am_c260.all (am_eok am_s260) = true := am_all_app am_k260_0_ok am_k260_1_ok
theorem am_h260_ok : am_sok am_s260 = true := by decide +kernel
theorem am_k261_ok : am_c261.all (am_eok am_s261) = true := by decide +kernel
theorem am_h261_ok : am_sok am_s261 = true := by decide +kernel
theorem am_k262_ok : am_c262.all (am_eok am_s262) = true := by decide +kernel
theorem am_h262_ok : am_sok am_s262 = true := by decide +kernel
theorem am_k263_ok : am_c263.all (am_eok am_s263) = true := by decide +kernel
theorem am_h263_ok : am_sok am_s263 = true := by decide +kernel
theorem am_k264_ok : am_c264.all (am_eok am_s264) = true := by decide +kernel
theorem am_h264_ok : am_sok am_s264 = true := by decide +kernel
theorem am_k265_ok : am_c265.all (am_eok am_s265) = true := by decide +kernel
theorem am_h265_ok : am_sok am_s265 = true := by decide +kernel
theorem am_k266_ok : am_c266.all (am_eok am_s266) = true := by decide +kernel
theorem am_h266_ok : am_sok am_s266 = true := by decide +kernel
theorem am_k267_ok : am_c267.all (am_eok am_s267) = true := by decide +kernel
theorem am_h267_ok : am_sok am_s267 = true := by decide +kernel
theorem am_k268_ok : am_c268.all (am_eok am_s268) = true := by decide +kernel
theorem am_h268_ok : am_sok am_s268 = true := by decide +kernel
theorem am_k269_ok : am_c269.all (am_eok am_s269) = true := by decide +kernel
theorem am_h269_ok : am_sok am_s269 = true := by decide +kernel
theorem am_k270_0_ok : am_c270_0.all (am_eok am_s270) = true := by decide +kernel
theorem am_k270_1_ok : am_c270_1.all (am_eok am_s270) = true := by decide +kernel
theorem am_k270_ok : am_c270.all (am_eok am_s270) = true := am_all_app am_k270_0_ok am_k270_1_ok
theorem am_h270_ok : am_sok am_s270 = true := by decide +kernel
theorem am_k271_ok : am_c271.all (am_eok am_s271) = true := by decide +kernel
theorem am_h271_ok : am_sok am_s271 = true := by decide +kernel
theorem am_k272_ok : am_c272.all (am_eok am_s272) = true := by decide +kernel
theorem am_h272_ok : am_sok am_s272 = true := by decide +kernel
theorem am_k273_ok : am_c273.all (am_eok am_s273) = true := by decide +kernel
theorem am_h273_ok : am_sok am_s273 = true := by decide +kernel
theorem am_k274_ok : am_c274.all (am_eok am_s274) = true := by decide +kernel
theorem am_h274_ok : am_sok am_s274 = true := by decide +kernel
theorem am_k275_ok : am_c275.all (am_eok am_s275) = true := by decide +kernel
theorem am_h275_ok : am_sok am_s275 = true := by decide +kernel
theorem am_k276_ok : am_c276.all (am_eok am_s276) = true := by decide +kernel
theorem am_h276_ok : am_sok am_s276 = true := by decide +kernel
theorem am_k277_ok : am_c277.all (am_eok am_s277) = true := by decide +kernel
theorem am_h277_ok : am_sok am_s277 = true := by decide +kernel
