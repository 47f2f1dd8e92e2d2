/-! Every table agrees with the class files: checked by counting. -/
theorem am_h264_ok : am_sok am_s264 = true := by decide +kernel
theorem am_k265_ok : am_c265.all (am_eok am_s265) = true := by decide +kernel
theorem am_h265_ok : am_sok am_s265 = true := by decide +kernel
theorem am_k266_ok : am_c266.all (am_eok am_s266) = true := by decide +kernel
theorem am_h266_ok : am_sok am_s266 = true := by decide +kernel
theorem am_k267_ok : am_c267.all (am_eok am_s267) = true := by decide +kernel
theorem am_h267_ok : am_sok am_s267 = true := by decide +kernel
theorem am_k268_ok : am_c268.all (am_eok am_s268) = true := by decide +kernel
theorem am_h268_ok : am_sok am_s268 = true := by decide +kernel
theorem am_k269_ok : am_c269.all (am_eok am_s269) = true := by decide +kernel
theorem am_h269_ok : am_sok am_s269 = true := by decide +kernel
theorem am_k270_0_ok : am_c270_0.all (am_eok am_s270) = true := by decide +kernel
theorem am_k270_1_ok : am_c270_1.all (am_eok am_s270) = true := by decide +kernel
theorem am_k270_ok : am_c270.all (am_eok am_s270) = true := am_all_app am_k270_0_ok am_k270_1_ok
theorem am_h270_ok : am_sok am_s270 = true := by decide +kernel
theorem am_k271_ok : am_c271.all (am_eok am_s271) = true := by decide +kernel
theorem am_h271_ok : am_sok am_s271 = true := by decide +kernel
theorem am_k272_ok : am_c272.all (am_eok am_s272) = true := by decide +kernel
theorem am_h272_ok : am_sok am_s272 = true := by decide +kernel
theorem am_k273_ok : am_c273.all (am_eok am_s273) = true := by decide +kernel
theorem am_h273_ok : am_sok am_s273 = true := by decide +kernel
theorem am_k274_ok : am_c274.all (am_eok am_s274) = true := by decide +kernel
theorem am_h274_ok : am_sok am_s274 = true := by decide +kernel
theorem am_k275_ok : am_c275.all (am_eok am_s275) = true := by decide +kernel
theorem am_h275_ok : am_sok am_s275 = true := by decide +kernel
theorem am_k276_ok : am_c276.all (am_eok am_s276) = true := by decide +kernel
theorem am_h276_ok : am_sok am_s276 = true := by decide +kernel
theorem am_k277_ok : am_c277.all (am_eok am_s277) = true := by decide +kernel
theorem am_h277_ok : am_sok am_s277 = true := by decide +kernel
