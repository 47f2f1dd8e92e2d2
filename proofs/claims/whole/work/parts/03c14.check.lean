/-! Every table agrees with the class files: checked by counting. -/
theorem am_h153_ok : am_sok am_s153 = true := by decide +kernel
theorem am_k154_0_ok : am_c154_0.all (am_eok am_s154) = true := by decide +kernel
theorem am_k154_1_ok : am_c154_1.all (am_eok am_s154) = true := by decide +kernel
theorem am_k154_ok : am_c154.all (am_eok am_s154) = true := am_all_app am_k154_0_ok am_k154_1_ok
theorem am_h154_ok : am_sok am_s154 = true := by decide +kernel
theorem am_k155_0_ok : am_c155_0.all (am_eok am_s155) = true := by decide +kernel
theorem am_k155_1_ok : am_c155_1.all (am_eok am_s155) = true := by decide +kernel
theorem am_k155_ok : am_c155.all (am_eok am_s155) = true := am_all_app am_k155_0_ok am_k155_1_ok
theorem am_h155_ok : am_sok am_s155 = true := by decide +kernel
theorem am_k156_0_ok : am_c156_0.all (am_eok am_s156) = true := by decide +kernel
theorem am_k156_1_ok : am_c156_1.all (am_eok am_s156) = true := by decide +kernel
theorem am_k156_ok : am_c156.all (am_eok am_s156) = true := am_all_app am_k156_0_ok am_k156_1_ok
theorem am_h156_ok : am_sok am_s156 = true := by decide +kernel
theorem am_k157_ok : am_c157.all (am_eok am_s157) = true := by decide +kernel
theorem am_h157_ok : am_sok am_s157 = true := by decide +kernel
theorem am_k158_ok : am_c158.all (am_eok am_s158) = true := by decide +kernel
theorem am_h158_ok : am_sok am_s158 = true := by decide +kernel
theorem am_k159_ok : am_c159.all (am_eok am_s159) = true := by decide +kernel
theorem am_h159_ok : am_sok am_s159 = true := by decide +kernel
theorem am_k160_ok : am_c160.all (am_eok am_s160) = true := by decide +kernel
theorem am_h160_ok : am_sok am_s160 = true := by decide +kernel
theorem am_k161_ok : am_c161.all (am_eok am_s161) = true := by decide +kernel
theorem am_h161_ok : am_sok am_s161 = true := by decide +kernel
theorem am_k162_ok : am_c162.all (am_eok am_s162) = true := by decide +kernel
theorem am_h162_ok : am_sok am_s162 = true := by decide +kernel
theorem am_k163_ok : am_c163.all (am_eok am_s163) = true := by decide +kernel
theorem am_h163_ok : am_sok am_s163 = true := by decide +kernel
theorem am_k164_ok : am_c164.all (am_eok am_s164) = true := by decide +kernel
theorem am_h164_ok : am_sok am_s164 = true := by decide +kernel
theorem am_k165_ok : am_c165.all (am_eok am_s165) = true := by decide +kernel
theorem am_h165_ok : am_sok am_s165 = true := by decide +kernel
theorem am_k166_ok : am_c166.all (am_eok am_s166) = true := by decide +kernel
theorem am_h166_ok : am_sok am_s166 = true := by decide +kernel
theorem am_k167_ok : am_c167.all (am_eok am_s167) = true := by decide +kernel
theorem am_h167_ok : am_sok am_s167 = true := by decide +kernel
theorem am_k168_ok : am_c168.all (am_eok am_s168) = true := by decide +kernel
theorem am_h168_ok : am_sok am_s168 = true := by decide +kernel
theorem am_k169_ok : am_c169.all (am_eok am_s169) = true := by decide +kernel
theorem am_h169_ok : am_sok am_s169 = true := by decide +kernel
theorem am_k170_ok : am_c170.all (am_eok am_s170) = true := by decide +kernel
theorem am_h170_ok : am_sok am_s170 = true := by decide +kernel
theorem am_k171_ok : am_c171.all (am_eok am_s171) = true := by decide +kernel
theorem am_h171_ok : am_sok am_s171 = true := by decide +kernel
theorem am_k172_ok : am_c172.all (am_eok am_s172) = true := by decide +kernel
theorem am_h172_ok : am_sok am_s172 = true := by decide +kernel
theorem am_k173_ok : am_c173.all (am_eok am_s173) = true := by decide +kernel
theorem am_h173_ok : am_sok am_s173 = true := by decide +kernel
theorem am_k174_ok : am_c174.all (am_eok am_s174) = true := by decide +kernel
theorem am_h174_ok : am_sok am_s174 = true := by decide +kernel
theorem am_k175_ok : am_c175.all (am_eok am_s175) = true := by decide +kernel
theorem am_h175_ok : am_sok am_s175 = true := by decide +kernel
theorem am_k176_ok : am_c176.all (am_eok am_s176) = true := by decide +kernel
theorem am_h176_ok : am_sok am_s176 = true := by decide +kernel
theorem am_k177_ok : am_c177.all (am_eok am_s177) = true := by decide +kernel
theorem am_h177_ok : am_sok am_s177 = true := by decide +kernel
theorem am_k178_ok : am_c178.all (am_eok am_s178) = true := by decide +kernel
theorem am_h178_ok : am_sok am_s178 = true := by decide +kernel
theorem am_k179_ok : am_c179.all (am_eok am_s179) = true := by decide +kernel
theorem am_h179_ok : am_sok am_s179 = true := by decide +kernel
theorem am_k180_ok : am_c180.all (am_eok am_s180) = true := by decide +kernel
theorem am_h180_ok : am_sok am_s180 = true := by decide +kernel
theorem am_k181_ok : am_c181.all (am_eok am_s181) = true := by decide +kernel
