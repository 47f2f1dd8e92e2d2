/-! Every table agrees with the class files: checked by counting. -/
theorem am_k140_1_ok : am_c140_1.all (am_eok am_s140) = true := by decide +kernel
theorem am_k140_ok : am_c140.all (am_eok am_s140) = true := am_all_app am_k140_0_ok am_k140_1_ok
theorem am_h140_ok : am_sok am_s140 = true := by decide +kernel
theorem am_k141_ok : am_c141.all (am_eok am_s141) = true := by decide +kernel
theorem am_h141_ok : am_sok am_s141 = true := by decide +kernel
theorem am_k142_ok : am_c142.all (am_eok am_s142) = true := by decide +kernel
theorem am_h142_ok : am_sok am_s142 = true := by decide +kernel
theorem am_k143_ok : am_c143.all (am_eok am_s143) = true := by decide +kernel
theorem am_h143_ok : am_sok am_s143 = true := by decide +kernel
theorem am_k144_ok : am_c144.all (am_eok am_s144) = true := by decide +kernel
theorem am_h144_ok : am_sok am_s144 = true := by decide +kernel
theorem am_k145_ok : am_c145.all (am_eok am_s145) = true := by decide +kernel
theorem am_h145_ok : am_sok am_s145 = true := by decide +kernel
theorem am_k146_ok : am_c146.all (am_eok am_s146) = true := by decide +kernel
theorem am_h146_ok : am_sok am_s146 = true := by decide +kernel
theorem am_k147_ok : am_c147.all (am_eok am_s147) = true := by decide +kernel
theorem am_h147_ok : am_sok am_s147 = true := by decide +kernel
theorem am_k148_ok : am_c148.all (am_eok am_s148) = true := by decide +kernel
theorem am_h148_ok : am_sok am_s148 = true := by decide +kernel
theorem am_k149_0_ok : am_c149_0.all (am_eok am_s149) = true := by decide +kernel
theorem am_k149_1_ok : am_c149_1.all (am_eok am_s149) = true := by decide +kernel
theorem am_k149_ok : am_c149.all (am_eok am_s149) = true := am_all_app am_k149_0_ok am_k149_1_ok
theorem am_h149_ok : am_sok am_s149 = true := by decide +kernel
theorem am_k150_ok : am_c150.all (am_eok am_s150) = true := by decide +kernel
theorem am_h150_ok : am_sok am_s150 = true := by decide +kernel
theorem am_k151_ok : am_c151.all (am_eok am_s151) = true := by decide +kernel
theorem am_h151_ok : am_sok am_s151 = true := by decide +kernel
theorem am_k152_ok : am_c152.all (am_eok am_s152) = true := by decide +kernel
theorem am_h152_ok : am_sok am_s152 = true := by decide +kernel
theorem am_k153_ok : am_c153.all (am_eok am_s153) = true := by decide +kernel
theorem am_h153_ok : am_sok am_s153 = true := by decide +kernel
theorem am_k154_0_ok : am_c154_0.all (am_eok am_s154) = true := by decide +kernel
theorem am_k154_1_ok : am_c154_1.all (am_eok am_s154) = true := by decide +kernel
theorem am_k154_ok : am_c154.all (am_eok am_s154) = true := am_all_app am_k154_0_ok am_k154_1_ok
theorem am_h154_ok : am_sok am_s154 = true := by decide +kernel
theorem am_k155_0_ok : am_c155_0.all (am_eok am_s155) = true := by decide +kernel
theorem am_k155_1_ok : am_c155_1.all (am_eok am_s155) = true := by decide +kernel
theorem am_k155_ok : am_c155.all (am_eok am_s155) = true := am_all_app am_k155_0_ok am_k155_1_ok
theorem am_h155_ok : am_sok am_s155 = true := by decide +kernel
theorem am_k156_0_ok : am_c156_0.all (am_eok am_s156) = true := by decide +kernel
theorem am_k156_1_ok : am_c156_1.all (am_eok am_s156) = true := by decide +kernel
theorem am_k156_ok : am_c156.all (am_eok am_s156) = true := am_all_app am_k156_0_ok am_k156_1_ok
theorem am_h156_ok : am_sok am_s156 = true := by decide +kernel
theorem am_k157_ok : am_c157.all (am_eok am_s157) = true := by decide +kernel
theorem am_h157_ok : am_sok am_s157 = true := by decide +kernel
theorem am_k158_ok : am_c158.all (am_eok am_s158) = true := by decide +kernel
theorem am_h158_ok : am_sok am_s158 = true := by decide +kernel
theorem am_k159_ok : am_c159.all (am_eok am_s159) = true := by decide +kernel
theorem am_h159_ok : am_sok am_s159 = true := by decide +kernel
theorem am_k160_ok : am_c160.all (am_eok am_s160) = true := by decide +kernel
theorem am_h160_ok : am_sok am_s160 = true := by decide +kernel
theorem am_k161_ok : am_c161.all (am_eok am_s161) = true := by decide +kernel
theorem am_h161_ok : am_sok am_s161 = true := by decide +kernel
theorem am_k162_ok : am_c162.all (am_eok am_s162) = true := by decide +kernel
theorem am_h162_ok : am_sok am_s162 = true := by decide +kernel
theorem am_k163_ok : am_c163.all (am_eok am_s163) = true := by decide +kernel
theorem am_h163_ok : am_sok am_s163 = true := by decide +kernel
theorem am_k164_ok : am_c164.all (am_eok am_s164) = true := by decide +kernel
theorem am_h164_ok : am_sok am_s164 = true := by decide +kernel
theorem am_k165_ok : am_c165.all (am_eok am_s165) = true := by decide +kernel
theorem am_h165_ok : am_sok am_s165 = true := by decide +kernel
theorem am_k166_ok : am_c166.all (am_eok am_s166) = true := by decide +kernel
theorem am_h166_ok : am_sok am_s166 = true := by decide +kernel
theorem am_k167_ok : am_c167.all (am_eok am_s167) = true := by decide +kernel
theorem am_h167_ok : am_sok am_s167 = true := by decide +kernel
theorem am_k168_ok : am_c168.all (am_eok am_s168) = true := by decide +kernel
theorem am_h168_ok : am_sok am_s168 = true := by decide +kernel
theorem am_k169_ok : am_c169.all (am_eok am_s169) = true := by decide +kernel
theorem am_h169_ok : am_sok am_s169 = true := by decide +kernel
theorem am_k170_ok : am_c170.all (am_eok am_s170) = true := by decide +kernel
theorem am_h170_ok : am_sok am_s170 = true := by decide +kernel
theorem am_k171_ok : am_c171.all (am_eok am_s171) = true := by decide +kernel
theorem am_h171_ok : am_sok am_s171 = true := by decide +kernel
theorem am_k172_ok : am_c172.all (am_eok am_s172) = true := by decide +kernel
theorem am_h172_ok : am_sok am_s172 = true := by decide +kernel
theorem am_k173_ok : am_c173.all (am_eok am_s173) = true := by decide +kernel
theorem am_h173_ok : am_sok am_s173 = true := by decide +kernel
theorem am_k174_ok : am_c174.all (am_eok am_s174) = true := by decide +kernel
theorem am_h174_ok : am_sok am_s174 = true := by decide +kernel
theorem am_k175_ok : am_c175.all (am_eok am_s175) = true := by decide +kernel
theorem am_h175_ok : am_sok am_s175 = true := by decide +kernel
theorem am_k176_ok : am_c176.all (am_eok am_s176) = true := by decide +kernel
theorem am_h176_ok : am_sok am_s176 = true := by decide +kernel
theorem am_k177_ok : am_c177.all (am_eok am_s177) = true := by decide +kernel
theorem am_h177_ok : am_sok am_s177 = true := by decide +kernel
theorem am_k178_ok : am_c178.all (am_eok am_s178) = true := by decide +kernel
theorem am_h178_ok : am_sok am_s178 = true := by decide +kernel
theorem am_k179_ok : am_c179.all (am_eok am_s179) = true := by decide +kernel
theorem am_h179_ok : am_sok am_s179 = true := by decide +kernel
theorem am_k180_ok : am_c180.all (am_eok am_s180) = true := by decide +kernel
theorem am_h180_ok : am_sok am_s180 = true := by decide +kernel
theorem am_k181_ok : am_c181.all (am_eok am_s181) = true := by decide +kernel
theorem am_h181_ok : am_sok am_s181 = true := by decide +kernel
theorem am_k182_ok : am_c182.all (am_eok am_s182) = true := by decide +kernel
theorem am_h182_ok : am_sok am_s182 = true := by decide +kernel
theorem am_k183_ok : am_c183.all (am_eok am_s183) = true := by decide +kernel
theorem am_h183_ok : am_sok am_s183 = true := by decide +kernel
theorem am_k184_ok : am_c184.all (am_eok am_s184) = true := by decide +kernel
theorem am_h184_ok : am_sok am_s184 = true := by decide +kernel
theorem am_k185_ok : am_c185.all (am_eok am_s185) = true := by decide +kernel
theorem am_h185_ok : am_sok am_s185 = true := by decide +kernel
theorem am_k186_0_ok : am_c186_0.all (am_eok am_s186) = true := by decide +kernel
theorem am_k186_1_ok : am_c186_1.all (am_eok am_s186) = true := by decide +kernel
theorem am_k186_ok : am_c186.all (am_eok am_s186) = true := am_all_app am_k186_0_ok am_k186_1_ok
theorem am_h186_ok : am_sok am_s186 = true := by decide +kernel
theorem am_k187_ok : am_c187.all (am_eok am_s187) = true := by decide +kernel
theorem am_h187_ok : am_sok am_s187 = true := by decide +kernel
theorem am_k188_ok : am_c188.all (am_eok am_s188) = true := by decide +kernel
theorem am_h188_ok : am_sok am_s188 = true := by decide +kernel
theorem am_k189_ok : am_c189.all (am_eok am_s189) = true := by decide +kernel
theorem am_h189_ok : am_sok am_s189 = true := by decide +kernel
theorem am_k190_ok : am_c190.all (am_eok am_s190) = true := by decide +kernel
theorem am_h190_ok : am_sok am_s190 = true := by decide +kernel
theorem am_k191_ok : am_c191.all (am_eok am_s191) = true := by decide +kernel
theorem am_h191_ok : am_sok am_s191 = true := by decide +kernel
theorem am_k192_ok : am_c192.all (am_eok am_s192) = true := by decide +kernel
theorem am_h192_ok : am_sok am_s192 = true := by decide +kernel
theorem am_k193_ok : am_c193.all (am_eok am_s193) = true := by decide +kernel
theorem am_h193_ok : am_sok am_s193 = true := by decide +kernel
theorem am_k194_ok : am_c194.all (am_eok am_s194) = true := by decide +kernel
theorem am_h194_ok : am_sok am_s194 = true := by decide +kernel
theorem am_k195_ok : am_c195.all (am_eok am_s195) = true := by decide +kernel
theorem am_h195_ok : am_sok am_s195 = true := by decide +kernel
theorem am_k196_ok : am_c196.all (am_eok am_s196) = true := by decide +kernel
theorem am_h196_ok : am_sok am_s196 = true := by decide +kernel
theorem am_k197_ok : am_c197.all (am_eok am_s197) = true := by decide +kernel
