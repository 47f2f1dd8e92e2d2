/-! Every table agrees with the class files: checked by counting. -/
theorem am_k171_ok : am_c171.all (am_eok am_s171) = true := by decide +kernel
theorem am_h171_ok : am_sok am_s171 = true := by decide +kernel
theorem am_k172_ok : am_c172.all (am_eok am_s172) = true := by decide +kernel
theorem am_h172_ok : am_sok am_s172 = true := by decide +kernel
theorem am_k173_ok : am_c173.all (am_eok am_s173) = true := by decide +kernel
theorem am_h173_ok : am_sok am_s173 = true := by decide +kernel
theorem am_k174_ok : am_c174.all (am_eok am_s174) = true := by decide +kernel
theorem am_h174_ok : am_sok am_s174 = true := by decide +kernel
theorem am_k175_ok : am_c175.all (am_eok am_s175) = true := by decide +kernel
theorem am_h175_ok : am_sok am_s175 = true := by decide +kernel
theorem am_k176_ok : am_c176.all (am_eok am_s176) = true := by decide +kernel
theorem am_h176_ok : am_sok am_s176 = true := by decide +kernel
theorem am_k177_ok : am_c177.all (am_eok am_s177) = true := by decide +kernel
theorem am_h177_ok : am_sok am_s177 = true := by decide +kernel
theorem am_k178_ok : am_c178.all (am_eok am_s178) = true := by decide +kernel
theorem am_h178_ok : am_sok am_s178 = true := by decide +kernel
theorem am_k179_ok : am_c179.all (am_eok am_s179) = true := by decide +kernel
theorem am_h179_ok : am_sok am_s179 = true := by decide +kernel
theorem am_k180_ok : am_c180.all (am_eok am_s180) = true := by decide +kernel
theorem am_h180_ok : am_sok am_s180 = true := by decide +kernel
theorem am_k181_ok : am_c181.all (am_eok am_s181) = true := by decide +kernel
theorem am_h181_ok : am_sok am_s181 = true := by decide +kernel
theorem am_k182_ok : am_c182.all (am_eok am_s182) = true := by decide +kernel
theorem am_h182_ok : am_sok am_s182 = true := by decide +kernel
theorem am_k183_ok : am_c183.all (am_eok am_s183) = true := by decide +kernel
theorem am_h183_ok : am_sok am_s183 = true := by decide +kernel
theorem am_k184_ok : am_c184.all (am_eok am_s184) = true := by decide +kernel
theorem am_h184_ok : am_sok am_s184 = true := by decide +kernel
theorem am_k185_ok : am_c185.all (am_eok am_s185) = true := by decide +kernel
theorem am_h185_ok : am_sok am_s185 = true := by decide +kernel
theorem am_k186_0_ok : am_c186_0.all (am_eok am_s186) = true := by decide +kernel
theorem am_k186_1_ok : am_c186_1.all (am_eok am_s186) = true := by decide +kernel
theorem am_k186_ok : am_c186.all (am_eok am_s186) = true := am_all_app am_k186_0_ok am_k186_1_ok
theorem am_h186_ok : am_sok am_s186 = true := by decide +kernel
theorem am_k187_ok : am_c187.all (am_eok am_s187) = true := by decide +kernel
theorem am_h187_ok : am_sok am_s187 = true := by decide +kernel
theorem am_k188_ok : am_c188.all (am_eok am_s188) = true := by decide +kernel
theorem am_h188_ok : am_sok am_s188 = true := by decide +kernel
theorem am_k189_ok : am_c189.all (am_eok am_s189) = true := by decide +kernel
theorem am_h189_ok : am_sok am_s189 = true := by decide +kernel
theorem am_k190_ok : am_c190.all (am_eok am_s190) = true := by decide +kernel
theorem am_h190_ok : am_sok am_s190 = true := by decide +kernel
theorem am_k191_ok : am_c191.all (am_eok am_s191) = true := by decide +kernel
theorem am_h191_ok : am_sok am_s191 = true := by decide +kernel
theorem am_k192_ok : am_c192.all (am_eok am_s192) = true := by decide +kernel
theorem am_h192_ok : am_sok am_s192 = true := by decide +kernel
theorem am_k193_ok : am_c193.all (am_eok am_s193) = true := by decide +kernel
theorem am_h193_ok : am_sok am_s193 = true := by decide +kernel
theorem am_k194_ok : am_c194.all (am_eok am_s194) = true := by decide +kernel
theorem am_h194_ok : am_sok am_s194 = true := by decide +kernel
theorem am_k195_ok : am_c195.all (am_eok am_s195) = true := by decide +kernel
theorem am_h195_ok : am_sok am_s195 = true := by decide +kernel
theorem am_k196_ok : am_c196.all (am_eok am_s196) = true := by decide +kernel
theorem am_h196_ok : am_sok am_s196 = true := by decide +kernel
theorem am_k197_ok : am_c197.all (am_eok am_s197) = true := by decide +kernel
theorem am_h197_ok : am_sok am_s197 = true := by decide +kernel
theorem am_k198_ok : am_c198.all (am_eok am_s198) = true := by decide +kernel
theorem am_h198_ok : am_sok am_s198 = true := by decide +kernel
theorem am_k199_ok : am_c199.all (am_eok am_s199) = true := by decide +kernel
theorem am_h199_ok : am_sok am_s199 = true := by decide +kernel
theorem am_k200_ok : am_c200.all (am_eok am_s200) = true := by decide +kernel
theorem am_h200_ok : am_sok am_s200 = true := by decide +kernel
theorem am_k201_ok : am_c201.all (am_eok am_s201) = true := by decide +kernel
theorem am_h201_ok : am_sok am_s201 = true := by decide +kernel
theorem am_k202_ok : am_c202.all (am_eok am_s202) = true := by decide +kernel
theorem am_h202_ok : am_sok am_s202 = true := by decide +kernel
theorem am_k203_ok : am_c203.all (am_eok am_s203) = true := by decide +kernel
theorem am_h203_ok : am_sok am_s203 = true := by decide +kernel
theorem am_k204_ok : am_c204.all (am_eok am_s204) = true := by decide +kernel
theorem am_h204_ok : am_sok am_s204 = true := by decide +kernel
theorem am_k205_ok : am_c205.all (am_eok am_s205) = true := by decide +kernel
theorem am_h205_ok : am_sok am_s205 = true := by decide +kernel
theorem am_k206_ok : am_c206.all (am_eok am_s206) = true := by decide +kernel
theorem am_h206_ok : am_sok am_s206 = true := by decide +kernel
theorem am_k207_ok : am_c207.all (am_eok am_s207) = true := by decide +kernel
theorem am_h207_ok : am_sok am_s207 = true := by decide +kernel
theorem am_k208_ok : am_c208.all (am_eok am_s208) = true := by decide +kernel
theorem am_h208_ok : am_sok am_s208 = true := by decide +kernel
theorem am_k209_ok : am_c209.all (am_eok am_s209) = true := by decide +kernel
theorem am_h209_ok : am_sok am_s209 = true := by decide +kernel
theorem am_k210_ok : am_c210.all (am_eok am_s210) = true := by decide +kernel
theorem am_h210_ok : am_sok am_s210 = true := by decide +kernel
theorem am_k211_ok : am_c211.all (am_eok am_s211) = true := by decide +kernel
theorem am_h211_ok : am_sok am_s211 = true := by decide +kernel
theorem am_k212_ok : am_c212.all (am_eok am_s212) = true := by decide +kernel
