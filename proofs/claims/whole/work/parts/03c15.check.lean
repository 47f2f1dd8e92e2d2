/-! Every table agrees with the class files: checked by counting. -/
theorem am_h181_ok : am_sok am_s181 = true := by decide +kernel
theorem am_k182_ok : am_c182.all (am_eok am_s182) = true := by decide +kernel
theorem am_h182_ok : am_sok am_s182 = true := by decide +kernel
theorem am_k183_ok : am_c183.all (am_eok am_s183) = true := by decide +kernel
theorem am_h183_ok : am_sok am_s183 = true := by decide +kernel
theorem am_k184_ok : am_c184.all (am_eok am_s184) = true := by decide +kernel
theorem am_h184_ok : am_sok am_s184 = true := by decide +kernel
theorem am_k185_ok : am_c185.all (am_eok am_s185) = true := by decide +kernel
theorem am_h185_ok : am_sok am_s185 = true := by decide +kernel
theorem am_k186_0_ok : am_c186_0.all (am_eok am_s186) = true := by decide +kernel
theorem am_k186_1_ok : am_c186_1.all (am_eok am_s186) = true := by decide +kernel
theorem am_k186_ok : am_c186.all (am_eok am_s186) = true := am_all_app am_k186_0_ok am_k186_1_ok
theorem am_h186_ok : am_sok am_s186 = true := by decide +kernel
theorem am_k187_ok : am_c187.all (am_eok am_s187) = true := by decide +kernel
theorem am_h187_ok : am_sok am_s187 = true := by decide +kernel
theorem am_k188_ok : am_c188.all (am_eok am_s188) = true := by decide +kernel
theorem am_h188_ok : am_sok am_s188 = true := by decide +kernel
theorem am_k189_ok : am_c189.all (am_eok am_s189) = true := by decide +kernel
theorem am_h189_ok : am_sok am_s189 = true := by decide +kernel
theorem am_k190_ok : am_c190.all (am_eok am_s190) = true := by decide +kernel
theorem am_h190_ok : am_sok am_s190 = true := by decide +kernel
theorem am_k191_ok : am_c191.all (am_eok am_s191) = true := by decide +kernel
theorem am_h191_ok : am_sok am_s191 = true := by decide +kernel
theorem am_k192_ok : am_c192.all (am_eok am_s192) = true := by decide +kernel
theorem am_h192_ok : am_sok am_s192 = true := by decide +kernel
theorem am_k193_ok : am_c193.all (am_eok am_s193) = true := by decide +kernel
theorem am_h193_ok : am_sok am_s193 = true := by decide +kernel
theorem am_k194_ok : am_c194.all (am_eok am_s194) = true := by decide +kernel
theorem am_h194_ok : am_sok am_s194 = true := by decide +kernel
theorem am_k195_ok : am_c195.all (am_eok am_s195) = true := by decide +kernel
theorem am_h195_ok : am_sok am_s195 = true := by decide +kernel
theorem am_k196_ok : am_c196.all (am_eok am_s196) = true := by decide +kernel
theorem am_h196_ok : am_sok am_s196 = true := by decide +kernel
theorem am_k197_ok : am_c197.all (am_eok am_s197) = true := by decide +kernel
theorem am_h197_ok : am_sok am_s197 = true := by decide +kernel
theorem am_k198_ok : am_c198.all (am_eok am_s198) = true := by decide +kernel
theorem am_h198_ok : am_sok am_s198 = true := by decide +kernel
theorem am_k199_ok : am_c199.all (am_eok am_s199) = true := by decide +kernel
theorem am_h199_ok : am_sok am_s199 = true := by decide +kernel
theorem am_k200_ok : am_c200.all (am_eok am_s200) = true := by decide +kernel
theorem am_h200_ok : am_sok am_s200 = true := by decide +kernel
theorem am_k201_ok : am_c201.all (am_eok am_s201) = true := by decide +kernel
theorem am_h201_ok : am_sok am_s201 = true := by decide +kernel
theorem am_k202_ok : am_c202.all (am_eok am_s202) = true := by decide +kernel
theorem am_h202_ok : am_sok am_s202 = true := by decide +kernel
theorem am_k203_ok : am_c203.all (am_eok am_s203) = true := by decide +kernel
theorem am_h203_ok : am_sok am_s203 = true := by decide +kernel
theorem am_k204_ok : am_c204.all (am_eok am_s204) = true := by decide +kernel
theorem am_h204_ok : am_sok am_s204 = true := by decide +kernel
theorem am_k205_ok : am_c205.all (am_eok am_s205) = true := by decide +kernel
theorem am_h205_ok : am_sok am_s205 = true := by decide +kernel
theorem am_k206_ok : am_c206.all (am_eok am_s206) = true := by decide +kernel
theorem am_h206_ok : am_sok am_s206 = true := by decide +kernel
theorem am_k207_ok : am_c207.all (am_eok am_s207) = true := by decide +kernel
theorem am_h207_ok : am_sok am_s207 = true := by decide +kernel
theorem am_k208_ok : am_c208.all (am_eok am_s208) = true := by decide +kernel
theorem am_h208_ok : am_sok am_s208 = true := by decide +kernel
theorem am_k209_ok : am_c209.all (am_eok am_s209) = true := by decide +kernel
theorem am_h209_ok : am_sok am_s209 = true := by decide +kernel
theorem am_k210_ok : am_c210.all (am_eok am_s210) = true := by decide +kernel
theorem am_h210_ok : am_sok am_s210 = true := by decide +kernel
theorem am_k211_ok : am_c211.all (am_eok am_s211) = true := by decide +kernel
theorem am_h211_ok : am_sok am_s211 = true := by decide +kernel
theorem am_k212_ok : am_c212.all (am_eok am_s212) = true := by decide +kernel
theorem am_h212_ok : am_sok am_s212 = true := by decide +kernel
theorem am_k213_ok : am_c213.all (am_eok am_s213) = true := by decide +kernel
theorem am_h213_ok : am_sok am_s213 = true := by decide +kernel
theorem am_k214_ok : am_c214.all (am_eok am_s214) = true := by decide +kernel
theorem am_h214_ok : am_sok am_s214 = true := by decide +kernel
theorem am_k215_ok : am_c215.all (am_eok am_s215) = true := by decide +kernel
theorem am_h215_ok : am_sok am_s215 = true := by decide +kernel
theorem am_k216_ok : am_c216.all (am_eok am_s216) = true := by decide +kernel
theorem am_h216_ok : am_sok am_s216 = true := by decide +kernel
