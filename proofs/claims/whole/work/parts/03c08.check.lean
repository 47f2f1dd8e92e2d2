/-! Every table agrees with the class files: checked by counting. -/
theorem am_h197_ok : am_sok am_s197 = true := by decide +kernel
theorem am_k198_ok : am_c198.all (am_eok am_s198) = true := by decide +kernel
theorem am_h198_ok : am_sok am_s198 = true := by decide +kernel
theorem am_k199_ok : am_c199.all (am_eok am_s199) = true := by decide +kernel
theorem am_h199_ok : am_sok am_s199 = true := by decide +kernel
theorem am_k200_ok : am_c200.all (am_eok am_s200) = true := by decide +kernel
theorem am_h200_ok : am_sok am_s200 = true := by decide +kernel
theorem am_k201_ok : am_c201.all (am_eok am_s201) = true := by decide +kernel
theorem am_h201_ok : am_sok am_s201 = true := by decide +kernel
theorem am_k202_ok : am_c202.all (am_eok am_s202) = true := by decide +kernel
theorem am_h202_ok : am_sok am_s202 = true := by decide +kernel
theorem am_k203_ok : am_c203.all (am_eok am_s203) = true := by decide +kernel
theorem am_h203_ok : am_sok am_s203 = true := by decide +kernel
theorem am_k204_ok : am_c204.all (am_eok am_s204) = true := by decide +kernel
theorem am_h204_ok : am_sok am_s204 = true := by decide +kernel
theorem am_k205_ok : am_c205.all (am_eok am_s205) = true := by decide +kernel
theorem am_h205_ok : am_sok am_s205 = true := by decide +kernel
theorem am_k206_ok : am_c206.all (am_eok am_s206) = true := by decide +kernel
theorem am_h206_ok : am_sok am_s206 = true := by decide +kernel
theorem am_k207_ok : am_c207.all (am_eok am_s207) = true := by decide +kernel
theorem am_h207_ok : am_sok am_s207 = true := by decide +kernel
theorem am_k208_ok : am_c208.all (am_eok am_s208) = true := by decide +kernel
theorem am_h208_ok : am_sok am_s208 = true := by decide +kernel
theorem am_k209_ok : am_c209.all (am_eok am_s209) = true := by decide +kernel
theorem am_h209_ok : am_sok am_s209 = true := by decide +kernel
theorem am_k210_ok : am_c210.all (am_eok am_s210) = true := by decide +kernel
theorem am_h210_ok : am_sok am_s210 = true := by decide +kernel
theorem am_k211_ok : am_c211.all (am_eok am_s211) = true := by decide +kernel
theorem am_h211_ok : am_sok am_s211 = true := by decide +kernel
theorem am_k212_ok : am_c212.all (am_eok am_s212) = true := by decide +kernel
theorem am_h212_ok : am_sok am_s212 = true := by decide +kernel
theorem am_k213_ok : am_c213.all (am_eok am_s213) = true := by decide +kernel
theorem am_h213_ok : am_sok am_s213 = true := by decide +kernel
theorem am_k214_ok : am_c214.all (am_eok am_s214) = true := by decide +kernel
theorem am_h214_ok : am_sok am_s214 = true := by decide +kernel
theorem am_k215_ok : am_c215.all (am_eok am_s215) = true := by decide +kernel
theorem am_h215_ok : am_sok am_s215 = true := by decide +kernel
theorem am_k216_ok : am_c216.all (am_eok am_s216) = true := by decide +kernel
theorem am_h216_ok : am_sok am_s216 = true := by decide +kernel
theorem am_k217_ok : am_c217.all (am_eok am_s217) = true := by decide +kernel
theorem am_h217_ok : am_sok am_s217 = true := by decide +kernel
theorem am_k218_ok : am_c218.all (am_eok am_s218) = true := by decide +kernel
theorem am_h218_ok : am_sok am_s218 = true := by decide +kernel
theorem am_k219_ok : am_c219.all (am_eok am_s219) = true := by decide +kernel
theorem am_h219_ok : am_sok am_s219 = true := by decide +kernel
theorem am_k220_ok : am_c220.all (am_eok am_s220) = true := by decide +kernel
theorem am_h220_ok : am_sok am_s220 = true := by decide +kernel
theorem am_k221_ok : am_c221.all (am_eok am_s221) = true := by decide +kernel
theorem am_h221_ok : am_sok am_s221 = true := by decide +kernel
theorem am_k222_ok : am_c222.all (am_eok am_s222) = true := by decide +kernel
theorem am_h222_ok : am_sok am_s222 = true := by decide +kernel
theorem am_k223_ok : am_c223.all (am_eok am_s223) = true := by decide +kernel
theorem am_h223_ok : am_sok am_s223 = true := by decide +kernel
theorem am_k224_ok : am_c224.all (am_eok am_s224) = true := by decide +kernel
theorem am_h224_ok : am_sok am_s224 = true := by decide +kernel
theorem am_k225_ok : am_c225.all (am_eok am_s225) = true := by decide +kernel
theorem am_h225_ok : am_sok am_s225 = true := by decide +kernel
theorem am_k226_ok : am_c226.all (am_eok am_s226) = true := by decide +kernel
theorem am_h226_ok : am_sok am_s226 = true := by decide +kernel
theorem am_k227_ok : am_c227.all (am_eok am_s227) = true := by decide +kernel
theorem am_h227_ok : am_sok am_s227 = true := by decide +kernel
theorem am_k228_ok : am_c228.all (am_eok am_s228) = true := by decide +kernel
theorem am_h228_ok : am_sok am_s228 = true := by decide +kernel
theorem am_k229_ok : am_c229.all (am_eok am_s229) = true := by decide +kernel
theorem am_h229_ok : am_sok am_s229 = true := by decide +kernel
theorem am_k230_ok : am_c230.all (am_eok am_s230) = true := by decide +kernel
theorem am_h230_ok : am_sok am_s230 = true := by decide +kernel
theorem am_k231_ok : am_c231.all (am_eok am_s231) = true := by decide +kernel
theorem am_h231_ok : am_sok am_s231 = true := by decide +kernel
theorem am_k232_ok : am_c232.all (am_eok am_s232) = true := by decide +kernel
theorem am_h232_ok : am_sok am_s232 = true := by decide +kernel
theorem am_k233_ok : am_c233.all (am_eok am_s233) = true := by decide +kernel
theorem am_h233_ok : am_sok am_s233 = true := by decide +kernel
theorem am_k234_ok : am_c234.all (am_eok am_s234) = true := by decide +kernel
theorem am_h234_ok : am_sok am_s234 = true := by decide +kernel
theorem am_k235_ok : am_c235.all (am_eok am_s235) = true := by decide +kernel
theorem am_h235_ok : am_sok am_s235 = true := by decide +kernel
theorem am_k236_ok : am_c236.all (am_eok am_s236) = true := by decide +kernel
theorem am_h236_ok : am_sok am_s236 = true := by decide +kernel
theorem am_k237_ok : am_c237.all (am_eok am_s237) = true := by decide +kernel
theorem am_h237_ok : am_sok am_s237 = true := by decide +kernel
theorem am_k238_ok : am_c238.all (am_eok am_s238) = true := by decide +kernel
theorem am_h238_ok : am_sok am_s238 = true := by decide +kernel
theorem am_k239_ok : am_c239.all (am_eok am_s239) = true := by decide +kernel
theorem am_h239_ok : am_sok am_s239 = true := by decide +kernel
theorem am_k240_ok : am_c240.all (am_eok am_s240) = true := by decide +kernel
theorem am_h240_ok : am_sok am_s240 = true := by decide +kernel
theorem am_k241_ok : am_c241.all (am_eok am_s241) = true := by decide +kernel
theorem am_h241_ok : am_sok am_s241 = true := by decide +kernel
theorem am_k242_ok : am_c242.all (am_eok am_s242) = true := by decide +kernel
theorem am_h242_ok : am_sok am_s242 = true := by decide +kernel
theorem am_k243_0_ok : am_c243_0.all (am_eok am_s243) = true := by decide +kernel
theorem am_k243_1_ok : am_c243_1.all (am_eok am_s243) = true := by decide +kernel
theorem am_k243_ok : am_c243.all (am_eok am_s243) = true := am_all_app am_k243_0_ok am_k243_1_ok
theorem am_h243_ok : am_sok am_s243 = true := by decide +kernel
theorem am_k244_0_ok : am_c244_0.all (am_eok am_s244) = true := by decide +kernel
theorem am_k244_1_ok : am_c244_1.all (am_eok am_s244) = true := by decide +kernel
theorem am_k244_2_ok : am_c244_2.all (am_eok am_s244) = true := by decide +kernel
theorem am_k244_ok : am_c244.all (am_eok am_s244) = true := am_all_app am_k244_0_ok (am_all_app am_k244_1_ok am_k244_2_ok)
theorem am_h244_ok : am_sok am_s244 = true := by decide +kernel
theorem am_k245_ok : am_c245.all (am_eok am_s245) = true := by decide +kernel
theorem am_h245_ok : am_sok am_s245 = true := by decide +kernel
theorem am_k246_ok : am_c246.all (am_eok am_s246) = true := by decide +kernel
theorem am_h246_ok : am_sok am_s246 = true := by decide +kernel
theorem am_k247_ok : am_c247.all (am_eok am_s247) = true := by decide +kernel
theorem am_h247_ok : am_sok am_s247 = true := by decide +kernel
theorem am_k248_ok : am_c248.all (am_eok am_s248) = true := by decide +kernel
theorem am_h248_ok : am_sok am_s248 = true := by decide +kernel
theorem am_k249_ok : am_c249.all (am_eok am_s249) = true := by decide +kernel
theorem am_h249_ok : am_sok am_s249 = true := by decide +kernel
theorem am_k250_0_ok : am_c250_0.all (am_eok am_s250) = true := by decide +kernel
