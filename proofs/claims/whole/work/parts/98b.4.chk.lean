/-! Checks of the tables. -/
theorem zkk_200_0 : zk_200_0.all (zec zpool 13 "isCell" prog_14_method_3_code) = true := by decide +kernel
theorem zmk_200 : zmck zowns zpool zm_200 = true := zmck_of (by decide +kernel) (List.forall_mem_cons.mpr ⟨zkk_200_0, fun _ h => absurd h List.not_mem_nil⟩)
theorem zkk_201_0 : zk_201_0.all (zec zpool 13 "isHour" prog_14_method_4_code) = true := by decide +kernel
theorem zmk_201 : zmck zowns zpool zm_201 = true := zmck_of (by decide +kernel) (List.forall_mem_cons.mpr ⟨zkk_201_0, fun _ h => absurd h List.not_mem_nil⟩)
theorem zkk_202_0 : zk_202_0.all (zec zpool 13 "isPerson" prog_14_method_5_code) = true := by decide +kernel
theorem zmk_202 : zmck zowns zpool zm_202 = true := zmck_of (by decide +kernel) (List.forall_mem_cons.mpr ⟨zkk_202_0, fun _ h => absurd h List.not_mem_nil⟩)
theorem zkk_203_0 : zk_203_0.all (zec zpool 13 "isWall" prog_14_method_6_code) = true := by decide +kernel
theorem zmk_203 : zmck zowns zpool zm_203 = true := zmck_of (by decide +kernel) (List.forall_mem_cons.mpr ⟨zkk_203_0, fun _ h => absurd h List.not_mem_nil⟩)
theorem zkk_204_0 : zk_204_0.all (zec zpool 13 "of" prog_14_method_7_code) = true := by decide +kernel
theorem zmk_204 : zmck zowns zpool zm_204 = true := zmck_of (by decide +kernel) (List.forall_mem_cons.mpr ⟨zkk_204_0, fun _ h => absurd h List.not_mem_nil⟩)
theorem zkk_205_0 : zk_205_0.all (zec zpool 13 "ofDeed" prog_14_method_8_code) = true := by decide +kernel
theorem zmk_205 : zmck zowns zpool zm_205 = true := zmck_of (by decide +kernel) (List.forall_mem_cons.mpr ⟨zkk_205_0, fun _ h => absurd h List.not_mem_nil⟩)
theorem zkk_206_0 : zk_206_0.all (zec zpool 13 "far" prog_14_method_9_code) = true := by decide +kernel
theorem zmk_206 : zmck zowns zpool zm_206 = true := zmck_of (by decide +kernel) (List.forall_mem_cons.mpr ⟨zkk_206_0, fun _ h => absurd h List.not_mem_nil⟩)
theorem zkk_207_0 : zk_207_0.all (zec zpool 13 "bits" prog_14_method_10_code) = true := by decide +kernel
theorem zmk_207 : zmck zowns zpool zm_207 = true := zmck_of (by decide +kernel) (List.forall_mem_cons.mpr ⟨zkk_207_0, fun _ h => absurd h List.not_mem_nil⟩)
theorem zkk_208_0 : zk_208_0.all (zec zpool 13 "stepTo" prog_14_method_11_code) = true := by decide +kernel
theorem zkk_208_1 : zk_208_1.all (zec zpool 13 "stepTo" prog_14_method_11_code) = true := by decide +kernel
theorem zmk_208 : zmck zowns zpool zm_208 = true := zmck_of (by decide +kernel) (List.forall_mem_cons.mpr ⟨zkk_208_0, List.forall_mem_cons.mpr ⟨zkk_208_1, fun _ h => absurd h List.not_mem_nil⟩⟩)
theorem zkk_209_0 : zk_209_0.all (zec zpool 13 "findWays" prog_14_method_12_code) = true := by decide +kernel
theorem zkk_209_1 : zk_209_1.all (zec zpool 13 "findWays" prog_14_method_12_code) = true := by decide +kernel
theorem zmk_209 : zmck zowns zpool zm_209 = true := zmck_of (by decide +kernel) (List.forall_mem_cons.mpr ⟨zkk_209_0, List.forall_mem_cons.mpr ⟨zkk_209_1, fun _ h => absurd h List.not_mem_nil⟩⟩)
theorem zkk_210_0 : zk_210_0.all (zec zpool 13 "knowWays" prog_14_method_13_code) = true := by decide +kernel
theorem zkk_210_1 : zk_210_1.all (zec zpool 13 "knowWays" prog_14_method_13_code) = true := by decide +kernel
theorem zmk_210 : zmck zowns zpool zm_210 = true := zmck_of (by decide +kernel) (List.forall_mem_cons.mpr ⟨zkk_210_0, List.forall_mem_cons.mpr ⟨zkk_210_1, fun _ h => absurd h List.not_mem_nil⟩⟩)
theorem zkk_211_0 : zk_211_0.all (zec zpool 13 "isTaken" prog_14_method_14_code) = true := by decide +kernel
theorem zkk_211_1 : zk_211_1.all (zec zpool 13 "isTaken" prog_14_method_14_code) = true := by decide +kernel
theorem zmk_211 : zmck zowns zpool zm_211 = true := zmck_of (by decide +kernel) (List.forall_mem_cons.mpr ⟨zkk_211_0, List.forall_mem_cons.mpr ⟨zkk_211_1, fun _ h => absurd h List.not_mem_nil⟩⟩)
theorem zkk_212_0 : zk_212_0.all (zec zpool 13 "ground" prog_14_method_15_code) = true := by decide +kernel
theorem zmk_212 : zmck zowns zpool zm_212 = true := zmck_of (by decide +kernel) (List.forall_mem_cons.mpr ⟨zkk_212_0, fun _ h => absurd h List.not_mem_nil⟩)
theorem zkk_213_0 : zk_213_0.all (zec zpool 13 "between" prog_14_method_16_code) = true := by decide +kernel
theorem zmk_213 : zmck zowns zpool zm_213 = true := zmck_of (by decide +kernel) (List.forall_mem_cons.mpr ⟨zkk_213_0, fun _ h => absurd h List.not_mem_nil⟩)
theorem zkk_214_0 : zk_214_0.all (zec zpool 13 "person" prog_14_method_17_code) = true := by decide +kernel
theorem zkk_214_1 : zk_214_1.all (zec zpool 13 "person" prog_14_method_17_code) = true := by decide +kernel
theorem zkk_214_2 : zk_214_2.all (zec zpool 13 "person" prog_14_method_17_code) = true := by decide +kernel
theorem zmk_214 : zmck zowns zpool zm_214 = true := zmck_of (by decide +kernel) (List.forall_mem_cons.mpr ⟨zkk_214_0, List.forall_mem_cons.mpr ⟨zkk_214_1, List.forall_mem_cons.mpr ⟨zkk_214_2, fun _ h => absurd h List.not_mem_nil⟩⟩⟩)
theorem zkk_215_0 : zk_215_0.all (zec zpool 13 "move" prog_14_method_18_code) = true := by decide +kernel
theorem zmk_215 : zmck zowns zpool zm_215 = true := zmck_of (by decide +kernel) (List.forall_mem_cons.mpr ⟨zkk_215_0, fun _ h => absurd h List.not_mem_nil⟩)
theorem zkk_216_0 : zk_216_0.all (zec zpool 13 "personOf" prog_14_method_19_code) = true := by decide +kernel
theorem zkk_216_1 : zk_216_1.all (zec zpool 13 "personOf" prog_14_method_19_code) = true := by decide +kernel
theorem zmk_216 : zmck zowns zpool zm_216 = true := zmck_of (by decide +kernel) (List.forall_mem_cons.mpr ⟨zkk_216_0, List.forall_mem_cons.mpr ⟨zkk_216_1, fun _ h => absurd h List.not_mem_nil⟩⟩)
theorem zkk_217_0 : zk_217_0.all (zec zpool 13 "stone" prog_14_method_20_code) = true := by decide +kernel
theorem zkk_217_1 : zk_217_1.all (zec zpool 13 "stone" prog_14_method_20_code) = true := by decide +kernel
theorem zmk_217 : zmck zowns zpool zm_217 = true := zmck_of (by decide +kernel) (List.forall_mem_cons.mpr ⟨zkk_217_0, List.forall_mem_cons.mpr ⟨zkk_217_1, fun _ h => absurd h List.not_mem_nil⟩⟩)
theorem zkk_218_0 : zk_218_0.all (zec zpool 13 "ofVersion" prog_14_method_21_code) = true := by decide +kernel
theorem zmk_218 : zmck zowns zpool zm_218 = true := zmck_of (by decide +kernel) (List.forall_mem_cons.mpr ⟨zkk_218_0, fun _ h => absurd h List.not_mem_nil⟩)
theorem zkk_219_0 : zk_219_0.all (zec zpool 13 "isInForce" prog_14_method_22_code) = true := by decide +kernel
theorem zmk_219 : zmck zowns zpool zm_219 = true := zmck_of (by decide +kernel) (List.forall_mem_cons.mpr ⟨zkk_219_0, fun _ h => absurd h List.not_mem_nil⟩)
theorem zkk_220_0 : zk_220_0.all (zec zpool 13 "inForce" prog_14_method_23_code) = true := by decide +kernel
theorem zmk_220 : zmck zowns zpool zm_220 = true := zmck_of (by decide +kernel) (List.forall_mem_cons.mpr ⟨zkk_220_0, fun _ h => absurd h List.not_mem_nil⟩)
theorem zkk_221_0 : zk_221_0.all (zec zpool 13 "ruled" prog_14_method_24_code) = true := by decide +kernel
theorem zkk_221_1 : zk_221_1.all (zec zpool 13 "ruled" prog_14_method_24_code) = true := by decide +kernel
theorem zkk_221_2 : zk_221_2.all (zec zpool 13 "ruled" prog_14_method_24_code) = true := by decide +kernel
theorem zmk_221 : zmck zowns zpool zm_221 = true := zmck_of (by decide +kernel) (List.forall_mem_cons.mpr ⟨zkk_221_0, List.forall_mem_cons.mpr ⟨zkk_221_1, List.forall_mem_cons.mpr ⟨zkk_221_2, fun _ h => absurd h List.not_mem_nil⟩⟩⟩)
theorem zkk_222_0 : zk_222_0.all (zec zpool 13 "rule" prog_14_method_25_code) = true := by decide +kernel
theorem zmk_222 : zmck zowns zpool zm_222 = true := zmck_of (by decide +kernel) (List.forall_mem_cons.mpr ⟨zkk_222_0, fun _ h => absurd h List.not_mem_nil⟩)
theorem zkk_223_0 : zk_223_0.all (zec zpool 13 "withinOf" prog_14_method_26_code) = true := by decide +kernel
theorem zkk_223_1 : zk_223_1.all (zec zpool 13 "withinOf" prog_14_method_26_code) = true := by decide +kernel
theorem zmk_223 : zmck zowns zpool zm_223 = true := zmck_of (by decide +kernel) (List.forall_mem_cons.mpr ⟨zkk_223_0, List.forall_mem_cons.mpr ⟨zkk_223_1, fun _ h => absurd h List.not_mem_nil⟩⟩)
theorem zkk_224_0 : zk_224_0.all (zec zpool 13 "within" prog_14_method_27_code) = true := by decide +kernel
theorem zmk_224 : zmck zowns zpool zm_224 = true := zmck_of (by decide +kernel) (List.forall_mem_cons.mpr ⟨zkk_224_0, fun _ h => absurd h List.not_mem_nil⟩)
theorem zkk_225_0 : zk_225_0.all (zec zpool 13 "degreeOf" prog_14_method_28_code) = true := by decide +kernel
theorem zkk_225_1 : zk_225_1.all (zec zpool 13 "degreeOf" prog_14_method_28_code) = true := by decide +kernel
theorem zmk_225 : zmck zowns zpool zm_225 = true := zmck_of (by decide +kernel) (List.forall_mem_cons.mpr ⟨zkk_225_0, List.forall_mem_cons.mpr ⟨zkk_225_1, fun _ h => absurd h List.not_mem_nil⟩⟩)
theorem zkk_226_0 : zk_226_0.all (zec zpool 13 "degree" prog_14_method_29_code) = true := by decide +kernel
theorem zmk_226 : zmck zowns zpool zm_226 = true := zmck_of (by decide +kernel) (List.forall_mem_cons.mpr ⟨zkk_226_0, fun _ h => absurd h List.not_mem_nil⟩)
theorem zkk_227_0 : zk_227_0.all (zec zpool 13 "feed" prog_14_method_30_code) = true := by decide +kernel
theorem zkk_227_1 : zk_227_1.all (zec zpool 13 "feed" prog_14_method_30_code) = true := by decide +kernel
theorem zmk_227 : zmck zowns zpool zm_227 = true := zmck_of (by decide +kernel) (List.forall_mem_cons.mpr ⟨zkk_227_0, List.forall_mem_cons.mpr ⟨zkk_227_1, fun _ h => absurd h List.not_mem_nil⟩⟩)
theorem zkk_228_0 : zk_228_0.all (zec zpool 13 "isIn" prog_14_method_31_code) = true := by decide +kernel
theorem zmk_228 : zmck zowns zpool zm_228 = true := zmck_of (by decide +kernel) (List.forall_mem_cons.mpr ⟨zkk_228_0, fun _ h => absurd h List.not_mem_nil⟩)
theorem zkk_229_0 : zk_229_0.all (zec zpool 13 "next" prog_14_method_32_code) = true := by decide +kernel
theorem zkk_229_1 : zk_229_1.all (zec zpool 13 "next" prog_14_method_32_code) = true := by decide +kernel
theorem zkk_229_2 : zk_229_2.all (zec zpool 13 "next" prog_14_method_32_code) = true := by decide +kernel
theorem zmk_229 : zmck zowns zpool zm_229 = true := zmck_of (by decide +kernel) (List.forall_mem_cons.mpr ⟨zkk_229_0, List.forall_mem_cons.mpr ⟨zkk_229_1, List.forall_mem_cons.mpr ⟨zkk_229_2, fun _ h => absurd h List.not_mem_nil⟩⟩⟩)
theorem zkk_230_0 : zk_230_0.all (zec zpool 13 "isName" prog_14_method_33_code) = true := by decide +kernel
theorem zkk_230_1 : zk_230_1.all (zec zpool 13 "isName" prog_14_method_33_code) = true := by decide +kernel
theorem zmk_230 : zmck zowns zpool zm_230 = true := zmck_of (by decide +kernel) (List.forall_mem_cons.mpr ⟨zkk_230_0, List.forall_mem_cons.mpr ⟨zkk_230_1, fun _ h => absurd h List.not_mem_nil⟩⟩)
theorem zkk_231_0 : zk_231_0.all (zec zpool 13 "isSign" prog_14_method_34_code) = true := by decide +kernel
theorem zmk_231 : zmck zowns zpool zm_231 = true := zmck_of (by decide +kernel) (List.forall_mem_cons.mpr ⟨zkk_231_0, fun _ h => absurd h List.not_mem_nil⟩)
theorem zkk_232_0 : zk_232_0.all (zec zpool 13 "need" prog_14_method_35_code) = true := by decide +kernel
theorem zmk_232 : zmck zowns zpool zm_232 = true := zmck_of (by decide +kernel) (List.forall_mem_cons.mpr ⟨zkk_232_0, fun _ h => absurd h List.not_mem_nil⟩)
theorem zkk_233_0 : zk_233_0.all (zec zpool 13 "number" prog_14_method_36_code) = true := by decide +kernel
theorem zkk_233_1 : zk_233_1.all (zec zpool 13 "number" prog_14_method_36_code) = true := by decide +kernel
theorem zmk_233 : zmck zowns zpool zm_233 = true := zmck_of (by decide +kernel) (List.forall_mem_cons.mpr ⟨zkk_233_0, List.forall_mem_cons.mpr ⟨zkk_233_1, fun _ h => absurd h List.not_mem_nil⟩⟩)
theorem zkk_234_0 : zk_234_0.all (zec zpool 13 "codes" prog_14_method_37_code) = true := by decide +kernel
theorem zmk_234 : zmck zowns zpool zm_234 = true := zmck_of (by decide +kernel) (List.forall_mem_cons.mpr ⟨zkk_234_0, fun _ h => absurd h List.not_mem_nil⟩)
theorem zkk_235_0 : zk_235_0.all (zec zpool 13 "either" prog_14_method_38_code) = true := by decide +kernel
theorem zmk_235 : zmck zowns zpool zm_235 = true := zmck_of (by decide +kernel) (List.forall_mem_cons.mpr ⟨zkk_235_0, fun _ h => absurd h List.not_mem_nil⟩)
theorem zkk_236_0 : zk_236_0.all (zec zpool 13 "all" prog_14_method_39_code) = true := by decide +kernel
theorem zmk_236 : zmck zowns zpool zm_236 = true := zmck_of (by decide +kernel) (List.forall_mem_cons.mpr ⟨zkk_236_0, fun _ h => absurd h List.not_mem_nil⟩)
theorem zkk_237_0 : zk_237_0.all (zec zpool 13 "one" prog_14_method_40_code) = true := by decide +kernel
theorem zkk_237_1 : zk_237_1.all (zec zpool 13 "one" prog_14_method_40_code) = true := by decide +kernel
theorem zkk_237_2 : zk_237_2.all (zec zpool 13 "one" prog_14_method_40_code) = true := by decide +kernel
theorem zmk_237 : zmck zowns zpool zm_237 = true := zmck_of (by decide +kernel) (List.forall_mem_cons.mpr ⟨zkk_237_0, List.forall_mem_cons.mpr ⟨zkk_237_1, List.forall_mem_cons.mpr ⟨zkk_237_2, fun _ h => absurd h List.not_mem_nil⟩⟩⟩)
theorem zkk_238_0 : zk_238_0.all (zec zpool 13 "kindHere" prog_14_method_41_code) = true := by decide +kernel
theorem zmk_238 : zmck zowns zpool zm_238 = true := zmck_of (by decide +kernel) (List.forall_mem_cons.mpr ⟨zkk_238_0, fun _ h => absurd h List.not_mem_nil⟩)
theorem zkk_239_0 : zk_239_0.all (zec zpool 13 "cond" prog_14_method_42_code) = true := by decide +kernel
theorem zmk_239 : zmck zowns zpool zm_239 = true := zmck_of (by decide +kernel) (List.forall_mem_cons.mpr ⟨zkk_239_0, fun _ h => absurd h List.not_mem_nil⟩)
theorem zkk_240_0 : zk_240_0.all (zec zpool 13 "lineAt" prog_14_method_43_code) = true := by decide +kernel
theorem zkk_240_1 : zk_240_1.all (zec zpool 13 "lineAt" prog_14_method_43_code) = true := by decide +kernel
theorem zkk_240_2 : zk_240_2.all (zec zpool 13 "lineAt" prog_14_method_43_code) = true := by decide +kernel
theorem zkk_240_3 : zk_240_3.all (zec zpool 13 "lineAt" prog_14_method_43_code) = true := by decide +kernel
theorem zkk_240_4 : zk_240_4.all (zec zpool 13 "lineAt" prog_14_method_43_code) = true := by decide +kernel
theorem zmk_240 : zmck zowns zpool zm_240 = true := zmck_of (by decide +kernel) (List.forall_mem_cons.mpr ⟨zkk_240_0, List.forall_mem_cons.mpr ⟨zkk_240_1, List.forall_mem_cons.mpr ⟨zkk_240_2, List.forall_mem_cons.mpr ⟨zkk_240_3, List.forall_mem_cons.mpr ⟨zkk_240_4, fun _ h => absurd h List.not_mem_nil⟩⟩⟩⟩⟩)
theorem zkk_241_0 : zk_241_0.all (zec zpool 13 "reads" prog_14_method_44_code) = true := by decide +kernel
theorem zkk_241_1 : zk_241_1.all (zec zpool 13 "reads" prog_14_method_44_code) = true := by decide +kernel
theorem zmk_241 : zmck zowns zpool zm_241 = true := zmck_of (by decide +kernel) (List.forall_mem_cons.mpr ⟨zkk_241_0, List.forall_mem_cons.mpr ⟨zkk_241_1, fun _ h => absurd h List.not_mem_nil⟩⟩)
theorem zkk_242_0 : zk_242_0.all (zec zpool 13 "read" prog_14_method_45_code) = true := by decide +kernel
theorem zkk_242_1 : zk_242_1.all (zec zpool 13 "read" prog_14_method_45_code) = true := by decide +kernel
theorem zkk_242_2 : zk_242_2.all (zec zpool 13 "read" prog_14_method_45_code) = true := by decide +kernel
theorem zkk_242_3 : zk_242_3.all (zec zpool 13 "read" prog_14_method_45_code) = true := by decide +kernel
theorem zmk_242 : zmck zowns zpool zm_242 = true := zmck_of (by decide +kernel) (List.forall_mem_cons.mpr ⟨zkk_242_0, List.forall_mem_cons.mpr ⟨zkk_242_1, List.forall_mem_cons.mpr ⟨zkk_242_2, List.forall_mem_cons.mpr ⟨zkk_242_3, fun _ h => absurd h List.not_mem_nil⟩⟩⟩⟩)
theorem zkk_243_0 : zk_243_0.all (zec zpool 13 "end" prog_14_method_46_code) = true := by decide +kernel
theorem zmk_243 : zmck zowns zpool zm_243 = true := zmck_of (by decide +kernel) (List.forall_mem_cons.mpr ⟨zkk_243_0, fun _ h => absurd h List.not_mem_nil⟩)
theorem zkk_244_0 : zk_244_0.all (zec zpool 13 "strike" prog_14_method_47_code) = true := by decide +kernel
theorem zmk_244 : zmck zowns zpool zm_244 = true := zmck_of (by decide +kernel) (List.forall_mem_cons.mpr ⟨zkk_244_0, fun _ h => absurd h List.not_mem_nil⟩)
theorem zkk_245_0 : zk_245_0.all (zec zpool 13 "version" prog_14_method_48_code) = true := by decide +kernel
theorem zkk_245_1 : zk_245_1.all (zec zpool 13 "version" prog_14_method_48_code) = true := by decide +kernel
theorem zkk_245_2 : zk_245_2.all (zec zpool 13 "version" prog_14_method_48_code) = true := by decide +kernel
theorem zmk_245 : zmck zowns zpool zm_245 = true := zmck_of (by decide +kernel) (List.forall_mem_cons.mpr ⟨zkk_245_0, List.forall_mem_cons.mpr ⟨zkk_245_1, List.forall_mem_cons.mpr ⟨zkk_245_2, fun _ h => absurd h List.not_mem_nil⟩⟩⟩)
theorem zkk_246_0 : zk_246_0.all (zec zpool 13 "deed" prog_14_method_49_code) = true := by decide +kernel
theorem zkk_246_1 : zk_246_1.all (zec zpool 13 "deed" prog_14_method_49_code) = true := by decide +kernel
theorem zkk_246_2 : zk_246_2.all (zec zpool 13 "deed" prog_14_method_49_code) = true := by decide +kernel
theorem zmk_246 : zmck zowns zpool zm_246 = true := zmck_of (by decide +kernel) (List.forall_mem_cons.mpr ⟨zkk_246_0, List.forall_mem_cons.mpr ⟨zkk_246_1, List.forall_mem_cons.mpr ⟨zkk_246_2, fun _ h => absurd h List.not_mem_nil⟩⟩⟩)
theorem zkk_247_0 : zk_247_0.all (zec zpool 13 "isNight" prog_14_method_50_code) = true := by decide +kernel
theorem zmk_247 : zmck zowns zpool zm_247 = true := zmck_of (by decide +kernel) (List.forall_mem_cons.mpr ⟨zkk_247_0, fun _ h => absurd h List.not_mem_nil⟩)
theorem zkk_248_0 : zk_248_0.all (zec zpool 13 "times" prog_14_method_51_code) = true := by decide +kernel
theorem zkk_248_1 : zk_248_1.all (zec zpool 13 "times" prog_14_method_51_code) = true := by decide +kernel
theorem zmk_248 : zmck zowns zpool zm_248 = true := zmck_of (by decide +kernel) (List.forall_mem_cons.mpr ⟨zkk_248_0, List.forall_mem_cons.mpr ⟨zkk_248_1, fun _ h => absurd h List.not_mem_nil⟩⟩)
theorem zkk_249_0 : zk_249_0.all (zec zpool 13 "wasInside" prog_14_method_52_code) = true := by decide +kernel
theorem zmk_249 : zmck zowns zpool zm_249 = true := zmck_of (by decide +kernel) (List.forall_mem_cons.mpr ⟨zkk_249_0, fun _ h => absurd h List.not_mem_nil⟩)
theorem zkk_250_0 : zk_250_0.all (zec zpool 13 "findFacts" prog_14_method_53_code) = true := by decide +kernel
theorem zkk_250_1 : zk_250_1.all (zec zpool 13 "findFacts" prog_14_method_53_code) = true := by decide +kernel
theorem zmk_250 : zmck zowns zpool zm_250 = true := zmck_of (by decide +kernel) (List.forall_mem_cons.mpr ⟨zkk_250_0, List.forall_mem_cons.mpr ⟨zkk_250_1, fun _ h => absurd h List.not_mem_nil⟩⟩)
theorem zkk_251_0 : zk_251_0.all (zec zpool 13 "holds" prog_14_method_54_code) = true := by decide +kernel
theorem zkk_251_1 : zk_251_1.all (zec zpool 13 "holds" prog_14_method_54_code) = true := by decide +kernel
theorem zkk_251_2 : zk_251_2.all (zec zpool 13 "holds" prog_14_method_54_code) = true := by decide +kernel
theorem zkk_251_3 : zk_251_3.all (zec zpool 13 "holds" prog_14_method_54_code) = true := by decide +kernel
theorem zmk_251 : zmck zowns zpool zm_251 = true := zmck_of (by decide +kernel) (List.forall_mem_cons.mpr ⟨zkk_251_0, List.forall_mem_cons.mpr ⟨zkk_251_1, List.forall_mem_cons.mpr ⟨zkk_251_2, List.forall_mem_cons.mpr ⟨zkk_251_3, fun _ h => absurd h List.not_mem_nil⟩⟩⟩⟩)
theorem zkk_252_0 : zk_252_0.all (zec zpool 13 "lineOf" prog_14_method_55_code) = true := by decide +kernel
theorem zkk_252_1 : zk_252_1.all (zec zpool 13 "lineOf" prog_14_method_55_code) = true := by decide +kernel
theorem zkk_252_2 : zk_252_2.all (zec zpool 13 "lineOf" prog_14_method_55_code) = true := by decide +kernel
theorem zmk_252 : zmck zowns zpool zm_252 = true := zmck_of (by decide +kernel) (List.forall_mem_cons.mpr ⟨zkk_252_0, List.forall_mem_cons.mpr ⟨zkk_252_1, List.forall_mem_cons.mpr ⟨zkk_252_2, fun _ h => absurd h List.not_mem_nil⟩⟩⟩)
theorem zkk_253_0 : zk_253_0.all (zec zpool 13 "doesCount" prog_14_method_56_code) = true := by decide +kernel
theorem zmk_253 : zmck zowns zpool zm_253 = true := zmck_of (by decide +kernel) (List.forall_mem_cons.mpr ⟨zkk_253_0, fun _ h => absurd h List.not_mem_nil⟩)
theorem zkk_254_0 : zk_254_0.all (zec zpool 13 "isAsked" prog_14_method_57_code) = true := by decide +kernel
theorem zmk_254 : zmck zowns zpool zm_254 = true := zmck_of (by decide +kernel) (List.forall_mem_cons.mpr ⟨zkk_254_0, fun _ h => absurd h List.not_mem_nil⟩)
theorem zkk_255_0 : zk_255_0.all (zec zpool 13 "counts" prog_14_method_58_code) = true := by decide +kernel
theorem zmk_255 : zmck zowns zpool zm_255 = true := zmck_of (by decide +kernel) (List.forall_mem_cons.mpr ⟨zkk_255_0, fun _ h => absurd h List.not_mem_nil⟩)
theorem zkk_256_0 : zk_256_0.all (zec zpool 13 "line" prog_14_method_59_code) = true := by decide +kernel
theorem zmk_256 : zmck zowns zpool zm_256 = true := zmck_of (by decide +kernel) (List.forall_mem_cons.mpr ⟨zkk_256_0, fun _ h => absurd h List.not_mem_nil⟩)
theorem zkk_257_0 : zk_257_0.all (zec zpool 13 "whyNot" prog_14_method_60_code) = true := by decide +kernel
theorem zkk_257_1 : zk_257_1.all (zec zpool 13 "whyNot" prog_14_method_60_code) = true := by decide +kernel
theorem zmk_257 : zmck zowns zpool zm_257 = true := zmck_of (by decide +kernel) (List.forall_mem_cons.mpr ⟨zkk_257_0, List.forall_mem_cons.mpr ⟨zkk_257_1, fun _ h => absurd h List.not_mem_nil⟩⟩)
theorem zkk_258_0 : zk_258_0.all (zec zpool 13 "isSafe" prog_14_method_61_code) = true := by decide +kernel
theorem zmk_258 : zmck zowns zpool zm_258 = true := zmck_of (by decide +kernel) (List.forall_mem_cons.mpr ⟨zkk_258_0, fun _ h => absurd h List.not_mem_nil⟩)
theorem zkk_259_0 : zk_259_0.all (zec zpool 13 "isSafeNow" prog_14_method_62_code) = true := by decide +kernel
theorem zmk_259 : zmck zowns zpool zm_259 = true := zmck_of (by decide +kernel) (List.forall_mem_cons.mpr ⟨zkk_259_0, fun _ h => absurd h List.not_mem_nil⟩)
theorem zkk_260_0 : zk_260_0.all (zec zpool 13 "safe" prog_14_method_63_code) = true := by decide +kernel
theorem zmk_260 : zmck zowns zpool zm_260 = true := zmck_of (by decide +kernel) (List.forall_mem_cons.mpr ⟨zkk_260_0, fun _ h => absurd h List.not_mem_nil⟩)
theorem zkk_261_0 : zk_261_0.all (zec zpool 13 "why" prog_14_method_64_code) = true := by decide +kernel
theorem zmk_261 : zmck zowns zpool zm_261 = true := zmck_of (by decide +kernel) (List.forall_mem_cons.mpr ⟨zkk_261_0, fun _ h => absurd h List.not_mem_nil⟩)
theorem zkk_262_0 : zk_262_0.all (zec zpool 13 "costOf" prog_14_method_65_code) = true := by decide +kernel
theorem zkk_262_1 : zk_262_1.all (zec zpool 13 "costOf" prog_14_method_65_code) = true := by decide +kernel
theorem zkk_262_2 : zk_262_2.all (zec zpool 13 "costOf" prog_14_method_65_code) = true := by decide +kernel
theorem zkk_262_3 : zk_262_3.all (zec zpool 13 "costOf" prog_14_method_65_code) = true := by decide +kernel
theorem zmk_262 : zmck zowns zpool zm_262 = true := zmck_of (by decide +kernel) (List.forall_mem_cons.mpr ⟨zkk_262_0, List.forall_mem_cons.mpr ⟨zkk_262_1, List.forall_mem_cons.mpr ⟨zkk_262_2, List.forall_mem_cons.mpr ⟨zkk_262_3, fun _ h => absurd h List.not_mem_nil⟩⟩⟩⟩)
theorem zkk_263_0 : zk_263_0.all (zec zpool 13 "cost" prog_14_method_66_code) = true := by decide +kernel
theorem zmk_263 : zmck zowns zpool zm_263 = true := zmck_of (by decide +kernel) (List.forall_mem_cons.mpr ⟨zkk_263_0, fun _ h => absurd h List.not_mem_nil⟩)
theorem zkk_264_0 : zk_264_0.all (zec zpool 13 "becomes" prog_14_method_67_code) = true := by decide +kernel
theorem zmk_264 : zmck zowns zpool zm_264 = true := zmck_of (by decide +kernel) (List.forall_mem_cons.mpr ⟨zkk_264_0, fun _ h => absurd h List.not_mem_nil⟩)
theorem zkk_265_0 : zk_265_0.all (zec zpool 13 "isNot" prog_14_method_68_code) = true := by decide +kernel
theorem zmk_265 : zmck zowns zpool zm_265 = true := zmck_of (by decide +kernel) (List.forall_mem_cons.mpr ⟨zkk_265_0, fun _ h => absurd h List.not_mem_nil⟩)
theorem zkk_266_0 : zk_266_0.all (zec zpool 13 "seek" prog_14_method_69_code) = true := by decide +kernel
theorem zmk_266 : zmck zowns zpool zm_266 = true := zmck_of (by decide +kernel) (List.forall_mem_cons.mpr ⟨zkk_266_0, fun _ h => absurd h List.not_mem_nil⟩)
theorem zkk_267_0 : zk_267_0.all (zec zpool 13 "swear" prog_14_method_70_code) = true := by decide +kernel
theorem zkk_267_1 : zk_267_1.all (zec zpool 13 "swear" prog_14_method_70_code) = true := by decide +kernel
theorem zmk_267 : zmck zowns zpool zm_267 = true := zmck_of (by decide +kernel) (List.forall_mem_cons.mpr ⟨zkk_267_0, List.forall_mem_cons.mpr ⟨zkk_267_1, fun _ h => absurd h List.not_mem_nil⟩⟩)
theorem zkk_268_0 : zk_268_0.all (zec zpool 13 "shipFrom" prog_14_method_71_code) = true := by decide +kernel
theorem zmk_268 : zmck zowns zpool zm_268 = true := zmck_of (by decide +kernel) (List.forall_mem_cons.mpr ⟨zkk_268_0, fun _ h => absurd h List.not_mem_nil⟩)
theorem zkk_269_0 : zk_269_0.all (zec zpool 13 "leave" prog_14_method_72_code) = true := by decide +kernel
theorem zkk_269_1 : zk_269_1.all (zec zpool 13 "leave" prog_14_method_72_code) = true := by decide +kernel
theorem zmk_269 : zmck zowns zpool zm_269 = true := zmck_of (by decide +kernel) (List.forall_mem_cons.mpr ⟨zkk_269_0, List.forall_mem_cons.mpr ⟨zkk_269_1, fun _ h => absurd h List.not_mem_nil⟩⟩)
