/-! Checks of the tables. -/
theorem zkk_270_0 : zk_270_0.all (zec zpool 13 "dwell" prog_14_method_73_code) = true := by decide +kernel
theorem zkk_270_1 : zk_270_1.all (zec zpool 13 "dwell" prog_14_method_73_code) = true := by decide +kernel
theorem zmk_270 : zmck zowns zpool zm_270 = true := zmck_of (by decide +kernel) (List.forall_mem_cons.mpr ⟨zkk_270_0, List.forall_mem_cons.mpr ⟨zkk_270_1, fun _ h => absurd h List.not_mem_nil⟩⟩)
theorem zkk_271_0 : zk_271_0.all (zec zpool 13 "port" prog_14_method_74_code) = true := by decide +kernel
theorem zkk_271_1 : zk_271_1.all (zec zpool 13 "port" prog_14_method_74_code) = true := by decide +kernel
theorem zmk_271 : zmck zowns zpool zm_271 = true := zmck_of (by decide +kernel) (List.forall_mem_cons.mpr ⟨zkk_271_0, List.forall_mem_cons.mpr ⟨zkk_271_1, fun _ h => absurd h List.not_mem_nil⟩⟩)
theorem zkk_272_0 : zk_272_0.all (zec zpool 13 "sails" prog_14_method_75_code) = true := by decide +kernel
theorem zkk_272_1 : zk_272_1.all (zec zpool 13 "sails" prog_14_method_75_code) = true := by decide +kernel
theorem zmk_272 : zmck zowns zpool zm_272 = true := zmck_of (by decide +kernel) (List.forall_mem_cons.mpr ⟨zkk_272_0, List.forall_mem_cons.mpr ⟨zkk_272_1, fun _ h => absurd h List.not_mem_nil⟩⟩)
theorem zkk_273_0 : zk_273_0.all (zec zpool 13 "isOut" prog_14_method_76_code) = true := by decide +kernel
theorem zmk_273 : zmck zowns zpool zm_273 = true := zmck_of (by decide +kernel) (List.forall_mem_cons.mpr ⟨zkk_273_0, fun _ h => absurd h List.not_mem_nil⟩)
theorem zkk_274_0 : zk_274_0.all (zec zpool 13 "take" prog_14_method_77_code) = true := by decide +kernel
theorem zkk_274_1 : zk_274_1.all (zec zpool 13 "take" prog_14_method_77_code) = true := by decide +kernel
theorem zkk_274_2 : zk_274_2.all (zec zpool 13 "take" prog_14_method_77_code) = true := by decide +kernel
theorem zkk_274_3 : zk_274_3.all (zec zpool 13 "take" prog_14_method_77_code) = true := by decide +kernel
theorem zkk_274_4 : zk_274_4.all (zec zpool 13 "take" prog_14_method_77_code) = true := by decide +kernel
theorem zmk_274 : zmck zowns zpool zm_274 = true := zmck_of (by decide +kernel) (List.forall_mem_cons.mpr ⟨zkk_274_0, List.forall_mem_cons.mpr ⟨zkk_274_1, List.forall_mem_cons.mpr ⟨zkk_274_2, List.forall_mem_cons.mpr ⟨zkk_274_3, List.forall_mem_cons.mpr ⟨zkk_274_4, fun _ h => absurd h List.not_mem_nil⟩⟩⟩⟩⟩)
theorem zkk_275_0 : zk_275_0.all (zec zpool 13 "taking" prog_14_method_78_code) = true := by decide +kernel
theorem zkk_275_1 : zk_275_1.all (zec zpool 13 "taking" prog_14_method_78_code) = true := by decide +kernel
theorem zmk_275 : zmck zowns zpool zm_275 = true := zmck_of (by decide +kernel) (List.forall_mem_cons.mpr ⟨zkk_275_0, List.forall_mem_cons.mpr ⟨zkk_275_1, fun _ h => absurd h List.not_mem_nil⟩⟩)
theorem zkk_276_0 : zk_276_0.all (zec zpool 13 "post" prog_14_method_79_code) = true := by decide +kernel
theorem zkk_276_1 : zk_276_1.all (zec zpool 13 "post" prog_14_method_79_code) = true := by decide +kernel
theorem zkk_276_2 : zk_276_2.all (zec zpool 13 "post" prog_14_method_79_code) = true := by decide +kernel
theorem zmk_276 : zmck zowns zpool zm_276 = true := zmck_of (by decide +kernel) (List.forall_mem_cons.mpr ⟨zkk_276_0, List.forall_mem_cons.mpr ⟨zkk_276_1, List.forall_mem_cons.mpr ⟨zkk_276_2, fun _ h => absurd h List.not_mem_nil⟩⟩⟩)
theorem zkk_277_0 : zk_277_0.all (zec zpool 13 "seenBy" prog_14_method_80_code) = true := by decide +kernel
theorem zkk_277_1 : zk_277_1.all (zec zpool 13 "seenBy" prog_14_method_80_code) = true := by decide +kernel
theorem zkk_277_2 : zk_277_2.all (zec zpool 13 "seenBy" prog_14_method_80_code) = true := by decide +kernel
theorem zmk_277 : zmck zowns zpool zm_277 = true := zmck_of (by decide +kernel) (List.forall_mem_cons.mpr ⟨zkk_277_0, List.forall_mem_cons.mpr ⟨zkk_277_1, List.forall_mem_cons.mpr ⟨zkk_277_2, fun _ h => absurd h List.not_mem_nil⟩⟩⟩)
theorem zkk_278_0 : zk_278_0.all (zec zpool 13 "sees" prog_14_method_81_code) = true := by decide +kernel
theorem zmk_278 : zmck zowns zpool zm_278 = true := zmck_of (by decide +kernel) (List.forall_mem_cons.mpr ⟨zkk_278_0, fun _ h => absurd h List.not_mem_nil⟩)
theorem zkk_279_0 : zk_279_0.all (zec zpool 13 "aim" prog_14_method_82_code) = true := by decide +kernel
theorem zkk_279_1 : zk_279_1.all (zec zpool 13 "aim" prog_14_method_82_code) = true := by decide +kernel
theorem zmk_279 : zmck zowns zpool zm_279 = true := zmck_of (by decide +kernel) (List.forall_mem_cons.mpr ⟨zkk_279_0, List.forall_mem_cons.mpr ⟨zkk_279_1, fun _ h => absurd h List.not_mem_nil⟩⟩)
theorem zkk_280_0 : zk_280_0.all (zec zpool 13 "runs" prog_14_method_83_code) = true := by decide +kernel
theorem zkk_280_1 : zk_280_1.all (zec zpool 13 "runs" prog_14_method_83_code) = true := by decide +kernel
theorem zkk_280_2 : zk_280_2.all (zec zpool 13 "runs" prog_14_method_83_code) = true := by decide +kernel
theorem zkk_280_3 : zk_280_3.all (zec zpool 13 "runs" prog_14_method_83_code) = true := by decide +kernel
theorem zmk_280 : zmck zowns zpool zm_280 = true := zmck_of (by decide +kernel) (List.forall_mem_cons.mpr ⟨zkk_280_0, List.forall_mem_cons.mpr ⟨zkk_280_1, List.forall_mem_cons.mpr ⟨zkk_280_2, List.forall_mem_cons.mpr ⟨zkk_280_3, fun _ h => absurd h List.not_mem_nil⟩⟩⟩⟩)
theorem zkk_281_0 : zk_281_0.all (zec zpool 13 "tellOn" prog_14_method_84_code) = true := by decide +kernel
theorem zkk_281_1 : zk_281_1.all (zec zpool 13 "tellOn" prog_14_method_84_code) = true := by decide +kernel
theorem zmk_281 : zmck zowns zpool zm_281 = true := zmck_of (by decide +kernel) (List.forall_mem_cons.mpr ⟨zkk_281_0, List.forall_mem_cons.mpr ⟨zkk_281_1, fun _ h => absurd h List.not_mem_nil⟩⟩)
theorem zkk_282_0 : zk_282_0.all (zec zpool 13 "hours" prog_14_method_85_code) = true := by decide +kernel
theorem zkk_282_1 : zk_282_1.all (zec zpool 13 "hours" prog_14_method_85_code) = true := by decide +kernel
theorem zmk_282 : zmck zowns zpool zm_282 = true := zmck_of (by decide +kernel) (List.forall_mem_cons.mpr ⟨zkk_282_0, List.forall_mem_cons.mpr ⟨zkk_282_1, fun _ h => absurd h List.not_mem_nil⟩⟩)
theorem zkk_283_0 : zk_283_0.all (zec zpool 13 "seenAt" prog_14_method_86_code) = true := by decide +kernel
theorem zmk_283 : zmck zowns zpool zm_283 = true := zmck_of (by decide +kernel) (List.forall_mem_cons.mpr ⟨zkk_283_0, fun _ h => absurd h List.not_mem_nil⟩)
theorem zkk_284_0 : zk_284_0.all (zec zpool 13 "findRun" prog_14_method_87_code) = true := by decide +kernel
theorem zkk_284_1 : zk_284_1.all (zec zpool 13 "findRun" prog_14_method_87_code) = true := by decide +kernel
theorem zkk_284_2 : zk_284_2.all (zec zpool 13 "findRun" prog_14_method_87_code) = true := by decide +kernel
theorem zmk_284 : zmck zowns zpool zm_284 = true := zmck_of (by decide +kernel) (List.forall_mem_cons.mpr ⟨zkk_284_0, List.forall_mem_cons.mpr ⟨zkk_284_1, List.forall_mem_cons.mpr ⟨zkk_284_2, fun _ h => absurd h List.not_mem_nil⟩⟩⟩)
theorem zkk_285_0 : zk_285_0.all (zec zpool 13 "run" prog_14_method_88_code) = true := by decide +kernel
theorem zkk_285_1 : zk_285_1.all (zec zpool 13 "run" prog_14_method_88_code) = true := by decide +kernel
theorem zkk_285_2 : zk_285_2.all (zec zpool 13 "run" prog_14_method_88_code) = true := by decide +kernel
theorem zkk_285_3 : zk_285_3.all (zec zpool 13 "run" prog_14_method_88_code) = true := by decide +kernel
theorem zkk_285_4 : zk_285_4.all (zec zpool 13 "run" prog_14_method_88_code) = true := by decide +kernel
theorem zmk_285 : zmck zowns zpool zm_285 = true := zmck_of (by decide +kernel) (List.forall_mem_cons.mpr ⟨zkk_285_0, List.forall_mem_cons.mpr ⟨zkk_285_1, List.forall_mem_cons.mpr ⟨zkk_285_2, List.forall_mem_cons.mpr ⟨zkk_285_3, List.forall_mem_cons.mpr ⟨zkk_285_4, fun _ h => absurd h List.not_mem_nil⟩⟩⟩⟩⟩)
theorem zkk_286_0 : zk_286_0.all (zec zpool 13 "isRow" prog_14_method_89_code) = true := by decide +kernel
theorem zmk_286 : zmck zowns zpool zm_286 = true := zmck_of (by decide +kernel) (List.forall_mem_cons.mpr ⟨zkk_286_0, fun _ h => absurd h List.not_mem_nil⟩)
theorem zkk_287_0 : zk_287_0.all (zec zpool 13 "row" prog_14_method_90_code) = true := by decide +kernel
theorem zmk_287 : zmck zowns zpool zm_287 = true := zmck_of (by decide +kernel) (List.forall_mem_cons.mpr ⟨zkk_287_0, fun _ h => absurd h List.not_mem_nil⟩)
theorem zkk_288_0 : zk_288_0.all (zec zpool 13 "alterRow" prog_14_method_91_code) = true := by decide +kernel
theorem zmk_288 : zmck zowns zpool zm_288 = true := zmck_of (by decide +kernel) (List.forall_mem_cons.mpr ⟨zkk_288_0, fun _ h => absurd h List.not_mem_nil⟩)
theorem zkk_289_0 : zk_289_0.all (zec zpool 13 "dropRow" prog_14_method_92_code) = true := by decide +kernel
theorem zmk_289 : zmck zowns zpool zm_289 = true := zmck_of (by decide +kernel) (List.forall_mem_cons.mpr ⟨zkk_289_0, fun _ h => absurd h List.not_mem_nil⟩)
theorem zkk_290_0 : zk_290_0.all (zec zpool 13 "judge" prog_14_method_93_code) = true := by decide +kernel
theorem zkk_290_1 : zk_290_1.all (zec zpool 13 "judge" prog_14_method_93_code) = true := by decide +kernel
theorem zmk_290 : zmck zowns zpool zm_290 = true := zmck_of (by decide +kernel) (List.forall_mem_cons.mpr ⟨zkk_290_0, List.forall_mem_cons.mpr ⟨zkk_290_1, fun _ h => absurd h List.not_mem_nil⟩⟩)
theorem zkk_291_0 : zk_291_0.all (zec zpool 13 "gap" prog_14_method_94_code) = true := by decide +kernel
theorem zkk_291_1 : zk_291_1.all (zec zpool 13 "gap" prog_14_method_94_code) = true := by decide +kernel
theorem zmk_291 : zmck zowns zpool zm_291 = true := zmck_of (by decide +kernel) (List.forall_mem_cons.mpr ⟨zkk_291_0, List.forall_mem_cons.mpr ⟨zkk_291_1, fun _ h => absurd h List.not_mem_nil⟩⟩)
theorem zkk_292_0 : zk_292_0.all (zec zpool 13 "watch" prog_14_method_95_code) = true := by decide +kernel
theorem zkk_292_1 : zk_292_1.all (zec zpool 13 "watch" prog_14_method_95_code) = true := by decide +kernel
theorem zmk_292 : zmck zowns zpool zm_292 = true := zmck_of (by decide +kernel) (List.forall_mem_cons.mpr ⟨zkk_292_0, List.forall_mem_cons.mpr ⟨zkk_292_1, fun _ h => absurd h List.not_mem_nil⟩⟩)
theorem zkk_293_0 : zk_293_0.all (zec zpool 13 "bell" prog_14_method_96_code) = true := by decide +kernel
theorem zkk_293_1 : zk_293_1.all (zec zpool 13 "bell" prog_14_method_96_code) = true := by decide +kernel
theorem zkk_293_2 : zk_293_2.all (zec zpool 13 "bell" prog_14_method_96_code) = true := by decide +kernel
theorem zmk_293 : zmck zowns zpool zm_293 = true := zmck_of (by decide +kernel) (List.forall_mem_cons.mpr ⟨zkk_293_0, List.forall_mem_cons.mpr ⟨zkk_293_1, List.forall_mem_cons.mpr ⟨zkk_293_2, fun _ h => absurd h List.not_mem_nil⟩⟩⟩)
theorem zkk_294_0 : zk_294_0.all (zec zpool 13 "heard" prog_14_method_97_code) = true := by decide +kernel
theorem zmk_294 : zmck zowns zpool zm_294 = true := zmck_of (by decide +kernel) (List.forall_mem_cons.mpr ⟨zkk_294_0, fun _ h => absurd h List.not_mem_nil⟩)
theorem zkk_295_0 : zk_295_0.all (zec zpool 13 "sight" prog_14_method_98_code) = true := by decide +kernel
theorem zkk_295_1 : zk_295_1.all (zec zpool 13 "sight" prog_14_method_98_code) = true := by decide +kernel
theorem zmk_295 : zmck zowns zpool zm_295 = true := zmck_of (by decide +kernel) (List.forall_mem_cons.mpr ⟨zkk_295_0, List.forall_mem_cons.mpr ⟨zkk_295_1, fun _ h => absurd h List.not_mem_nil⟩⟩)
theorem zkk_296_0 : zk_296_0.all (zec zpool 13 "who" prog_14_method_99_code) = true := by decide +kernel
theorem zkk_296_1 : zk_296_1.all (zec zpool 13 "who" prog_14_method_99_code) = true := by decide +kernel
theorem zkk_296_2 : zk_296_2.all (zec zpool 13 "who" prog_14_method_99_code) = true := by decide +kernel
theorem zmk_296 : zmck zowns zpool zm_296 = true := zmck_of (by decide +kernel) (List.forall_mem_cons.mpr ⟨zkk_296_0, List.forall_mem_cons.mpr ⟨zkk_296_1, List.forall_mem_cons.mpr ⟨zkk_296_2, fun _ h => absurd h List.not_mem_nil⟩⟩⟩)
theorem zkk_297_0 : zk_297_0.all (zec zpool 13 "safeBy" prog_14_method_100_code) = true := by decide +kernel
theorem zmk_297 : zmck zowns zpool zm_297 = true := zmck_of (by decide +kernel) (List.forall_mem_cons.mpr ⟨zkk_297_0, fun _ h => absurd h List.not_mem_nil⟩)
theorem zkk_298_0 : zk_298_0.all (zec zpool 13 "narrow" prog_14_method_101_code) = true := by decide +kernel
theorem zmk_298 : zmck zowns zpool zm_298 = true := zmck_of (by decide +kernel) (List.forall_mem_cons.mpr ⟨zkk_298_0, fun _ h => absurd h List.not_mem_nil⟩)
theorem zkk_299_0 : zk_299_0.all (zec zpool 13 "both" prog_14_method_102_code) = true := by decide +kernel
theorem zkk_299_1 : zk_299_1.all (zec zpool 13 "both" prog_14_method_102_code) = true := by decide +kernel
theorem zkk_299_2 : zk_299_2.all (zec zpool 13 "both" prog_14_method_102_code) = true := by decide +kernel
theorem zmk_299 : zmck zowns zpool zm_299 = true := zmck_of (by decide +kernel) (List.forall_mem_cons.mpr ⟨zkk_299_0, List.forall_mem_cons.mpr ⟨zkk_299_1, List.forall_mem_cons.mpr ⟨zkk_299_2, fun _ h => absurd h List.not_mem_nil⟩⟩⟩)
theorem zkk_300_0 : zk_300_0.all (zec zpool 13 "isFour" prog_14_method_103_code) = true := by decide +kernel
theorem zmk_300 : zmck zowns zpool zm_300 = true := zmck_of (by decide +kernel) (List.forall_mem_cons.mpr ⟨zkk_300_0, fun _ h => absurd h List.not_mem_nil⟩)
theorem zkk_301_0 : zk_301_0.all (zec zpool 13 "sheet" prog_14_method_104_code) = true := by decide +kernel
theorem zkk_301_1 : zk_301_1.all (zec zpool 13 "sheet" prog_14_method_104_code) = true := by decide +kernel
theorem zmk_301 : zmck zowns zpool zm_301 = true := zmck_of (by decide +kernel) (List.forall_mem_cons.mpr ⟨zkk_301_0, List.forall_mem_cons.mpr ⟨zkk_301_1, fun _ h => absurd h List.not_mem_nil⟩⟩)
theorem zkk_302_0 : zk_302_0.all (zec zpool 13 "put" prog_14_method_105_code) = true := by decide +kernel
theorem zkk_302_1 : zk_302_1.all (zec zpool 13 "put" prog_14_method_105_code) = true := by decide +kernel
theorem zmk_302 : zmck zowns zpool zm_302 = true := zmck_of (by decide +kernel) (List.forall_mem_cons.mpr ⟨zkk_302_0, List.forall_mem_cons.mpr ⟨zkk_302_1, fun _ h => absurd h List.not_mem_nil⟩⟩)
theorem zkk_303_0 : zk_303_0.all (zec zpool 13 "notThere" prog_14_method_106_code) = true := by decide +kernel
theorem zmk_303 : zmck zowns zpool zm_303 = true := zmck_of (by decide +kernel) (List.forall_mem_cons.mpr ⟨zkk_303_0, fun _ h => absurd h List.not_mem_nil⟩)
theorem zkk_304_0 : zk_304_0.all (zec zpool 13 "item" prog_14_method_107_code) = true := by decide +kernel
theorem zmk_304 : zmck zowns zpool zm_304 = true := zmck_of (by decide +kernel) (List.forall_mem_cons.mpr ⟨zkk_304_0, fun _ h => absurd h List.not_mem_nil⟩)
theorem zkk_305_0 : zk_305_0.all (zec zpool 13 "comes" prog_14_method_108_code) = true := by decide +kernel
theorem zkk_305_1 : zk_305_1.all (zec zpool 13 "comes" prog_14_method_108_code) = true := by decide +kernel
theorem zmk_305 : zmck zowns zpool zm_305 = true := zmck_of (by decide +kernel) (List.forall_mem_cons.mpr ⟨zkk_305_0, List.forall_mem_cons.mpr ⟨zkk_305_1, fun _ h => absurd h List.not_mem_nil⟩⟩)
theorem zkk_306_0 : zk_306_0.all (zec zpool 13 "shelf" prog_14_method_109_code) = true := by decide +kernel
theorem zkk_306_1 : zk_306_1.all (zec zpool 13 "shelf" prog_14_method_109_code) = true := by decide +kernel
theorem zmk_306 : zmck zowns zpool zm_306 = true := zmck_of (by decide +kernel) (List.forall_mem_cons.mpr ⟨zkk_306_0, List.forall_mem_cons.mpr ⟨zkk_306_1, fun _ h => absurd h List.not_mem_nil⟩⟩)
theorem zkk_307_0 : zk_307_0.all (zec zpool 13 "personOn" prog_14_method_110_code) = true := by decide +kernel
theorem zmk_307 : zmck zowns zpool zm_307 = true := zmck_of (by decide +kernel) (List.forall_mem_cons.mpr ⟨zkk_307_0, fun _ h => absurd h List.not_mem_nil⟩)
theorem zkk_308_0 : zk_308_0.all (zec zpool 13 "above" prog_14_method_111_code) = true := by decide +kernel
theorem zmk_308 : zmck zowns zpool zm_308 = true := zmck_of (by decide +kernel) (List.forall_mem_cons.mpr ⟨zkk_308_0, fun _ h => absurd h List.not_mem_nil⟩)
theorem zkk_309_0 : zk_309_0.all (zec zpool 13 "taken" prog_14_method_112_code) = true := by decide +kernel
theorem zkk_309_1 : zk_309_1.all (zec zpool 13 "taken" prog_14_method_112_code) = true := by decide +kernel
theorem zmk_309 : zmck zowns zpool zm_309 = true := zmck_of (by decide +kernel) (List.forall_mem_cons.mpr ⟨zkk_309_0, List.forall_mem_cons.mpr ⟨zkk_309_1, fun _ h => absurd h List.not_mem_nil⟩⟩)
theorem zkk_310_0 : zk_310_0.all (zec zpool 13 "began" prog_14_method_113_code) = true := by decide +kernel
theorem zmk_310 : zmck zowns zpool zm_310 = true := zmck_of (by decide +kernel) (List.forall_mem_cons.mpr ⟨zkk_310_0, fun _ h => absurd h List.not_mem_nil⟩)
theorem zkk_311_0 : zk_311_0.all (zec zpool 13 "kindOf" prog_14_method_114_code) = true := by decide +kernel
theorem zmk_311 : zmck zowns zpool zm_311 = true := zmck_of (by decide +kernel) (List.forall_mem_cons.mpr ⟨zkk_311_0, fun _ h => absurd h List.not_mem_nil⟩)
theorem zkk_312_0 : zk_312_0.all (zec zpool 13 "bodyOf" prog_14_method_115_code) = true := by decide +kernel
theorem zkk_312_1 : zk_312_1.all (zec zpool 13 "bodyOf" prog_14_method_115_code) = true := by decide +kernel
theorem zkk_312_2 : zk_312_2.all (zec zpool 13 "bodyOf" prog_14_method_115_code) = true := by decide +kernel
theorem zmk_312 : zmck zowns zpool zm_312 = true := zmck_of (by decide +kernel) (List.forall_mem_cons.mpr ⟨zkk_312_0, List.forall_mem_cons.mpr ⟨zkk_312_1, List.forall_mem_cons.mpr ⟨zkk_312_2, fun _ h => absurd h List.not_mem_nil⟩⟩⟩)
theorem zkk_313_0 : zk_313_0.all (zec zpool 13 "dealt" prog_14_method_116_code) = true := by decide +kernel
theorem zmk_313 : zmck zowns zpool zm_313 = true := zmck_of (by decide +kernel) (List.forall_mem_cons.mpr ⟨zkk_313_0, fun _ h => absurd h List.not_mem_nil⟩)
theorem zkk_314_0 : zk_314_0.all (zec zpool 13 "fromAbove" prog_14_method_117_code) = true := by decide +kernel
theorem zmk_314 : zmck zowns zpool zm_314 = true := zmck_of (by decide +kernel) (List.forall_mem_cons.mpr ⟨zkk_314_0, fun _ h => absurd h List.not_mem_nil⟩)
theorem zkk_315_0 : zk_315_0.all (zec zpool 13 "body" prog_14_method_118_code) = true := by decide +kernel
theorem zkk_315_1 : zk_315_1.all (zec zpool 13 "body" prog_14_method_118_code) = true := by decide +kernel
theorem zkk_315_2 : zk_315_2.all (zec zpool 13 "body" prog_14_method_118_code) = true := by decide +kernel
theorem zkk_315_3 : zk_315_3.all (zec zpool 13 "body" prog_14_method_118_code) = true := by decide +kernel
theorem zkk_315_4 : zk_315_4.all (zec zpool 13 "body" prog_14_method_118_code) = true := by decide +kernel
theorem zkk_315_5 : zk_315_5.all (zec zpool 13 "body" prog_14_method_118_code) = true := by decide +kernel
theorem zmk_315 : zmck zowns zpool zm_315 = true := zmck_of (by decide +kernel) (List.forall_mem_cons.mpr ⟨zkk_315_0, List.forall_mem_cons.mpr ⟨zkk_315_1, List.forall_mem_cons.mpr ⟨zkk_315_2, List.forall_mem_cons.mpr ⟨zkk_315_3, List.forall_mem_cons.mpr ⟨zkk_315_4, List.forall_mem_cons.mpr ⟨zkk_315_5, fun _ h => absurd h List.not_mem_nil⟩⟩⟩⟩⟩⟩)
theorem zkk_316_0 : zk_316_0.all (zec zpool 13 "deal" prog_14_method_119_code) = true := by decide +kernel
theorem zmk_316 : zmck zowns zpool zm_316 = true := zmck_of (by decide +kernel) (List.forall_mem_cons.mpr ⟨zkk_316_0, fun _ h => absurd h List.not_mem_nil⟩)
theorem zkk_317_0 : zk_317_0.all (zec zpool 13 "trace" prog_14_method_120_code) = true := by decide +kernel
theorem zmk_317 : zmck zowns zpool zm_317 = true := zmck_of (by decide +kernel) (List.forall_mem_cons.mpr ⟨zkk_317_0, fun _ h => absurd h List.not_mem_nil⟩)
theorem zkk_318_0 : zk_318_0.all (zec zpool 13 "many" prog_14_method_121_code) = true := by decide +kernel
theorem zkk_318_1 : zk_318_1.all (zec zpool 13 "many" prog_14_method_121_code) = true := by decide +kernel
theorem zmk_318 : zmck zowns zpool zm_318 = true := zmck_of (by decide +kernel) (List.forall_mem_cons.mpr ⟨zkk_318_0, List.forall_mem_cons.mpr ⟨zkk_318_1, fun _ h => absurd h List.not_mem_nil⟩⟩)
theorem zkk_319_0 : zk_319_0.all (zec zpool 13 "keep" prog_14_method_122_code) = true := by decide +kernel
theorem zmk_319 : zmck zowns zpool zm_319 = true := zmck_of (by decide +kernel) (List.forall_mem_cons.mpr ⟨zkk_319_0, fun _ h => absurd h List.not_mem_nil⟩)
theorem zkk_320_0 : zk_320_0.all (zec zpool 13 "again" prog_14_method_123_code) = true := by decide +kernel
theorem zmk_320 : zmck zowns zpool zm_320 = true := zmck_of (by decide +kernel) (List.forall_mem_cons.mpr ⟨zkk_320_0, fun _ h => absurd h List.not_mem_nil⟩)
theorem zkk_321_0 : zk_321_0.all (zec zpool 14 "bitCount" prog_17_method_49_code) = true := by decide +kernel
theorem zkk_321_1 : zk_321_1.all (zec zpool 14 "bitCount" prog_17_method_49_code) = true := by decide +kernel
theorem zmk_321 : zmck zowns zpool zm_321 = true := zmck_of (by decide +kernel) (List.forall_mem_cons.mpr ⟨zkk_321_0, List.forall_mem_cons.mpr ⟨zkk_321_1, fun _ h => absurd h List.not_mem_nil⟩⟩)
theorem zkk_322_0 : zk_322_0.all (zec zpool 15 "floorMod" prog_18_method_50_code) = true := by decide +kernel
theorem zmk_322 : zmck zowns zpool zm_322 = true := zmck_of (by decide +kernel) (List.forall_mem_cons.mpr ⟨zkk_322_0, fun _ h => absurd h List.not_mem_nil⟩)
theorem zkk_323_0 : zk_323_0.all (zec zpool 15 "abs" prog_18_method_59_code) = true := by decide +kernel
theorem zmk_323 : zmck zowns zpool zm_323 = true := zmck_of (by decide +kernel) (List.forall_mem_cons.mpr ⟨zkk_323_0, fun _ h => absurd h List.not_mem_nil⟩)
theorem zkk_324_0 : zk_324_0.all (zec zpool 15 "max" prog_18_method_65_code) = true := by decide +kernel
theorem zmk_324 : zmck zowns zpool zm_324 = true := zmck_of (by decide +kernel) (List.forall_mem_cons.mpr ⟨zkk_324_0, fun _ h => absurd h List.not_mem_nil⟩)
theorem zkk_325_0 : zk_325_0.all (zec zpool 15 "min" prog_18_method_69_code) = true := by decide +kernel
theorem zmk_325 : zmck zowns zpool zm_325 = true := zmck_of (by decide +kernel) (List.forall_mem_cons.mpr ⟨zkk_325_0, fun _ h => absurd h List.not_mem_nil⟩)
theorem zkk_326_0 : zk_326_0.all (zec zpool 16 "length" prog_19_method_54_code) = true := by decide +kernel
theorem zmk_326 : zmck zowns zpool zm_326 = true := zmck_of (by decide +kernel) (List.forall_mem_cons.mpr ⟨zkk_326_0, fun _ h => absurd h List.not_mem_nil⟩)
theorem zkk_327_0 : zk_327_0.all (zec zpool 16 "charAt" prog_19_method_56_code) = true := by decide +kernel
theorem zmk_327 : zmck zowns zpool zm_327 = true := zmck_of (by decide +kernel) (List.forall_mem_cons.mpr ⟨zkk_327_0, fun _ h => absurd h List.not_mem_nil⟩)
theorem zkk_328_0 : zk_328_0.all (zec zpool 16 "coder" prog_19_method_152_code) = true := by decide +kernel
theorem zmk_328 : zmck zowns zpool zm_328 = true := zmck_of (by decide +kernel) (List.forall_mem_cons.mpr ⟨zkk_328_0, fun _ h => absurd h List.not_mem_nil⟩)
theorem zkk_329_0 : zk_329_0.all (zec zpool 16 "isLatin1" prog_19_method_154_code) = true := by decide +kernel
theorem zmk_329 : zmck zowns zpool zm_329 = true := zmck_of (by decide +kernel) (List.forall_mem_cons.mpr ⟨zkk_329_0, fun _ h => absurd h List.not_mem_nil⟩)
theorem zkk_330_0 : zk_330_0.all (zec zpool 16 "checkIndex" prog_19_method_155_code) = true := by decide +kernel
theorem zmk_330 : zmck zowns zpool zm_330 = true := zmck_of (by decide +kernel) (List.forall_mem_cons.mpr ⟨zkk_330_0, fun _ h => absurd h List.not_mem_nil⟩)
theorem zkk_331_0 : zk_331_0.all (zec zpool 17 "charAt" prog_20_method_2_code) = true := by decide +kernel
theorem zmk_331 : zmck zowns zpool zm_331 = true := zmck_of (by decide +kernel) (List.forall_mem_cons.mpr ⟨zkk_331_0, fun _ h => absurd h List.not_mem_nil⟩)
theorem zkk_332_0 : zk_332_0.all (zec zpool 18 "fill" prog_23_method_103_code) = true := by decide +kernel
theorem zmk_332 : zmck zowns zpool zm_332 = true := zmck_of (by decide +kernel) (List.forall_mem_cons.mpr ⟨zkk_332_0, fun _ h => absurd h List.not_mem_nil⟩)
theorem zkk_333_0 : zk_333_0.all (zec zpool 19 "checkIndex" prog_24_method_11_code) = true := by decide +kernel
theorem zmk_333 : zmck zowns zpool zm_333 = true := zmck_of (by decide +kernel) (List.forall_mem_cons.mpr ⟨zkk_333_0, fun _ h => absurd h List.not_mem_nil⟩)
