/-! The start: what is given. By program, and by hand. -/
def zen : List String := ["END", "WRONG", "NUMBER", "MILE", "MEASURE", "LANES", "STRAIGHT", "FORTY", "COST", "IF", "COUNT", "FAIL", "AND", "OR", "NOT", "ABOVE", "THEFT", "BLOW", "KILLING", "DEBT", "OATH", "TREASON", "ANY", "AGE", "TIMES", "DEGREE", "INSIDE", "NIGHT", "AGAINST", "SEMICOLON", "OPEN", "CLOSE"]
def zso : List String := ["PeaceRingModel", "PeaceRingModel", "PeaceRingModel", "PeaceRingModel", "PeaceRingModel", "PeaceRingModel", "PeaceRingModel", "PeaceRingModel", "PeaceRingModel", "PeaceRingModel", "PeaceRingModel", "PeaceRingModel", "PeaceRingModel", "PeaceRingModel", "PeaceRingModel", "PeaceRingModel", "PeaceRingModel", "PeaceRingModel", "PeaceRingModel", "PeaceRingModel", "PeaceRingModel", "PeaceRingModel", "PeaceRingModel", "PeaceRingModel", "PeaceRingModel", "PeaceRingModel", "PeaceRing$Word", "PeaceRing$Word", "PeaceRing$Word", "PeaceRing$Word", "PeaceRing$Word", "PeaceRing$Word", "PeaceRing$Word", "PeaceRing$Word", "PeaceRing$Word", "PeaceRing$Word", "PeaceRing$Word", "PeaceRing$Word", "PeaceRing$Word", "PeaceRing$Word", "PeaceRing$Word", "PeaceRing$Word", "PeaceRing$Word", "PeaceRing$Word", "PeaceRing$Word", "PeaceRing$Word", "PeaceRing$Word", "PeaceRing$Word", "PeaceRing$Word", "PeaceRing$Word", "PeaceRing$Word", "PeaceRing$Word", "PeaceRing$Word", "PeaceRing$Word", "PeaceRing$Word", "PeaceRing$Word"]
def zsx : List Nat := [52, 54, 56, 58, 60, 62, 64, 257, 259, 261, 263, 265, 267, 255, 227, 238, 240, 242, 244, 246, 248, 250, 225, 213, 275, 277, 131, 139, 151, 154, 157, 172, 220, 223, 175, 166, 169, 142, 145, 148, 160, 163, 217, 178, 181, 184, 187, 190, 193, 196, 199, 202, 205, 208, 211, 214]
def zst_ : List String := ["theft", "blow", "killing", "debt", "oath", "treason", "any", "mile", "forty", "measure", "lanes", "straight", "cost", "if", "not", "age", "times", "degree", "inside", "night", "against", "above", "and", "or", "count", "fail", "", "mile", "forty", "cost", "if", "not", "(", ")", "above", "and", "or", "measure", "lanes", "straight", "count", "fail", ";", "theft", "blow", "killing", "debt", "oath", "treason", "any", "age", "times", "degree", "inside", "night", "against"]
def ztx : List Nat := [26, 26, 26, 27, 37, 38, 39, 28, 29, 30, 40, 41, 35, 36, 31, 34, 43, 44, 45, 46, 47, 48, 49, 50, 51, 52, 53, 54, 55, 42, 32, 33]
def zbi : List Int32 := [0, 0, 0, 0, 0, 0, 0, 0, 0, 0, 0, 0, 0, 0, 0, 0, 1, 2, 4, 8, 16, 32, 64, 0, 0, 0, 0, 0, 0, 0, 0, 0]
def zco : List Int32 := [(-1), (-1), (-1), (-1), (-1), (-1), (-1), (-1), (-1), (-1), (-1), (-1), (-1), (-1), (-1), (-1), (-1), (-1), (-1), (-1), (-1), (-1), (-1), 0, 1, 2, 3, 4, 5, (-1), (-1), (-1)]
abbrev zse (i : Nat) : Term := .static "PeaceRing$Word" (zen.getD i "") "LPeaceRing$Word;"
abbrev zss (i : Nat) : Term := .string (zso.getD i "") (zsx.getD i 0)
section ST
variable {args : Array Value} {s : State}
theorem zh_ex (h : zGv.before args s = true) : ∀ i, i < 32 → (Jvm.Cond.exactly (zse i) "PeaceRing$Word").before args s = true := by
  intro i hi
  match i, hi with
  | 0, _ => exact zg_41 h
  | 1, _ => exact zg_51 h
  | 2, _ => exact zg_56 h
  | 3, _ => exact zg_61 h
  | 4, _ => exact zg_111 h
  | 5, _ => exact zg_116 h
  | 6, _ => exact zg_121 h
  | 7, _ => exact zg_66 h
  | 8, _ => exact zg_71 h
  | 9, _ => exact zg_76 h
  | 10, _ => exact zg_126 h
  | 11, _ => exact zg_131 h
  | 12, _ => exact zg_101 h
  | 13, _ => exact zg_106 h
  | 14, _ => exact zg_81 h
  | 15, _ => exact zg_96 h
  | 16, _ => exact zg_151 h
  | 17, _ => exact zg_156 h
  | 18, _ => exact zg_161 h
  | 19, _ => exact zg_166 h
  | 20, _ => exact zg_171 h
  | 21, _ => exact zg_176 h
  | 22, _ => exact zg_181 h
  | 23, _ => exact zg_186 h
  | 24, _ => exact zg_191 h
  | 25, _ => exact zg_196 h
  | 26, _ => exact zg_201 h
  | 27, _ => exact zg_206 h
  | 28, _ => exact zg_211 h
  | 29, _ => exact zg_136 h
  | 30, _ => exact zg_86 h
  | 31, _ => exact zg_91 h
  | i + 32, hi => exact absurd hi (by omega)
theorem zh_od (h : zGv.before args s = true) : ∀ i, i < 32 → (Jvm.Cond.eq (.field (zse i) "java/lang/Enum" "ordinal" "I") (.int (Int32.ofNat i))).before args s = true := by
  intro i hi
  match i, hi with
  | 0, _ => exact zg_42 h
  | 1, _ => exact zg_52 h
  | 2, _ => exact zg_57 h
  | 3, _ => exact zg_62 h
  | 4, _ => exact zg_112 h
  | 5, _ => exact zg_117 h
  | 6, _ => exact zg_122 h
  | 7, _ => exact zg_67 h
  | 8, _ => exact zg_72 h
  | 9, _ => exact zg_77 h
  | 10, _ => exact zg_127 h
  | 11, _ => exact zg_132 h
  | 12, _ => exact zg_102 h
  | 13, _ => exact zg_107 h
  | 14, _ => exact zg_82 h
  | 15, _ => exact zg_97 h
  | 16, _ => exact zg_152 h
  | 17, _ => exact zg_157 h
  | 18, _ => exact zg_162 h
  | 19, _ => exact zg_167 h
  | 20, _ => exact zg_172 h
  | 21, _ => exact zg_177 h
  | 22, _ => exact zg_182 h
  | 23, _ => exact zg_187 h
  | 24, _ => exact zg_192 h
  | 25, _ => exact zg_197 h
  | 26, _ => exact zg_202 h
  | 27, _ => exact zg_207 h
  | 28, _ => exact zg_212 h
  | 29, _ => exact zg_137 h
  | 30, _ => exact zg_87 h
  | 31, _ => exact zg_92 h
  | i + 32, hi => exact absurd hi (by omega)
theorem zh_tx (h : zGv.before args s = true) : ∀ i, i < 32 → (Jvm.Cond.eq (.field (zse i) "PeaceRing$Word" "text" "Ljava/lang/String;") (zss (ztx.getD i 0))).before args s = true := by
  intro i hi
  match i, hi with
  | 0, _ => exact zg_43 h
  | 1, _ => exact zg_53 h
  | 2, _ => exact zg_58 h
  | 3, _ => exact zg_63 h
  | 4, _ => exact zg_113 h
  | 5, _ => exact zg_118 h
  | 6, _ => exact zg_123 h
  | 7, _ => exact zg_68 h
  | 8, _ => exact zg_73 h
  | 9, _ => exact zg_78 h
  | 10, _ => exact zg_128 h
  | 11, _ => exact zg_133 h
  | 12, _ => exact zg_103 h
  | 13, _ => exact zg_108 h
  | 14, _ => exact zg_83 h
  | 15, _ => exact zg_98 h
  | 16, _ => exact zg_153 h
  | 17, _ => exact zg_158 h
  | 18, _ => exact zg_163 h
  | 19, _ => exact zg_168 h
  | 20, _ => exact zg_173 h
  | 21, _ => exact zg_178 h
  | 22, _ => exact zg_183 h
  | 23, _ => exact zg_188 h
  | 24, _ => exact zg_193 h
  | 25, _ => exact zg_198 h
  | 26, _ => exact zg_203 h
  | 27, _ => exact zg_208 h
  | 28, _ => exact zg_213 h
  | 29, _ => exact zg_138 h
  | 30, _ => exact zg_88 h
  | 31, _ => exact zg_93 h
  | i + 32, hi => exact absurd hi (by omega)
theorem zh_bi (h : zGv.before args s = true) : ∀ i, i < 32 → (Jvm.Cond.eq (.field (zse i) "PeaceRing$Word" "bit" "I") (.int (zbi.getD i 0))).before args s = true := by
  intro i hi
  match i, hi with
  | 0, _ => exact zg_44 h
  | 1, _ => exact zg_54 h
  | 2, _ => exact zg_59 h
  | 3, _ => exact zg_64 h
  | 4, _ => exact zg_114 h
  | 5, _ => exact zg_119 h
  | 6, _ => exact zg_124 h
  | 7, _ => exact zg_69 h
  | 8, _ => exact zg_74 h
  | 9, _ => exact zg_79 h
  | 10, _ => exact zg_129 h
  | 11, _ => exact zg_134 h
  | 12, _ => exact zg_104 h
  | 13, _ => exact zg_109 h
  | 14, _ => exact zg_84 h
  | 15, _ => exact zg_99 h
  | 16, _ => exact zg_154 h
  | 17, _ => exact zg_159 h
  | 18, _ => exact zg_164 h
  | 19, _ => exact zg_169 h
  | 20, _ => exact zg_174 h
  | 21, _ => exact zg_179 h
  | 22, _ => exact zg_184 h
  | 23, _ => exact zg_189 h
  | 24, _ => exact zg_194 h
  | 25, _ => exact zg_199 h
  | 26, _ => exact zg_204 h
  | 27, _ => exact zg_209 h
  | 28, _ => exact zg_214 h
  | 29, _ => exact zg_139 h
  | 30, _ => exact zg_89 h
  | 31, _ => exact zg_94 h
  | i + 32, hi => exact absurd hi (by omega)
theorem zh_co (h : zGv.before args s = true) : ∀ i, i < 32 → (Jvm.Cond.eq (.field (zse i) "PeaceRing$Word" "code" "I") (.int (zco.getD i 0))).before args s = true := by
  intro i hi
  match i, hi with
  | 0, _ => exact zg_45 h
  | 1, _ => exact zg_55 h
  | 2, _ => exact zg_60 h
  | 3, _ => exact zg_65 h
  | 4, _ => exact zg_115 h
  | 5, _ => exact zg_120 h
  | 6, _ => exact zg_125 h
  | 7, _ => exact zg_70 h
  | 8, _ => exact zg_75 h
  | 9, _ => exact zg_80 h
  | 10, _ => exact zg_130 h
  | 11, _ => exact zg_135 h
  | 12, _ => exact zg_105 h
  | 13, _ => exact zg_110 h
  | 14, _ => exact zg_85 h
  | 15, _ => exact zg_100 h
  | 16, _ => exact zg_155 h
  | 17, _ => exact zg_160 h
  | 18, _ => exact zg_165 h
  | 19, _ => exact zg_170 h
  | 20, _ => exact zg_175 h
  | 21, _ => exact zg_180 h
  | 22, _ => exact zg_185 h
  | 23, _ => exact zg_190 h
  | 24, _ => exact zg_195 h
  | 25, _ => exact zg_200 h
  | 26, _ => exact zg_205 h
  | 27, _ => exact zg_210 h
  | 28, _ => exact zg_215 h
  | 29, _ => exact zg_140 h
  | 30, _ => exact zg_90 h
  | 31, _ => exact zg_95 h
  | i + 32, hi => exact absurd hi (by omega)
theorem zh_ve (h : zGv.before args s = true) : ∀ i, i < 32 → (Jvm.Cond.eq (.elem (.static "PeaceRing$Word" "$VALUES" "[LPeaceRing$Word;") (.int (Int32.ofNat i))) (zse i)).before args s = true := by
  intro i hi
  match i, hi with
  | 0, _ => exact zg_9 h
  | 1, _ => exact zg_10 h
  | 2, _ => exact zg_11 h
  | 3, _ => exact zg_12 h
  | 4, _ => exact zg_13 h
  | 5, _ => exact zg_14 h
  | 6, _ => exact zg_15 h
  | 7, _ => exact zg_16 h
  | 8, _ => exact zg_17 h
  | 9, _ => exact zg_18 h
  | 10, _ => exact zg_19 h
  | 11, _ => exact zg_20 h
  | 12, _ => exact zg_21 h
  | 13, _ => exact zg_22 h
  | 14, _ => exact zg_23 h
  | 15, _ => exact zg_24 h
  | 16, _ => exact zg_25 h
  | 17, _ => exact zg_26 h
  | 18, _ => exact zg_27 h
  | 19, _ => exact zg_28 h
  | 20, _ => exact zg_29 h
  | 21, _ => exact zg_30 h
  | 22, _ => exact zg_31 h
  | 23, _ => exact zg_32 h
  | 24, _ => exact zg_33 h
  | 25, _ => exact zg_34 h
  | 26, _ => exact zg_35 h
  | 27, _ => exact zg_36 h
  | 28, _ => exact zg_37 h
  | 29, _ => exact zg_38 h
  | 30, _ => exact zg_39 h
  | 31, _ => exact zg_40 h
  | i + 32, hi => exact absurd hi (by omega)
theorem zh_sx (h : zGv.before args s = true) : ∀ i, i < 56 → (Jvm.Cond.exactly (zss i) "java/lang/String").before args s = true := by
  intro i hi
  match i, hi with
  | 0, _ => exact zg_242 h
  | 1, _ => exact zg_251 h
  | 2, _ => exact zg_259 h
  | 3, _ => exact zg_270 h
  | 4, _ => exact zg_278 h
  | 5, _ => exact zg_286 h
  | 6, _ => exact zg_297 h
  | 7, _ => exact zg_304 h
  | 8, _ => exact zg_312 h
  | 9, _ => exact zg_321 h
  | 10, _ => exact zg_332 h
  | 11, _ => exact zg_341 h
  | 12, _ => exact zg_353 h
  | 13, _ => exact zg_361 h
  | 14, _ => exact zg_367 h
  | 15, _ => exact zg_374 h
  | 16, _ => exact zg_381 h
  | 17, _ => exact zg_390 h
  | 18, _ => exact zg_400 h
  | 19, _ => exact zg_410 h
  | 20, _ => exact zg_419 h
  | 21, _ => exact zg_430 h
  | 22, _ => exact zg_439 h
  | 23, _ => exact zg_446 h
  | 24, _ => exact zg_452 h
  | 25, _ => exact zg_461 h
  | 26, _ => exact zg_469 h
  | 27, _ => exact zg_473 h
  | 28, _ => exact zg_482 h
  | 29, _ => exact zg_492 h
  | 30, _ => exact zg_501 h
  | 31, _ => exact zg_508 h
  | 32, _ => exact zg_516 h
  | 33, _ => exact zg_521 h
  | 34, _ => exact zg_526 h
  | 35, _ => exact zg_536 h
  | 36, _ => exact zg_544 h
  | 37, _ => exact zg_551 h
  | 38, _ => exact zg_563 h
  | 39, _ => exact zg_573 h
  | 40, _ => exact zg_586 h
  | 41, _ => exact zg_596 h
  | 42, _ => exact zg_605 h
  | 43, _ => exact zg_610 h
  | 44, _ => exact zg_620 h
  | 45, _ => exact zg_629 h
  | 46, _ => exact zg_641 h
  | 47, _ => exact zg_650 h
  | 48, _ => exact zg_659 h
  | 49, _ => exact zg_671 h
  | 50, _ => exact zg_679 h
  | 51, _ => exact zg_687 h
  | 52, _ => exact zg_697 h
  | 53, _ => exact zg_708 h
  | 54, _ => exact zg_719 h
  | 55, _ => exact zg_729 h
  | i + 56, hi => exact absurd hi (by omega)
theorem zh_sc (h : zGv.before args s = true) : ∀ i, i < 56 → (Jvm.Cond.eq (.field (zss i) "java/lang/String" "coder" "B") (.int 0)).before args s = true := by
  intro i hi
  match i, hi with
  | 0, _ => exact zg_243 h
  | 1, _ => exact zg_252 h
  | 2, _ => exact zg_260 h
  | 3, _ => exact zg_271 h
  | 4, _ => exact zg_279 h
  | 5, _ => exact zg_287 h
  | 6, _ => exact zg_298 h
  | 7, _ => exact zg_305 h
  | 8, _ => exact zg_313 h
  | 9, _ => exact zg_322 h
  | 10, _ => exact zg_333 h
  | 11, _ => exact zg_342 h
  | 12, _ => exact zg_354 h
  | 13, _ => exact zg_362 h
  | 14, _ => exact zg_368 h
  | 15, _ => exact zg_375 h
  | 16, _ => exact zg_382 h
  | 17, _ => exact zg_391 h
  | 18, _ => exact zg_401 h
  | 19, _ => exact zg_411 h
  | 20, _ => exact zg_420 h
  | 21, _ => exact zg_431 h
  | 22, _ => exact zg_440 h
  | 23, _ => exact zg_447 h
  | 24, _ => exact zg_453 h
  | 25, _ => exact zg_462 h
  | 26, _ => exact zg_470 h
  | 27, _ => exact zg_474 h
  | 28, _ => exact zg_483 h
  | 29, _ => exact zg_493 h
  | 30, _ => exact zg_502 h
  | 31, _ => exact zg_509 h
  | 32, _ => exact zg_517 h
  | 33, _ => exact zg_522 h
  | 34, _ => exact zg_527 h
  | 35, _ => exact zg_537 h
  | 36, _ => exact zg_545 h
  | 37, _ => exact zg_552 h
  | 38, _ => exact zg_564 h
  | 39, _ => exact zg_574 h
  | 40, _ => exact zg_587 h
  | 41, _ => exact zg_597 h
  | 42, _ => exact zg_606 h
  | 43, _ => exact zg_611 h
  | 44, _ => exact zg_621 h
  | 45, _ => exact zg_630 h
  | 46, _ => exact zg_642 h
  | 47, _ => exact zg_651 h
  | 48, _ => exact zg_660 h
  | 49, _ => exact zg_672 h
  | 50, _ => exact zg_680 h
  | 51, _ => exact zg_688 h
  | 52, _ => exact zg_698 h
  | 53, _ => exact zg_709 h
  | 54, _ => exact zg_720 h
  | 55, _ => exact zg_730 h
  | i + 56, hi => exact absurd hi (by omega)
theorem zh_sa (h : zGv.before args s = true) : ∀ i, i < 56 → (Jvm.Cond.arrayOf (.field (zss i) "java/lang/String" "value" "[B") .byte).before args s = true := by
  intro i hi
  match i, hi with
  | 0, _ => exact zg_244 h
  | 1, _ => exact zg_253 h
  | 2, _ => exact zg_261 h
  | 3, _ => exact zg_272 h
  | 4, _ => exact zg_280 h
  | 5, _ => exact zg_288 h
  | 6, _ => exact zg_299 h
  | 7, _ => exact zg_306 h
  | 8, _ => exact zg_314 h
  | 9, _ => exact zg_323 h
  | 10, _ => exact zg_334 h
  | 11, _ => exact zg_343 h
  | 12, _ => exact zg_355 h
  | 13, _ => exact zg_363 h
  | 14, _ => exact zg_369 h
  | 15, _ => exact zg_376 h
  | 16, _ => exact zg_383 h
  | 17, _ => exact zg_392 h
  | 18, _ => exact zg_402 h
  | 19, _ => exact zg_412 h
  | 20, _ => exact zg_421 h
  | 21, _ => exact zg_432 h
  | 22, _ => exact zg_441 h
  | 23, _ => exact zg_448 h
  | 24, _ => exact zg_454 h
  | 25, _ => exact zg_463 h
  | 26, _ => exact zg_471 h
  | 27, _ => exact zg_475 h
  | 28, _ => exact zg_484 h
  | 29, _ => exact zg_494 h
  | 30, _ => exact zg_503 h
  | 31, _ => exact zg_510 h
  | 32, _ => exact zg_518 h
  | 33, _ => exact zg_523 h
  | 34, _ => exact zg_528 h
  | 35, _ => exact zg_538 h
  | 36, _ => exact zg_546 h
  | 37, _ => exact zg_553 h
  | 38, _ => exact zg_565 h
  | 39, _ => exact zg_575 h
  | 40, _ => exact zg_588 h
  | 41, _ => exact zg_598 h
  | 42, _ => exact zg_607 h
  | 43, _ => exact zg_612 h
  | 44, _ => exact zg_622 h
  | 45, _ => exact zg_631 h
  | 46, _ => exact zg_643 h
  | 47, _ => exact zg_652 h
  | 48, _ => exact zg_661 h
  | 49, _ => exact zg_673 h
  | 50, _ => exact zg_681 h
  | 51, _ => exact zg_689 h
  | 52, _ => exact zg_699 h
  | 53, _ => exact zg_710 h
  | 54, _ => exact zg_721 h
  | 55, _ => exact zg_731 h
  | i + 56, hi => exact absurd hi (by omega)
theorem zh_sl (h : zGv.before args s = true) : ∀ i, i < 56 → (Jvm.Cond.eq (.length (.field (zss i) "java/lang/String" "value" "[B")) (.int (Int32.ofNat (zbyl.getD i []).length))).before args s = true := by
  intro i hi
  match i, hi with
  | 0, _ => exact zg_245 h
  | 1, _ => exact zg_254 h
  | 2, _ => exact zg_262 h
  | 3, _ => exact zg_273 h
  | 4, _ => exact zg_281 h
  | 5, _ => exact zg_289 h
  | 6, _ => exact zg_300 h
  | 7, _ => exact zg_307 h
  | 8, _ => exact zg_315 h
  | 9, _ => exact zg_324 h
  | 10, _ => exact zg_335 h
  | 11, _ => exact zg_344 h
  | 12, _ => exact zg_356 h
  | 13, _ => exact zg_364 h
  | 14, _ => exact zg_370 h
  | 15, _ => exact zg_377 h
  | 16, _ => exact zg_384 h
  | 17, _ => exact zg_393 h
  | 18, _ => exact zg_403 h
  | 19, _ => exact zg_413 h
  | 20, _ => exact zg_422 h
  | 21, _ => exact zg_433 h
  | 22, _ => exact zg_442 h
  | 23, _ => exact zg_449 h
  | 24, _ => exact zg_455 h
  | 25, _ => exact zg_464 h
  | 26, _ => exact zg_472 h
  | 27, _ => exact zg_476 h
  | 28, _ => exact zg_485 h
  | 29, _ => exact zg_495 h
  | 30, _ => exact zg_504 h
  | 31, _ => exact zg_511 h
  | 32, _ => exact zg_519 h
  | 33, _ => exact zg_524 h
  | 34, _ => exact zg_529 h
  | 35, _ => exact zg_539 h
  | 36, _ => exact zg_547 h
  | 37, _ => exact zg_554 h
  | 38, _ => exact zg_566 h
  | 39, _ => exact zg_576 h
  | 40, _ => exact zg_589 h
  | 41, _ => exact zg_599 h
  | 42, _ => exact zg_608 h
  | 43, _ => exact zg_613 h
  | 44, _ => exact zg_623 h
  | 45, _ => exact zg_632 h
  | 46, _ => exact zg_644 h
  | 47, _ => exact zg_653 h
  | 48, _ => exact zg_662 h
  | 49, _ => exact zg_674 h
  | 50, _ => exact zg_682 h
  | 51, _ => exact zg_690 h
  | 52, _ => exact zg_700 h
  | 53, _ => exact zg_711 h
  | 54, _ => exact zg_722 h
  | 55, _ => exact zg_732 h
  | i + 56, hi => exact absurd hi (by omega)
theorem zh_ae (h : zGv.before args s = true) : ∀ i, i < 7 → (Jvm.Cond.eq (.elem (.static "PeaceRing$Host" "ABOVE" "[I") (.int (Int32.ofNat i))) (.int (([-1, 0, 1, 2, 0, 0, 5] : List Int32).getD i 0))).before args s = true := by
  intro i hi
  match i, hi with
  | 0, _ => exact zg_144 h
  | 1, _ => exact zg_145 h
  | 2, _ => exact zg_146 h
  | 3, _ => exact zg_147 h
  | 4, _ => exact zg_148 h
  | 5, _ => exact zg_149 h
  | 6, _ => exact zg_150 h
  | i + 7, hi => exact absurd hi (by omega)
theorem zh_se (h : zGv.before args s = true) : ∀ i, i < 56 → ∀ j, j < (zbyl.getD i []).length → (Jvm.Cond.eq (.elem (.field (zss i) "java/lang/String" "value" "[B") (.int (Int32.ofNat j))) (.int ((zbyl.getD i []).getD j 0))).before args s = true := by
  intro i hi
  match i, hi with
  | 0, _ =>
    intro j hj
    match j, hj with
    | 0, _ => exact zg_246 h
    | 1, _ => exact zg_247 h
    | 2, _ => exact zg_248 h
    | 3, _ => exact zg_249 h
    | 4, _ => exact zg_250 h
    | j + 5, hj => exact absurd hj (by simp [zbyl])
  | 1, _ =>
    intro j hj
    match j, hj with
    | 0, _ => exact zg_255 h
    | 1, _ => exact zg_256 h
    | 2, _ => exact zg_257 h
    | 3, _ => exact zg_258 h
    | j + 4, hj => exact absurd hj (by simp [zbyl])
  | 2, _ =>
    intro j hj
    match j, hj with
    | 0, _ => exact zg_263 h
    | 1, _ => exact zg_264 h
    | 2, _ => exact zg_265 h
    | 3, _ => exact zg_266 h
    | 4, _ => exact zg_267 h
    | 5, _ => exact zg_268 h
    | 6, _ => exact zg_269 h
    | j + 7, hj => exact absurd hj (by simp [zbyl])
  | 3, _ =>
    intro j hj
    match j, hj with
    | 0, _ => exact zg_274 h
    | 1, _ => exact zg_275 h
    | 2, _ => exact zg_276 h
    | 3, _ => exact zg_277 h
    | j + 4, hj => exact absurd hj (by simp [zbyl])
  | 4, _ =>
    intro j hj
    match j, hj with
    | 0, _ => exact zg_282 h
    | 1, _ => exact zg_283 h
    | 2, _ => exact zg_284 h
    | 3, _ => exact zg_285 h
    | j + 4, hj => exact absurd hj (by simp [zbyl])
  | 5, _ =>
    intro j hj
    match j, hj with
    | 0, _ => exact zg_290 h
    | 1, _ => exact zg_291 h
    | 2, _ => exact zg_292 h
    | 3, _ => exact zg_293 h
    | 4, _ => exact zg_294 h
    | 5, _ => exact zg_295 h
    | 6, _ => exact zg_296 h
    | j + 7, hj => exact absurd hj (by simp [zbyl])
  | 6, _ =>
    intro j hj
    match j, hj with
    | 0, _ => exact zg_301 h
    | 1, _ => exact zg_302 h
    | 2, _ => exact zg_303 h
    | j + 3, hj => exact absurd hj (by simp [zbyl])
  | 7, _ =>
    intro j hj
    match j, hj with
    | 0, _ => exact zg_308 h
    | 1, _ => exact zg_309 h
    | 2, _ => exact zg_310 h
    | 3, _ => exact zg_311 h
    | j + 4, hj => exact absurd hj (by simp [zbyl])
  | 8, _ =>
    intro j hj
    match j, hj with
    | 0, _ => exact zg_316 h
    | 1, _ => exact zg_317 h
    | 2, _ => exact zg_318 h
    | 3, _ => exact zg_319 h
    | 4, _ => exact zg_320 h
    | j + 5, hj => exact absurd hj (by simp [zbyl])
  | 9, _ =>
    intro j hj
    match j, hj with
    | 0, _ => exact zg_325 h
    | 1, _ => exact zg_326 h
    | 2, _ => exact zg_327 h
    | 3, _ => exact zg_328 h
    | 4, _ => exact zg_329 h
    | 5, _ => exact zg_330 h
    | 6, _ => exact zg_331 h
    | j + 7, hj => exact absurd hj (by simp [zbyl])
  | 10, _ =>
    intro j hj
    match j, hj with
    | 0, _ => exact zg_336 h
    | 1, _ => exact zg_337 h
    | 2, _ => exact zg_338 h
    | 3, _ => exact zg_339 h
    | 4, _ => exact zg_340 h
    | j + 5, hj => exact absurd hj (by simp [zbyl])
  | 11, _ =>
    intro j hj
    match j, hj with
    | 0, _ => exact zg_345 h
    | 1, _ => exact zg_346 h
    | 2, _ => exact zg_347 h
    | 3, _ => exact zg_348 h
    | 4, _ => exact zg_349 h
    | 5, _ => exact zg_350 h
    | 6, _ => exact zg_351 h
    | 7, _ => exact zg_352 h
    | j + 8, hj => exact absurd hj (by simp [zbyl])
  | 12, _ =>
    intro j hj
    match j, hj with
    | 0, _ => exact zg_357 h
    | 1, _ => exact zg_358 h
    | 2, _ => exact zg_359 h
    | 3, _ => exact zg_360 h
    | j + 4, hj => exact absurd hj (by simp [zbyl])
  | 13, _ =>
    intro j hj
    match j, hj with
    | 0, _ => exact zg_365 h
    | 1, _ => exact zg_366 h
    | j + 2, hj => exact absurd hj (by simp [zbyl])
  | 14, _ =>
    intro j hj
    match j, hj with
    | 0, _ => exact zg_371 h
    | 1, _ => exact zg_372 h
    | 2, _ => exact zg_373 h
    | j + 3, hj => exact absurd hj (by simp [zbyl])
  | 15, _ =>
    intro j hj
    match j, hj with
    | 0, _ => exact zg_378 h
    | 1, _ => exact zg_379 h
    | 2, _ => exact zg_380 h
    | j + 3, hj => exact absurd hj (by simp [zbyl])
  | 16, _ =>
    intro j hj
    match j, hj with
    | 0, _ => exact zg_385 h
    | 1, _ => exact zg_386 h
    | 2, _ => exact zg_387 h
    | 3, _ => exact zg_388 h
    | 4, _ => exact zg_389 h
    | j + 5, hj => exact absurd hj (by simp [zbyl])
  | 17, _ =>
    intro j hj
    match j, hj with
    | 0, _ => exact zg_394 h
    | 1, _ => exact zg_395 h
    | 2, _ => exact zg_396 h
    | 3, _ => exact zg_397 h
    | 4, _ => exact zg_398 h
    | 5, _ => exact zg_399 h
    | j + 6, hj => exact absurd hj (by simp [zbyl])
  | 18, _ =>
    intro j hj
    match j, hj with
    | 0, _ => exact zg_404 h
    | 1, _ => exact zg_405 h
    | 2, _ => exact zg_406 h
    | 3, _ => exact zg_407 h
    | 4, _ => exact zg_408 h
    | 5, _ => exact zg_409 h
    | j + 6, hj => exact absurd hj (by simp [zbyl])
  | 19, _ =>
    intro j hj
    match j, hj with
    | 0, _ => exact zg_414 h
    | 1, _ => exact zg_415 h
    | 2, _ => exact zg_416 h
    | 3, _ => exact zg_417 h
    | 4, _ => exact zg_418 h
    | j + 5, hj => exact absurd hj (by simp [zbyl])
  | 20, _ =>
    intro j hj
    match j, hj with
    | 0, _ => exact zg_423 h
    | 1, _ => exact zg_424 h
    | 2, _ => exact zg_425 h
    | 3, _ => exact zg_426 h
    | 4, _ => exact zg_427 h
    | 5, _ => exact zg_428 h
    | 6, _ => exact zg_429 h
    | j + 7, hj => exact absurd hj (by simp [zbyl])
  | 21, _ =>
    intro j hj
    match j, hj with
    | 0, _ => exact zg_434 h
    | 1, _ => exact zg_435 h
    | 2, _ => exact zg_436 h
    | 3, _ => exact zg_437 h
    | 4, _ => exact zg_438 h
    | j + 5, hj => exact absurd hj (by simp [zbyl])
  | 22, _ =>
    intro j hj
    match j, hj with
    | 0, _ => exact zg_443 h
    | 1, _ => exact zg_444 h
    | 2, _ => exact zg_445 h
    | j + 3, hj => exact absurd hj (by simp [zbyl])
  | 23, _ =>
    intro j hj
    match j, hj with
    | 0, _ => exact zg_450 h
    | 1, _ => exact zg_451 h
    | j + 2, hj => exact absurd hj (by simp [zbyl])
  | 24, _ =>
    intro j hj
    match j, hj with
    | 0, _ => exact zg_456 h
    | 1, _ => exact zg_457 h
    | 2, _ => exact zg_458 h
    | 3, _ => exact zg_459 h
    | 4, _ => exact zg_460 h
    | j + 5, hj => exact absurd hj (by simp [zbyl])
  | 25, _ =>
    intro j hj
    match j, hj with
    | 0, _ => exact zg_465 h
    | 1, _ => exact zg_466 h
    | 2, _ => exact zg_467 h
    | 3, _ => exact zg_468 h
    | j + 4, hj => exact absurd hj (by simp [zbyl])
  | 26, _ =>
    intro j hj
    match j, hj with
    | j + 0, hj => exact absurd hj (by simp [zbyl])
  | 27, _ =>
    intro j hj
    match j, hj with
    | 0, _ => exact zg_477 h
    | 1, _ => exact zg_478 h
    | 2, _ => exact zg_479 h
    | 3, _ => exact zg_480 h
    | j + 4, hj => exact absurd hj (by simp [zbyl])
  | 28, _ =>
    intro j hj
    match j, hj with
    | 0, _ => exact zg_486 h
    | 1, _ => exact zg_487 h
    | 2, _ => exact zg_488 h
    | 3, _ => exact zg_489 h
    | 4, _ => exact zg_490 h
    | j + 5, hj => exact absurd hj (by simp [zbyl])
  | 29, _ =>
    intro j hj
    match j, hj with
    | 0, _ => exact zg_496 h
    | 1, _ => exact zg_497 h
    | 2, _ => exact zg_498 h
    | 3, _ => exact zg_499 h
    | j + 4, hj => exact absurd hj (by simp [zbyl])
  | 30, _ =>
    intro j hj
    match j, hj with
    | 0, _ => exact zg_505 h
    | 1, _ => exact zg_506 h
    | j + 2, hj => exact absurd hj (by simp [zbyl])
  | 31, _ =>
    intro j hj
    match j, hj with
    | 0, _ => exact zg_512 h
    | 1, _ => exact zg_513 h
    | 2, _ => exact zg_514 h
    | j + 3, hj => exact absurd hj (by simp [zbyl])
  | 32, _ =>
    intro j hj
    match j, hj with
    | 0, _ => exact zg_520 h
    | j + 1, hj => exact absurd hj (by simp [zbyl])
  | 33, _ =>
    intro j hj
    match j, hj with
    | 0, _ => exact zg_525 h
    | j + 1, hj => exact absurd hj (by simp [zbyl])
  | 34, _ =>
    intro j hj
    match j, hj with
    | 0, _ => exact zg_530 h
    | 1, _ => exact zg_531 h
    | 2, _ => exact zg_532 h
    | 3, _ => exact zg_533 h
    | 4, _ => exact zg_534 h
    | j + 5, hj => exact absurd hj (by simp [zbyl])
  | 35, _ =>
    intro j hj
    match j, hj with
    | 0, _ => exact zg_540 h
    | 1, _ => exact zg_541 h
    | 2, _ => exact zg_542 h
    | j + 3, hj => exact absurd hj (by simp [zbyl])
  | 36, _ =>
    intro j hj
    match j, hj with
    | 0, _ => exact zg_548 h
    | 1, _ => exact zg_549 h
    | j + 2, hj => exact absurd hj (by simp [zbyl])
  | 37, _ =>
    intro j hj
    match j, hj with
    | 0, _ => exact zg_555 h
    | 1, _ => exact zg_556 h
    | 2, _ => exact zg_557 h
    | 3, _ => exact zg_558 h
    | 4, _ => exact zg_559 h
    | 5, _ => exact zg_560 h
    | 6, _ => exact zg_561 h
    | j + 7, hj => exact absurd hj (by simp [zbyl])
  | 38, _ =>
    intro j hj
    match j, hj with
    | 0, _ => exact zg_567 h
    | 1, _ => exact zg_568 h
    | 2, _ => exact zg_569 h
    | 3, _ => exact zg_570 h
    | 4, _ => exact zg_571 h
    | j + 5, hj => exact absurd hj (by simp [zbyl])
  | 39, _ =>
    intro j hj
    match j, hj with
    | 0, _ => exact zg_577 h
    | 1, _ => exact zg_578 h
    | 2, _ => exact zg_579 h
    | 3, _ => exact zg_580 h
    | 4, _ => exact zg_581 h
    | 5, _ => exact zg_582 h
    | 6, _ => exact zg_583 h
    | 7, _ => exact zg_584 h
    | j + 8, hj => exact absurd hj (by simp [zbyl])
  | 40, _ =>
    intro j hj
    match j, hj with
    | 0, _ => exact zg_590 h
    | 1, _ => exact zg_591 h
    | 2, _ => exact zg_592 h
    | 3, _ => exact zg_593 h
    | 4, _ => exact zg_594 h
    | j + 5, hj => exact absurd hj (by simp [zbyl])
  | 41, _ =>
    intro j hj
    match j, hj with
    | 0, _ => exact zg_600 h
    | 1, _ => exact zg_601 h
    | 2, _ => exact zg_602 h
    | 3, _ => exact zg_603 h
    | j + 4, hj => exact absurd hj (by simp [zbyl])
  | 42, _ =>
    intro j hj
    match j, hj with
    | 0, _ => exact zg_609 h
    | j + 1, hj => exact absurd hj (by simp [zbyl])
  | 43, _ =>
    intro j hj
    match j, hj with
    | 0, _ => exact zg_614 h
    | 1, _ => exact zg_615 h
    | 2, _ => exact zg_616 h
    | 3, _ => exact zg_617 h
    | 4, _ => exact zg_618 h
    | j + 5, hj => exact absurd hj (by simp [zbyl])
  | 44, _ =>
    intro j hj
    match j, hj with
    | 0, _ => exact zg_624 h
    | 1, _ => exact zg_625 h
    | 2, _ => exact zg_626 h
    | 3, _ => exact zg_627 h
    | j + 4, hj => exact absurd hj (by simp [zbyl])
  | 45, _ =>
    intro j hj
    match j, hj with
    | 0, _ => exact zg_633 h
    | 1, _ => exact zg_634 h
    | 2, _ => exact zg_635 h
    | 3, _ => exact zg_636 h
    | 4, _ => exact zg_637 h
    | 5, _ => exact zg_638 h
    | 6, _ => exact zg_639 h
    | j + 7, hj => exact absurd hj (by simp [zbyl])
  | 46, _ =>
    intro j hj
    match j, hj with
    | 0, _ => exact zg_645 h
    | 1, _ => exact zg_646 h
    | 2, _ => exact zg_647 h
    | 3, _ => exact zg_648 h
    | j + 4, hj => exact absurd hj (by simp [zbyl])
  | 47, _ =>
    intro j hj
    match j, hj with
    | 0, _ => exact zg_654 h
    | 1, _ => exact zg_655 h
    | 2, _ => exact zg_656 h
    | 3, _ => exact zg_657 h
    | j + 4, hj => exact absurd hj (by simp [zbyl])
  | 48, _ =>
    intro j hj
    match j, hj with
    | 0, _ => exact zg_663 h
    | 1, _ => exact zg_664 h
    | 2, _ => exact zg_665 h
    | 3, _ => exact zg_666 h
    | 4, _ => exact zg_667 h
    | 5, _ => exact zg_668 h
    | 6, _ => exact zg_669 h
    | j + 7, hj => exact absurd hj (by simp [zbyl])
  | 49, _ =>
    intro j hj
    match j, hj with
    | 0, _ => exact zg_675 h
    | 1, _ => exact zg_676 h
    | 2, _ => exact zg_677 h
    | j + 3, hj => exact absurd hj (by simp [zbyl])
  | 50, _ =>
    intro j hj
    match j, hj with
    | 0, _ => exact zg_683 h
    | 1, _ => exact zg_684 h
    | 2, _ => exact zg_685 h
    | j + 3, hj => exact absurd hj (by simp [zbyl])
  | 51, _ =>
    intro j hj
    match j, hj with
    | 0, _ => exact zg_691 h
    | 1, _ => exact zg_692 h
    | 2, _ => exact zg_693 h
    | 3, _ => exact zg_694 h
    | 4, _ => exact zg_695 h
    | j + 5, hj => exact absurd hj (by simp [zbyl])
  | 52, _ =>
    intro j hj
    match j, hj with
    | 0, _ => exact zg_701 h
    | 1, _ => exact zg_702 h
    | 2, _ => exact zg_703 h
    | 3, _ => exact zg_704 h
    | 4, _ => exact zg_705 h
    | 5, _ => exact zg_706 h
    | j + 6, hj => exact absurd hj (by simp [zbyl])
  | 53, _ =>
    intro j hj
    match j, hj with
    | 0, _ => exact zg_712 h
    | 1, _ => exact zg_713 h
    | 2, _ => exact zg_714 h
    | 3, _ => exact zg_715 h
    | 4, _ => exact zg_716 h
    | 5, _ => exact zg_717 h
    | j + 6, hj => exact absurd hj (by simp [zbyl])
  | 54, _ =>
    intro j hj
    match j, hj with
    | 0, _ => exact zg_723 h
    | 1, _ => exact zg_724 h
    | 2, _ => exact zg_725 h
    | 3, _ => exact zg_726 h
    | 4, _ => exact zg_727 h
    | j + 5, hj => exact absurd hj (by simp [zbyl])
  | 55, _ =>
    intro j hj
    match j, hj with
    | 0, _ => exact zg_733 h
    | 1, _ => exact zg_734 h
    | 2, _ => exact zg_735 h
    | 3, _ => exact zg_736 h
    | 4, _ => exact zg_737 h
    | 5, _ => exact zg_738 h
    | 6, _ => exact zg_739 h
    | j + 7, hj => exact absurd hj (by simp [zbyl])
  | i + 56, hi => exact absurd hi (by omega)
end ST
def zsw_ : List Nat := [1473, 1474, 1475, 1476, 1477, 1478, 1479, 1723, 1738, 1739, 1740, 1741, 1742, 1747, 1760, 1765, 1766, 1767, 1768, 1769, 1770, 1771, 1776, 1777, 1782, 1783, 2120, 2121, 2122, 2123, 2124, 2125, 2126, 2127, 2128, 2129, 2130, 2131, 2132, 2133, 2134, 2135, 2136, 2137, 2138, 2139, 2140, 2141, 2142, 2143, 2144, 2145, 2146, 2147, 2148, 2149]
theorem zsw_ok : (List.range 56).all (fun i => decide (lw_tbl[zsw_.getD i 0]? = some (Jvm.Cond.stringRef (zso.getD i "") (zsx.getD i 0) (zst_.getD i "")))) = true := by decide +kernel
def zlw_ : List (Nat × Nat) := [(1404, 121), (320, 115), (969, 115), (869, 115), (859, 115), (883, 115), (905, 115), (907, 115), (951, 115), (957, 115), (959, 115), (947, 115), (965, 115), (967, 115), (913, 115), (949, 115), (927, 115), (929, 115), (935, 115), (945, 115), (309, 115), (819, 125), (835, 127)]
theorem zlw_ok : (List.range 23).all (fun i => match zsnl[i]? with | some (C, n, d) => decide (lw_tbl[(zlw_.getD i (0, 0)).1]? = some (Jvm.Cond.laysStatic C n d)) && decide (lw_tbl[(zlw_.getD i (0, 0)).2]? = some (Jvm.Cond.initialized C)) | none => false) = true := by decide +kernel
theorem zw_ao0 : Jvm.Cond.arrayOver (FieldType.object "PeaceRing$Word") ∈ lw_tbl := List.mem_of_getElem? (i := 316) (by decide +kernel)
theorem zw_ao1 : Jvm.Cond.arrayOver (FieldType.object "PeaceRing$Version") ∈ lw_tbl := List.mem_of_getElem? (i := 146) (by decide +kernel)
theorem zw_ao2 : Jvm.Cond.arrayOver (FieldType.object "java/lang/String") ∈ lw_tbl := List.mem_of_getElem? (i := 1472) (by decide +kernel)
theorem zw_ao3 : Jvm.Cond.arrayOver (FieldType.array FieldType.int) ∈ lw_tbl := List.mem_of_getElem? (i := 364) (by decide +kernel)
theorem zw_cl : Jvm.Cond.castable "[LPeaceRing$Word;" "java/lang/Cloneable" ∈ lw_tbl := List.mem_of_getElem? (i := 315) (by decide +kernel)
