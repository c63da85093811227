/-! Checks of the tables. -/
theorem zkk_60_0 : zk_60_0.all (zec zpool 4 "isNeeded" prog_5_method_9_code) = true := by decide +kernel
theorem zmk_60 : zmck zowns zpool zm_60 = true := zmck_of (by decide +kernel) (List.forall_mem_cons.mpr ⟨zkk_60_0, fun _ h => absurd h List.not_mem_nil⟩)
theorem zkk_61_0 : zk_61_0.all (zec zpool 4 "meetsNeeds" prog_5_method_10_code) = true := by decide +kernel
theorem zmk_61 : zmck zowns zpool zm_61 = true := zmck_of (by decide +kernel) (List.forall_mem_cons.mpr ⟨zkk_61_0, fun _ h => absurd h List.not_mem_nil⟩)
theorem zkk_62_0 : zk_62_0.all (zec zpool 5 "<init>" prog_6_method_1_code) = true := by decide +kernel
theorem zmk_62 : zmck zowns zpool zm_62 = true := zmck_of (by decide +kernel) (List.forall_mem_cons.mpr ⟨zkk_62_0, fun _ h => absurd h List.not_mem_nil⟩)
theorem zkk_63_0 : zk_63_0.all (zec zpool 5 "append" prog_6_method_2_code) = true := by decide +kernel
theorem zmk_63 : zmck zowns zpool zm_63 = true := zmck_of (by decide +kernel) (List.forall_mem_cons.mpr ⟨zkk_63_0, fun _ h => absurd h List.not_mem_nil⟩)
theorem zkk_64_0 : zk_64_0.all (zec zpool 5 "empty" prog_6_method_3_code) = true := by decide +kernel
theorem zmk_64 : zmck zowns zpool zm_64 = true := zmck_of (by decide +kernel) (List.forall_mem_cons.mpr ⟨zkk_64_0, fun _ h => absurd h List.not_mem_nil⟩)
theorem zkk_65_0 : zk_65_0.all (zec zpool 5 "faultPlace" prog_6_method_4_code) = true := by decide +kernel
theorem zmk_65 : zmck zowns zpool zm_65 = true := zmck_of (by decide +kernel) (List.forall_mem_cons.mpr ⟨zkk_65_0, fun _ h => absurd h List.not_mem_nil⟩)
theorem zkk_66_0 : zk_66_0.all (zec zpool 5 "parse" prog_6_method_5_code) = true := by decide +kernel
theorem zmk_66 : zmck zowns zpool zm_66 = true := zmck_of (by decide +kernel) (List.forall_mem_cons.mpr ⟨zkk_66_0, fun _ h => absurd h List.not_mem_nil⟩)
theorem zkk_67_0 : zk_67_0.all (zec zpool 5 "splitWords" prog_6_method_6_code) = true := by decide +kernel
theorem zkk_67_1 : zk_67_1.all (zec zpool 5 "splitWords" prog_6_method_6_code) = true := by decide +kernel
theorem zkk_67_2 : zk_67_2.all (zec zpool 5 "splitWords" prog_6_method_6_code) = true := by decide +kernel
theorem zmk_67 : zmck zowns zpool zm_67 = true := zmck_of (by decide +kernel) (List.forall_mem_cons.mpr ⟨zkk_67_0, List.forall_mem_cons.mpr ⟨zkk_67_1, List.forall_mem_cons.mpr ⟨zkk_67_2, fun _ h => absurd h List.not_mem_nil⟩⟩⟩)
theorem zkk_68_0 : zk_68_0.all (zec zpool 5 "addWord" prog_6_method_7_code) = true := by decide +kernel
theorem zmk_68 : zmck zowns zpool zm_68 = true := zmck_of (by decide +kernel) (List.forall_mem_cons.mpr ⟨zkk_68_0, fun _ h => absurd h List.not_mem_nil⟩)
theorem zkk_69_0 : zk_69_0.all (zec zpool 5 "isLetter" prog_6_method_8_code) = true := by decide +kernel
theorem zmk_69 : zmck zowns zpool zm_69 = true := zmck_of (by decide +kernel) (List.forall_mem_cons.mpr ⟨zkk_69_0, fun _ h => absurd h List.not_mem_nil⟩)
theorem zkk_70_0 : zk_70_0.all (zec zpool 5 "isDigit" prog_6_method_9_code) = true := by decide +kernel
theorem zmk_70 : zmck zowns zpool zm_70 = true := zmck_of (by decide +kernel) (List.forall_mem_cons.mpr ⟨zkk_70_0, fun _ h => absurd h List.not_mem_nil⟩)
theorem zkk_71_0 : zk_71_0.all (zec zpool 5 "wordFrom" prog_6_method_10_code) = true := by decide +kernel
theorem zmk_71 : zmck zowns zpool zm_71 = true := zmck_of (by decide +kernel) (List.forall_mem_cons.mpr ⟨zkk_71_0, fun _ h => absurd h List.not_mem_nil⟩)
theorem zkk_72_0 : zk_72_0.all (zec zpool 5 "isSpelled" prog_6_method_11_code) = true := by decide +kernel
theorem zmk_72 : zmck zowns zpool zm_72 = true := zmck_of (by decide +kernel) (List.forall_mem_cons.mpr ⟨zkk_72_0, fun _ h => absurd h List.not_mem_nil⟩)
theorem zkk_73_0 : zk_73_0.all (zec zpool 5 "numberFrom" prog_6_method_12_code) = true := by decide +kernel
theorem zmk_73 : zmck zowns zpool zm_73 = true := zmck_of (by decide +kernel) (List.forall_mem_cons.mpr ⟨zkk_73_0, fun _ h => absurd h List.not_mem_nil⟩)
theorem zkk_74_0 : zk_74_0.all (zec zpool 5 "advance" prog_6_method_13_code) = true := by decide +kernel
theorem zmk_74 : zmck zowns zpool zm_74 = true := zmck_of (by decide +kernel) (List.forall_mem_cons.mpr ⟨zkk_74_0, fun _ h => absurd h List.not_mem_nil⟩)
theorem zkk_75_0 : zk_75_0.all (zec zpool 5 "pass" prog_6_method_14_code) = true := by decide +kernel
theorem zmk_75 : zmck zowns zpool zm_75 = true := zmck_of (by decide +kernel) (List.forall_mem_cons.mpr ⟨zkk_75_0, fun _ h => absurd h List.not_mem_nil⟩)
theorem zkk_76_0 : zk_76_0.all (zec zpool 5 "passNumber" prog_6_method_15_code) = true := by decide +kernel
theorem zmk_76 : zmck zowns zpool zm_76 = true := zmck_of (by decide +kernel) (List.forall_mem_cons.mpr ⟨zkk_76_0, fun _ h => absurd h List.not_mem_nil⟩)
theorem zkk_77_0 : zk_77_0.all (zec zpool 5 "parseLine" prog_6_method_16_code) = true := by decide +kernel
theorem zkk_77_1 : zk_77_1.all (zec zpool 5 "parseLine" prog_6_method_16_code) = true := by decide +kernel
theorem zmk_77 : zmck zowns zpool zm_77 = true := zmck_of (by decide +kernel) (List.forall_mem_cons.mpr ⟨zkk_77_0, List.forall_mem_cons.mpr ⟨zkk_77_1, fun _ h => absurd h List.not_mem_nil⟩⟩)
theorem zkk_78_0 : zk_78_0.all (zec zpool 5 "parseNumberLine" prog_6_method_17_code) = true := by decide +kernel
theorem zmk_78 : zmck zowns zpool zm_78 = true := zmck_of (by decide +kernel) (List.forall_mem_cons.mpr ⟨zkk_78_0, fun _ h => absurd h List.not_mem_nil⟩)
theorem zkk_79_0 : zk_79_0.all (zec zpool 5 "parseMeasure" prog_6_method_18_code) = true := by decide +kernel
theorem zmk_79 : zmck zowns zpool zm_79 = true := zmck_of (by decide +kernel) (List.forall_mem_cons.mpr ⟨zkk_79_0, fun _ h => absurd h List.not_mem_nil⟩)
theorem zkk_80_0 : zk_80_0.all (zec zpool 5 "parseKinds" prog_6_method_19_code) = true := by decide +kernel
theorem zkk_80_1 : zk_80_1.all (zec zpool 5 "parseKinds" prog_6_method_19_code) = true := by decide +kernel
theorem zmk_80 : zmck zowns zpool zm_80 = true := zmck_of (by decide +kernel) (List.forall_mem_cons.mpr ⟨zkk_80_0, List.forall_mem_cons.mpr ⟨zkk_80_1, fun _ h => absurd h List.not_mem_nil⟩⟩)
theorem zkk_81_0 : zk_81_0.all (zec zpool 5 "parseIf" prog_6_method_20_code) = true := by decide +kernel
theorem zmk_81 : zmck zowns zpool zm_81 = true := zmck_of (by decide +kernel) (List.forall_mem_cons.mpr ⟨zkk_81_0, fun _ h => absurd h List.not_mem_nil⟩)
theorem zkk_82_0 : zk_82_0.all (zec zpool 5 "parseCondition" prog_6_method_21_code) = true := by decide +kernel
theorem zmk_82 : zmck zowns zpool zm_82 = true := zmck_of (by decide +kernel) (List.forall_mem_cons.mpr ⟨zkk_82_0, fun _ h => absurd h List.not_mem_nil⟩)
theorem zkk_83_0 : zk_83_0.all (zec zpool 5 "parseAll" prog_6_method_22_code) = true := by decide +kernel
theorem zmk_83 : zmck zowns zpool zm_83 = true := zmck_of (by decide +kernel) (List.forall_mem_cons.mpr ⟨zkk_83_0, fun _ h => absurd h List.not_mem_nil⟩)
theorem zkk_84_0 : zk_84_0.all (zec zpool 5 "parseOne" prog_6_method_23_code) = true := by decide +kernel
theorem zkk_84_1 : zk_84_1.all (zec zpool 5 "parseOne" prog_6_method_23_code) = true := by decide +kernel
theorem zmk_84 : zmck zowns zpool zm_84 = true := zmck_of (by decide +kernel) (List.forall_mem_cons.mpr ⟨zkk_84_0, List.forall_mem_cons.mpr ⟨zkk_84_1, fun _ h => absurd h List.not_mem_nil⟩⟩)
theorem zkk_85_0 : zk_85_0.all (zec zpool 5 "parseOpen" prog_6_method_24_code) = true := by decide +kernel
theorem zmk_85 : zmck zowns zpool zm_85 = true := zmck_of (by decide +kernel) (List.forall_mem_cons.mpr ⟨zkk_85_0, fun _ h => absurd h List.not_mem_nil⟩)
theorem zkk_86_0 : zk_86_0.all (zec zpool 5 "parseFact" prog_6_method_25_code) = true := by decide +kernel
theorem zkk_86_1 : zk_86_1.all (zec zpool 5 "parseFact" prog_6_method_25_code) = true := by decide +kernel
theorem zmk_86 : zmck zowns zpool zm_86 = true := zmck_of (by decide +kernel) (List.forall_mem_cons.mpr ⟨zkk_86_0, List.forall_mem_cons.mpr ⟨zkk_86_1, fun _ h => absurd h List.not_mem_nil⟩⟩)
theorem zkk_87_0 : zk_87_0.all (zec zpool 6 "<init>" prog_7_method_1_code) = true := by decide +kernel
theorem zkk_87_1 : zk_87_1.all (zec zpool 6 "<init>" prog_7_method_1_code) = true := by decide +kernel
theorem zkk_87_2 : zk_87_2.all (zec zpool 6 "<init>" prog_7_method_1_code) = true := by decide +kernel
theorem zmk_87 : zmck zowns zpool zm_87 = true := zmck_of (by decide +kernel) (List.forall_mem_cons.mpr ⟨zkk_87_0, List.forall_mem_cons.mpr ⟨zkk_87_1, List.forall_mem_cons.mpr ⟨zkk_87_2, fun _ h => absurd h List.not_mem_nil⟩⟩⟩)
theorem zkk_88_0 : zk_88_0.all (zec zpool 6 "spread" prog_7_method_2_code) = true := by decide +kernel
theorem zkk_88_1 : zk_88_1.all (zec zpool 6 "spread" prog_7_method_2_code) = true := by decide +kernel
theorem zkk_88_2 : zk_88_2.all (zec zpool 6 "spread" prog_7_method_2_code) = true := by decide +kernel
theorem zmk_88 : zmck zowns zpool zm_88 = true := zmck_of (by decide +kernel) (List.forall_mem_cons.mpr ⟨zkk_88_0, List.forall_mem_cons.mpr ⟨zkk_88_1, List.forall_mem_cons.mpr ⟨zkk_88_2, fun _ h => absurd h List.not_mem_nil⟩⟩⟩)
theorem zkk_89_0 : zk_89_0.all (zec zpool 6 "way" prog_7_method_3_code) = true := by decide +kernel
theorem zmk_89 : zmck zowns zpool zm_89 = true := zmck_of (by decide +kernel) (List.forall_mem_cons.mpr ⟨zkk_89_0, fun _ h => absurd h List.not_mem_nil⟩)
theorem zkk_90_0 : zk_90_0.all (zec zpool 6 "mapStones" prog_7_method_4_code) = true := by decide +kernel
theorem zmk_90 : zmck zowns zpool zm_90 = true := zmck_of (by decide +kernel) (List.forall_mem_cons.mpr ⟨zkk_90_0, fun _ h => absurd h List.not_mem_nil⟩)
theorem zkk_91_0 : zk_91_0.all (zec zpool 6 "couldBe" prog_7_method_5_code) = true := by decide +kernel
theorem zkk_91_1 : zk_91_1.all (zec zpool 6 "couldBe" prog_7_method_5_code) = true := by decide +kernel
theorem zkk_91_2 : zk_91_2.all (zec zpool 6 "couldBe" prog_7_method_5_code) = true := by decide +kernel
theorem zmk_91 : zmck zowns zpool zm_91 = true := zmck_of (by decide +kernel) (List.forall_mem_cons.mpr ⟨zkk_91_0, List.forall_mem_cons.mpr ⟨zkk_91_1, List.forall_mem_cons.mpr ⟨zkk_91_2, fun _ h => absurd h List.not_mem_nil⟩⟩⟩)
theorem zkk_92_0 : zk_92_0.all (zec zpool 7 "<init>" prog_8_method_1_code) = true := by decide +kernel
theorem zmk_92 : zmck zowns zpool zm_92 = true := zmck_of (by decide +kernel) (List.forall_mem_cons.mpr ⟨zkk_92_0, fun _ h => absurd h List.not_mem_nil⟩)
theorem zkk_93_0 : zk_93_0.all (zec zpool 7 "goOn" prog_8_method_2_code) = true := by decide +kernel
theorem zkk_93_1 : zk_93_1.all (zec zpool 7 "goOn" prog_8_method_2_code) = true := by decide +kernel
theorem zmk_93 : zmck zowns zpool zm_93 = true := zmck_of (by decide +kernel) (List.forall_mem_cons.mpr ⟨zkk_93_0, List.forall_mem_cons.mpr ⟨zkk_93_1, fun _ h => absurd h List.not_mem_nil⟩⟩)
theorem zkk_94_0 : zk_94_0.all (zec zpool 7 "mapAims" prog_8_method_3_code) = true := by decide +kernel
theorem zmk_94 : zmck zowns zpool zm_94 = true := zmck_of (by decide +kernel) (List.forall_mem_cons.mpr ⟨zkk_94_0, fun _ h => absurd h List.not_mem_nil⟩)
theorem zkk_95_0 : zk_95_0.all (zec zpool 7 "go" prog_8_method_4_code) = true := by decide +kernel
theorem zkk_95_1 : zk_95_1.all (zec zpool 7 "go" prog_8_method_4_code) = true := by decide +kernel
theorem zmk_95 : zmck zowns zpool zm_95 = true := zmck_of (by decide +kernel) (List.forall_mem_cons.mpr ⟨zkk_95_0, List.forall_mem_cons.mpr ⟨zkk_95_1, fun _ h => absurd h List.not_mem_nil⟩⟩)
theorem zkk_96_0 : zk_96_0.all (zec zpool 7 "nextCell" prog_8_method_5_code) = true := by decide +kernel
theorem zkk_96_1 : zk_96_1.all (zec zpool 7 "nextCell" prog_8_method_5_code) = true := by decide +kernel
theorem zmk_96 : zmck zowns zpool zm_96 = true := zmck_of (by decide +kernel) (List.forall_mem_cons.mpr ⟨zkk_96_0, List.forall_mem_cons.mpr ⟨zkk_96_1, fun _ h => absurd h List.not_mem_nil⟩⟩)
theorem zkk_97_0 : zk_97_0.all (zec zpool 7 "arrive" prog_8_method_6_code) = true := by decide +kernel
theorem zkk_97_1 : zk_97_1.all (zec zpool 7 "arrive" prog_8_method_6_code) = true := by decide +kernel
theorem zmk_97 : zmck zowns zpool zm_97 = true := zmck_of (by decide +kernel) (List.forall_mem_cons.mpr ⟨zkk_97_0, List.forall_mem_cons.mpr ⟨zkk_97_1, fun _ h => absurd h List.not_mem_nil⟩⟩)
theorem zkk_98_0 : zk_98_0.all (zec zpool 7 "lowest" prog_8_method_7_code) = true := by decide +kernel
theorem zmk_98 : zmck zowns zpool zm_98 = true := zmck_of (by decide +kernel) (List.forall_mem_cons.mpr ⟨zkk_98_0, fun _ h => absurd h List.not_mem_nil⟩)
theorem zkk_99_0 : zk_99_0.all (zec zpool 7 "tellBells" prog_8_method_8_code) = true := by decide +kernel
theorem zkk_99_1 : zk_99_1.all (zec zpool 7 "tellBells" prog_8_method_8_code) = true := by decide +kernel
theorem zmk_99 : zmck zowns zpool zm_99 = true := zmck_of (by decide +kernel) (List.forall_mem_cons.mpr ⟨zkk_99_0, List.forall_mem_cons.mpr ⟨zkk_99_1, fun _ h => absurd h List.not_mem_nil⟩⟩)
theorem zkk_100_0 : zk_100_0.all (zec zpool 7 "tellTo" prog_8_method_9_code) = true := by decide +kernel
theorem zkk_100_1 : zk_100_1.all (zec zpool 7 "tellTo" prog_8_method_9_code) = true := by decide +kernel
theorem zmk_100 : zmck zowns zpool zm_100 = true := zmck_of (by decide +kernel) (List.forall_mem_cons.mpr ⟨zkk_100_0, List.forall_mem_cons.mpr ⟨zkk_100_1, fun _ h => absurd h List.not_mem_nil⟩⟩)
theorem zkk_101_0 : zk_101_0.all (zec zpool 8 "<init>" prog_9_method_1_code) = true := by decide +kernel
theorem zmk_101 : zmck zowns zpool zm_101 = true := zmck_of (by decide +kernel) (List.forall_mem_cons.mpr ⟨zkk_101_0, fun _ h => absurd h List.not_mem_nil⟩)
theorem zkk_102_0 : zk_102_0.all (zec zpool 8 "has" prog_9_method_2_code) = true := by decide +kernel
theorem zmk_102 : zmck zowns zpool zm_102 = true := zmck_of (by decide +kernel) (List.forall_mem_cons.mpr ⟨zkk_102_0, fun _ h => absurd h List.not_mem_nil⟩)
theorem zkk_103_0 : zk_103_0.all (zec zpool 8 "isFull" prog_9_method_3_code) = true := by decide +kernel
theorem zmk_103 : zmck zowns zpool zm_103 = true := zmck_of (by decide +kernel) (List.forall_mem_cons.mpr ⟨zkk_103_0, fun _ h => absurd h List.not_mem_nil⟩)
theorem zkk_104_0 : zk_104_0.all (zec zpool 8 "get" prog_9_method_4_code) = true := by decide +kernel
theorem zmk_104 : zmck zowns zpool zm_104 = true := zmck_of (by decide +kernel) (List.forall_mem_cons.mpr ⟨zkk_104_0, fun _ h => absurd h List.not_mem_nil⟩)
theorem zkk_105_0 : zk_105_0.all (zec zpool 8 "set" prog_9_method_5_code) = true := by decide +kernel
theorem zmk_105 : zmck zowns zpool zm_105 = true := zmck_of (by decide +kernel) (List.forall_mem_cons.mpr ⟨zkk_105_0, fun _ h => absurd h List.not_mem_nil⟩)
theorem zkk_106_0 : zk_106_0.all (zec zpool 8 "add" prog_9_method_6_code) = true := by decide +kernel
theorem zmk_106 : zmck zowns zpool zm_106 = true := zmck_of (by decide +kernel) (List.forall_mem_cons.mpr ⟨zkk_106_0, fun _ h => absurd h List.not_mem_nil⟩)
theorem zkk_107_0 : zk_107_0.all (zec zpool 8 "isAnyAt" prog_9_method_7_code) = true := by decide +kernel
theorem zmk_107 : zmck zowns zpool zm_107 = true := zmck_of (by decide +kernel) (List.forall_mem_cons.mpr ⟨zkk_107_0, fun _ h => absurd h List.not_mem_nil⟩)
theorem zkk_108_0 : zk_108_0.all (zec zpool 8 "copyFrom" prog_9_method_8_code) = true := by decide +kernel
theorem zmk_108 : zmck zowns zpool zm_108 = true := zmck_of (by decide +kernel) (List.forall_mem_cons.mpr ⟨zkk_108_0, fun _ h => absurd h List.not_mem_nil⟩)
theorem zkk_109_0 : zk_109_0.all (zec zpool 9 "<init>" prog_10_method_1_code) = true := by decide +kernel
theorem zmk_109 : zmck zowns zpool zm_109 = true := zmck_of (by decide +kernel) (List.forall_mem_cons.mpr ⟨zkk_109_0, fun _ h => absurd h List.not_mem_nil⟩)
theorem zkk_110_0 : zk_110_0.all (zec zpool 9 "clear" prog_10_method_2_code) = true := by decide +kernel
theorem zmk_110 : zmck zowns zpool zm_110 = true := zmck_of (by decide +kernel) (List.forall_mem_cons.mpr ⟨zkk_110_0, fun _ h => absurd h List.not_mem_nil⟩)
theorem zkk_111_0 : zk_111_0.all (zec zpool 9 "copyFrom" prog_10_method_3_code) = true := by decide +kernel
theorem zkk_111_1 : zk_111_1.all (zec zpool 9 "copyFrom" prog_10_method_3_code) = true := by decide +kernel
theorem zmk_111 : zmck zowns zpool zm_111 = true := zmck_of (by decide +kernel) (List.forall_mem_cons.mpr ⟨zkk_111_0, List.forall_mem_cons.mpr ⟨zkk_111_1, fun _ h => absurd h List.not_mem_nil⟩⟩)
theorem zkk_112_0 : zk_112_0.all (zec zpool 9 "addLine" prog_10_method_4_code) = true := by decide +kernel
theorem zmk_112 : zmck zowns zpool zm_112 = true := zmck_of (by decide +kernel) (List.forall_mem_cons.mpr ⟨zkk_112_0, fun _ h => absurd h List.not_mem_nil⟩)
theorem zkk_113_0 : zk_113_0.all (zec zpool 9 "addCode" prog_10_method_5_code) = true := by decide +kernel
theorem zmk_113 : zmck zowns zpool zm_113 = true := zmck_of (by decide +kernel) (List.forall_mem_cons.mpr ⟨zkk_113_0, fun _ h => absurd h List.not_mem_nil⟩)
theorem zkk_114_0 : zk_114_0.all (zec zpool 9 "isInForce" prog_10_method_6_code) = true := by decide +kernel
theorem zmk_114 : zmck zowns zpool zm_114 = true := zmck_of (by decide +kernel) (List.forall_mem_cons.mpr ⟨zkk_114_0, fun _ h => absurd h List.not_mem_nil⟩)
theorem zkk_115_0 : zk_115_0.all (zec zpool 9 "hasCondition" prog_10_method_7_code) = true := by decide +kernel
theorem zmk_115 : zmck zowns zpool zm_115 = true := zmck_of (by decide +kernel) (List.forall_mem_cons.mpr ⟨zkk_115_0, fun _ h => absurd h List.not_mem_nil⟩)
theorem zkk_116_0 : zk_116_0.all (zec zpool 9 "names" prog_10_method_8_code) = true := by decide +kernel
theorem zmk_116 : zmck zowns zpool zm_116 = true := zmck_of (by decide +kernel) (List.forall_mem_cons.mpr ⟨zkk_116_0, fun _ h => absurd h List.not_mem_nil⟩)
theorem zkk_117_0 : zk_117_0.all (zec zpool 9 "holds" prog_10_method_9_code) = true := by decide +kernel
theorem zkk_117_1 : zk_117_1.all (zec zpool 9 "holds" prog_10_method_9_code) = true := by decide +kernel
theorem zkk_117_2 : zk_117_2.all (zec zpool 9 "holds" prog_10_method_9_code) = true := by decide +kernel
theorem zkk_117_3 : zk_117_3.all (zec zpool 9 "holds" prog_10_method_9_code) = true := by decide +kernel
theorem zmk_117 : zmck zowns zpool zm_117 = true := zmck_of (by decide +kernel) (List.forall_mem_cons.mpr ⟨zkk_117_0, List.forall_mem_cons.mpr ⟨zkk_117_1, List.forall_mem_cons.mpr ⟨zkk_117_2, List.forall_mem_cons.mpr ⟨zkk_117_3, fun _ h => absurd h List.not_mem_nil⟩⟩⟩⟩)
theorem zkk_118_0 : zk_118_0.all (zec zpool 10 "values" prog_11_method_1_code) = true := by decide +kernel
theorem zmk_118 : zmck zowns zpool zm_118 = true := zmck_of (by decide +kernel) (List.forall_mem_cons.mpr ⟨zkk_118_0, fun _ h => absurd h List.not_mem_nil⟩)
theorem zkk_119_0 : zk_119_0.all (zec zpool 11 "<init>" prog_12_method_1_code) = true := by decide +kernel
theorem zkk_119_1 : zk_119_1.all (zec zpool 11 "<init>" prog_12_method_1_code) = true := by decide +kernel
theorem zkk_119_2 : zk_119_2.all (zec zpool 11 "<init>" prog_12_method_1_code) = true := by decide +kernel
theorem zmk_119 : zmck zowns zpool zm_119 = true := zmck_of (by decide +kernel) (List.forall_mem_cons.mpr ⟨zkk_119_0, List.forall_mem_cons.mpr ⟨zkk_119_1, List.forall_mem_cons.mpr ⟨zkk_119_2, fun _ h => absurd h List.not_mem_nil⟩⟩⟩)
theorem zkk_120_0 : zk_120_0.all (zec zpool 11 "copyFrom" prog_12_method_2_code) = true := by decide +kernel
theorem zkk_120_1 : zk_120_1.all (zec zpool 11 "copyFrom" prog_12_method_2_code) = true := by decide +kernel
theorem zmk_120 : zmck zowns zpool zm_120 = true := zmck_of (by decide +kernel) (List.forall_mem_cons.mpr ⟨zkk_120_0, List.forall_mem_cons.mpr ⟨zkk_120_1, fun _ h => absurd h List.not_mem_nil⟩⟩)
theorem zkk_121_0 : zk_121_0.all (zec zpool 11 "far" prog_12_method_3_code) = true := by decide +kernel
theorem zmk_121 : zmck zowns zpool zm_121 = true := zmck_of (by decide +kernel) (List.forall_mem_cons.mpr ⟨zkk_121_0, fun _ h => absurd h List.not_mem_nil⟩)
theorem zkk_122_0 : zk_122_0.all (zec zpool 11 "isNight" prog_12_method_4_code) = true := by decide +kernel
theorem zmk_122 : zmck zowns zpool zm_122 = true := zmck_of (by decide +kernel) (List.forall_mem_cons.mpr ⟨zkk_122_0, fun _ h => absurd h List.not_mem_nil⟩)
theorem zkk_123_0 : zk_123_0.all (zec zpool 11 "isWall" prog_12_method_5_code) = true := by decide +kernel
theorem zmk_123 : zmck zowns zpool zm_123 = true := zmck_of (by decide +kernel) (List.forall_mem_cons.mpr ⟨zkk_123_0, fun _ h => absurd h List.not_mem_nil⟩)
theorem zkk_124_0 : zk_124_0.all (zec zpool 11 "isHeld" prog_12_method_6_code) = true := by decide +kernel
theorem zmk_124 : zmck zowns zpool zm_124 = true := zmck_of (by decide +kernel) (List.forall_mem_cons.mpr ⟨zkk_124_0, fun _ h => absurd h List.not_mem_nil⟩)
theorem zkk_125_0 : zk_125_0.all (zec zpool 11 "addPerson" prog_12_method_7_code) = true := by decide +kernel
theorem zkk_125_1 : zk_125_1.all (zec zpool 11 "addPerson" prog_12_method_7_code) = true := by decide +kernel
theorem zmk_125 : zmck zowns zpool zm_125 = true := zmck_of (by decide +kernel) (List.forall_mem_cons.mpr ⟨zkk_125_0, List.forall_mem_cons.mpr ⟨zkk_125_1, fun _ h => absurd h List.not_mem_nil⟩⟩)
theorem zkk_126_0 : zk_126_0.all (zec zpool 11 "addTaking" prog_12_method_8_code) = true := by decide +kernel
theorem zmk_126 : zmck zowns zpool zm_126 = true := zmck_of (by decide +kernel) (List.forall_mem_cons.mpr ⟨zkk_126_0, fun _ h => absurd h List.not_mem_nil⟩)
theorem zkk_127_0 : zk_127_0.all (zec zpool 11 "isIn" prog_12_method_9_code) = true := by decide +kernel
theorem zmk_127 : zmck zowns zpool zm_127 = true := zmck_of (by decide +kernel) (List.forall_mem_cons.mpr ⟨zkk_127_0, fun _ h => absurd h List.not_mem_nil⟩)
theorem zkk_128_0 : zk_128_0.all (zec zpool 11 "isCaught" prog_12_method_10_code) = true := by decide +kernel
theorem zmk_128 : zmck zowns zpool zm_128 = true := zmck_of (by decide +kernel) (List.forall_mem_cons.mpr ⟨zkk_128_0, fun _ h => absurd h List.not_mem_nil⟩)
theorem zkk_129_0 : zk_129_0.all (zec zpool 11 "become" prog_12_method_11_code) = true := by decide +kernel
theorem zmk_129 : zmck zowns zpool zm_129 = true := zmck_of (by decide +kernel) (List.forall_mem_cons.mpr ⟨zkk_129_0, fun _ h => absurd h List.not_mem_nil⟩)
