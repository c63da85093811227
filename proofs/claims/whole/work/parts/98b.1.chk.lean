/-! Checks of the tables. -/
theorem zkk_1_0 : zk_1_0.all (zec zpool 1 "<init>" prog_2_method_1_code) = true := by decide +kernel
theorem zkk_1_1 : zk_1_1.all (zec zpool 1 "<init>" prog_2_method_1_code) = true := by decide +kernel
theorem zmk_1 : zmck zowns zpool zm_1 = true := zmck_of (by decide +kernel) (List.forall_mem_cons.mpr ⟨zkk_1_0, List.forall_mem_cons.mpr ⟨zkk_1_1, fun _ h => absurd h List.not_mem_nil⟩⟩)
theorem zkk_2_0 : zk_2_0.all (zec zpool 1 "noPlace" prog_2_method_2_code) = true := by decide +kernel
theorem zmk_2 : zmck zowns zpool zm_2 = true := zmck_of (by decide +kernel) (List.forall_mem_cons.mpr ⟨zkk_2_0, fun _ h => absurd h List.not_mem_nil⟩)
theorem zkk_3_0 : zk_3_0.all (zec zpool 1 "lay" prog_2_method_3_code) = true := by decide +kernel
theorem zmk_3 : zmck zowns zpool zm_3 = true := zmck_of (by decide +kernel) (List.forall_mem_cons.mpr ⟨zkk_3_0, fun _ h => absurd h List.not_mem_nil⟩)
theorem zkk_4_0 : zk_4_0.all (zec zpool 1 "refusal" prog_2_method_4_code) = true := by decide +kernel
theorem zmk_4 : zmck zowns zpool zm_4 = true := zmck_of (by decide +kernel) (List.forall_mem_cons.mpr ⟨zkk_4_0, fun _ h => absurd h List.not_mem_nil⟩)
theorem zkk_5_0 : zk_5_0.all (zec zpool 1 "narrowed" prog_2_method_5_code) = true := by decide +kernel
theorem zmk_5 : zmck zowns zpool zm_5 = true := zmck_of (by decide +kernel) (List.forall_mem_cons.mpr ⟨zkk_5_0, fun _ h => absurd h List.not_mem_nil⟩)
theorem zkk_6_0 : zk_6_0.all (zec zpool 1 "store" prog_2_method_6_code) = true := by decide +kernel
theorem zkk_6_1 : zk_6_1.all (zec zpool 1 "store" prog_2_method_6_code) = true := by decide +kernel
theorem zmk_6 : zmck zowns zpool zm_6 = true := zmck_of (by decide +kernel) (List.forall_mem_cons.mpr ⟨zkk_6_0, List.forall_mem_cons.mpr ⟨zkk_6_1, fun _ h => absurd h List.not_mem_nil⟩⟩)
theorem zkk_7_0 : zk_7_0.all (zec zpool 1 "holdsNothing" prog_2_method_7_code) = true := by decide +kernel
theorem zmk_7 : zmck zowns zpool zm_7 = true := zmck_of (by decide +kernel) (List.forall_mem_cons.mpr ⟨zkk_7_0, fun _ h => absurd h List.not_mem_nil⟩)
theorem zkk_8_0 : zk_8_0.all (zec zpool 1 "personTakenFor" prog_2_method_8_code) = true := by decide +kernel
theorem zmk_8 : zmck zowns zpool zm_8 = true := zmck_of (by decide +kernel) (List.forall_mem_cons.mpr ⟨zkk_8_0, fun _ h => absurd h List.not_mem_nil⟩)
theorem zkk_9_0 : zk_9_0.all (zec zpool 1 "rowTakenFor" prog_2_method_9_code) = true := by decide +kernel
theorem zmk_9 : zmck zowns zpool zm_9 = true := zmck_of (by decide +kernel) (List.forall_mem_cons.mpr ⟨zkk_9_0, fun _ h => absurd h List.not_mem_nil⟩)
theorem zkk_10_0 : zk_10_0.all (zec zpool 1 "isUnder" prog_2_method_10_code) = true := by decide +kernel
theorem zmk_10 : zmck zowns zpool zm_10 = true := zmck_of (by decide +kernel) (List.forall_mem_cons.mpr ⟨zkk_10_0, fun _ h => absurd h List.not_mem_nil⟩)
theorem zkk_11_0 : zk_11_0.all (zec zpool 1 "dealWith" prog_2_method_11_code) = true := by decide +kernel
theorem zkk_11_1 : zk_11_1.all (zec zpool 1 "dealWith" prog_2_method_11_code) = true := by decide +kernel
theorem zkk_11_2 : zk_11_2.all (zec zpool 1 "dealWith" prog_2_method_11_code) = true := by decide +kernel
theorem zmk_11 : zmck zowns zpool zm_11 = true := zmck_of (by decide +kernel) (List.forall_mem_cons.mpr ⟨zkk_11_0, List.forall_mem_cons.mpr ⟨zkk_11_1, List.forall_mem_cons.mpr ⟨zkk_11_2, fun _ h => absurd h List.not_mem_nil⟩⟩⟩)
theorem zkk_12_0 : zk_12_0.all (zec zpool 1 "begin" prog_2_method_12_code) = true := by decide +kernel
theorem zmk_12 : zmck zowns zpool zm_12 = true := zmck_of (by decide +kernel) (List.forall_mem_cons.mpr ⟨zkk_12_0, fun _ h => absurd h List.not_mem_nil⟩)
theorem zkk_13_0 : zk_13_0.all (zec zpool 1 "guards" prog_2_method_13_code) = true := by decide +kernel
theorem zmk_13 : zmck zowns zpool zm_13 = true := zmck_of (by decide +kernel) (List.forall_mem_cons.mpr ⟨zkk_13_0, fun _ h => absurd h List.not_mem_nil⟩)
theorem zkk_14_0 : zk_14_0.all (zec zpool 1 "ends" prog_2_method_14_code) = true := by decide +kernel
theorem zkk_14_1 : zk_14_1.all (zec zpool 1 "ends" prog_2_method_14_code) = true := by decide +kernel
theorem zmk_14 : zmck zowns zpool zm_14 = true := zmck_of (by decide +kernel) (List.forall_mem_cons.mpr ⟨zkk_14_0, List.forall_mem_cons.mpr ⟨zkk_14_1, fun _ h => absurd h List.not_mem_nil⟩⟩)
theorem zkk_15_0 : zk_15_0.all (zec zpool 1 "costs" prog_2_method_15_code) = true := by decide +kernel
theorem zkk_15_1 : zk_15_1.all (zec zpool 1 "costs" prog_2_method_15_code) = true := by decide +kernel
theorem zmk_15 : zmck zowns zpool zm_15 = true := zmck_of (by decide +kernel) (List.forall_mem_cons.mpr ⟨zkk_15_0, List.forall_mem_cons.mpr ⟨zkk_15_1, fun _ h => absurd h List.not_mem_nil⟩⟩)
theorem zkk_16_0 : zk_16_0.all (zec zpool 1 "parts" prog_2_method_16_code) = true := by decide +kernel
theorem zkk_16_1 : zk_16_1.all (zec zpool 1 "parts" prog_2_method_16_code) = true := by decide +kernel
theorem zmk_16 : zmck zowns zpool zm_16 = true := zmck_of (by decide +kernel) (List.forall_mem_cons.mpr ⟨zkk_16_0, List.forall_mem_cons.mpr ⟨zkk_16_1, fun _ h => absurd h List.not_mem_nil⟩⟩)
theorem zkk_17_0 : zk_17_0.all (zec zpool 2 "<init>" prog_3_method_1_code) = true := by decide +kernel
theorem zmk_17 : zmck zowns zpool zm_17 = true := zmck_of (by decide +kernel) (List.forall_mem_cons.mpr ⟨zkk_17_0, fun _ h => absurd h List.not_mem_nil⟩)
theorem zkk_18_0 : zk_18_0.all (zec zpool 2 "forget" prog_3_method_2_code) = true := by decide +kernel
theorem zmk_18 : zmck zowns zpool zm_18 = true := zmck_of (by decide +kernel) (List.forall_mem_cons.mpr ⟨zkk_18_0, fun _ h => absurd h List.not_mem_nil⟩)
theorem zkk_19_0 : zk_19_0.all (zec zpool 2 "asAt" prog_3_method_3_code) = true := by decide +kernel
theorem zmk_19 : zmck zowns zpool zm_19 = true := zmck_of (by decide +kernel) (List.forall_mem_cons.mpr ⟨zkk_19_0, fun _ h => absurd h List.not_mem_nil⟩)
theorem zkk_20_0 : zk_20_0.all (zec zpool 2 "gather" prog_3_method_4_code) = true := by decide +kernel
theorem zkk_20_1 : zk_20_1.all (zec zpool 2 "gather" prog_3_method_4_code) = true := by decide +kernel
theorem zmk_20 : zmck zowns zpool zm_20 = true := zmck_of (by decide +kernel) (List.forall_mem_cons.mpr ⟨zkk_20_0, List.forall_mem_cons.mpr ⟨zkk_20_1, fun _ h => absurd h List.not_mem_nil⟩⟩)
theorem zkk_21_0 : zk_21_0.all (zec zpool 2 "addLines" prog_3_method_5_code) = true := by decide +kernel
theorem zkk_21_1 : zk_21_1.all (zec zpool 2 "addLines" prog_3_method_5_code) = true := by decide +kernel
theorem zmk_21 : zmck zowns zpool zm_21 = true := zmck_of (by decide +kernel) (List.forall_mem_cons.mpr ⟨zkk_21_0, List.forall_mem_cons.mpr ⟨zkk_21_1, fun _ h => absurd h List.not_mem_nil⟩⟩)
theorem zkk_22_0 : zk_22_0.all (zec zpool 2 "stonesAbout" prog_3_method_6_code) = true := by decide +kernel
theorem zkk_22_1 : zk_22_1.all (zec zpool 2 "stonesAbout" prog_3_method_6_code) = true := by decide +kernel
theorem zmk_22 : zmck zowns zpool zm_22 = true := zmck_of (by decide +kernel) (List.forall_mem_cons.mpr ⟨zkk_22_0, List.forall_mem_cons.mpr ⟨zkk_22_1, fun _ h => absurd h List.not_mem_nil⟩⟩)
theorem zkk_23_0 : zk_23_0.all (zec zpool 2 "degreeOf" prog_3_method_7_code) = true := by decide +kernel
theorem zkk_23_1 : zk_23_1.all (zec zpool 2 "degreeOf" prog_3_method_7_code) = true := by decide +kernel
theorem zmk_23 : zmck zowns zpool zm_23 = true := zmck_of (by decide +kernel) (List.forall_mem_cons.mpr ⟨zkk_23_0, List.forall_mem_cons.mpr ⟨zkk_23_1, fun _ h => absurd h List.not_mem_nil⟩⟩)
theorem zkk_24_0 : zk_24_0.all (zec zpool 2 "learnDeeds" prog_3_method_8_code) = true := by decide +kernel
theorem zkk_24_1 : zk_24_1.all (zec zpool 2 "learnDeeds" prog_3_method_8_code) = true := by decide +kernel
theorem zmk_24 : zmck zowns zpool zm_24 = true := zmck_of (by decide +kernel) (List.forall_mem_cons.mpr ⟨zkk_24_0, List.forall_mem_cons.mpr ⟨zkk_24_1, fun _ h => absurd h List.not_mem_nil⟩⟩)
theorem zkk_25_0 : zk_25_0.all (zec zpool 2 "timesOf" prog_3_method_9_code) = true := by decide +kernel
theorem zkk_25_1 : zk_25_1.all (zec zpool 2 "timesOf" prog_3_method_9_code) = true := by decide +kernel
theorem zmk_25 : zmck zowns zpool zm_25 = true := zmck_of (by decide +kernel) (List.forall_mem_cons.mpr ⟨zkk_25_0, List.forall_mem_cons.mpr ⟨zkk_25_1, fun _ h => absurd h List.not_mem_nil⟩⟩)
theorem zkk_26_0 : zk_26_0.all (zec zpool 2 "holdsOn" prog_3_method_10_code) = true := by decide +kernel
theorem zmk_26 : zmck zowns zpool zm_26 = true := zmck_of (by decide +kernel) (List.forall_mem_cons.mpr ⟨zkk_26_0, fun _ h => absurd h List.not_mem_nil⟩)
theorem zkk_27_0 : zk_27_0.all (zec zpool 2 "lineThatTells" prog_3_method_11_code) = true := by decide +kernel
theorem zkk_27_1 : zk_27_1.all (zec zpool 2 "lineThatTells" prog_3_method_11_code) = true := by decide +kernel
theorem zmk_27 : zmck zowns zpool zm_27 = true := zmck_of (by decide +kernel) (List.forall_mem_cons.mpr ⟨zkk_27_0, List.forall_mem_cons.mpr ⟨zkk_27_1, fun _ h => absurd h List.not_mem_nil⟩⟩)
theorem zkk_28_0 : zk_28_0.all (zec zpool 2 "isFail" prog_3_method_12_code) = true := by decide +kernel
theorem zmk_28 : zmck zowns zpool zm_28 = true := zmck_of (by decide +kernel) (List.forall_mem_cons.mpr ⟨zkk_28_0, fun _ h => absurd h List.not_mem_nil⟩)
theorem zkk_29_0 : zk_29_0.all (zec zpool 2 "firstFailing" prog_3_method_13_code) = true := by decide +kernel
theorem zkk_29_1 : zk_29_1.all (zec zpool 2 "firstFailing" prog_3_method_13_code) = true := by decide +kernel
theorem zmk_29 : zmck zowns zpool zm_29 = true := zmck_of (by decide +kernel) (List.forall_mem_cons.mpr ⟨zkk_29_0, List.forall_mem_cons.mpr ⟨zkk_29_1, fun _ h => absurd h List.not_mem_nil⟩⟩)
theorem zkk_30_0 : zk_30_0.all (zec zpool 2 "reason" prog_3_method_14_code) = true := by decide +kernel
theorem zmk_30 : zmck zowns zpool zm_30 = true := zmck_of (by decide +kernel) (List.forall_mem_cons.mpr ⟨zkk_30_0, fun _ h => absurd h List.not_mem_nil⟩)
theorem zkk_31_0 : zk_31_0.all (zec zpool 2 "isSafeNow" prog_3_method_15_code) = true := by decide +kernel
theorem zmk_31 : zmck zowns zpool zm_31 = true := zmck_of (by decide +kernel) (List.forall_mem_cons.mpr ⟨zkk_31_0, fun _ h => absurd h List.not_mem_nil⟩)
theorem zkk_32_0 : zk_32_0.all (zec zpool 2 "safeNow" prog_3_method_16_code) = true := by decide +kernel
theorem zmk_32 : zmck zowns zpool zm_32 = true := zmck_of (by decide +kernel) (List.forall_mem_cons.mpr ⟨zkk_32_0, fun _ h => absurd h List.not_mem_nil⟩)
theorem zkk_33_0 : zk_33_0.all (zec zpool 2 "safeAsGathered" prog_3_method_17_code) = true := by decide +kernel
theorem zkk_33_1 : zk_33_1.all (zec zpool 2 "safeAsGathered" prog_3_method_17_code) = true := by decide +kernel
theorem zmk_33 : zmck zowns zpool zm_33 = true := zmck_of (by decide +kernel) (List.forall_mem_cons.mpr ⟨zkk_33_0, List.forall_mem_cons.mpr ⟨zkk_33_1, fun _ h => absurd h List.not_mem_nil⟩⟩)
theorem zkk_34_0 : zk_34_0.all (zec zpool 2 "costOf" prog_3_method_18_code) = true := by decide +kernel
theorem zkk_34_1 : zk_34_1.all (zec zpool 2 "costOf" prog_3_method_18_code) = true := by decide +kernel
theorem zkk_34_2 : zk_34_2.all (zec zpool 2 "costOf" prog_3_method_18_code) = true := by decide +kernel
theorem zmk_34 : zmck zowns zpool zm_34 = true := zmck_of (by decide +kernel) (List.forall_mem_cons.mpr ⟨zkk_34_0, List.forall_mem_cons.mpr ⟨zkk_34_1, List.forall_mem_cons.mpr ⟨zkk_34_2, fun _ h => absurd h List.not_mem_nil⟩⟩⟩)
theorem zkk_35_0 : zk_35_0.all (zec zpool 2 "latestDeed" prog_3_method_19_code) = true := by decide +kernel
theorem zmk_35 : zmck zowns zpool zm_35 = true := zmck_of (by decide +kernel) (List.forall_mem_cons.mpr ⟨zkk_35_0, fun _ h => absurd h List.not_mem_nil⟩)
theorem zkk_36_0 : zk_36_0.all (zec zpool 2 "fineFor" prog_3_method_20_code) = true := by decide +kernel
theorem zmk_36 : zmck zowns zpool zm_36 = true := zmck_of (by decide +kernel) (List.forall_mem_cons.mpr ⟨zkk_36_0, fun _ h => absurd h List.not_mem_nil⟩)
theorem zkk_37_0 : zk_37_0.all (zec zpool 2 "wasLawful" prog_3_method_21_code) = true := by decide +kernel
theorem zkk_37_1 : zk_37_1.all (zec zpool 2 "wasLawful" prog_3_method_21_code) = true := by decide +kernel
theorem zmk_37 : zmck zowns zpool zm_37 = true := zmck_of (by decide +kernel) (List.forall_mem_cons.mpr ⟨zkk_37_0, List.forall_mem_cons.mpr ⟨zkk_37_1, fun _ h => absurd h List.not_mem_nil⟩⟩)
theorem zkk_38_0 : zk_38_0.all (zec zpool 2 "safeUnderFirstAlone" prog_3_method_22_code) = true := by decide +kernel
theorem zmk_38 : zmck zowns zpool zm_38 = true := zmck_of (by decide +kernel) (List.forall_mem_cons.mpr ⟨zkk_38_0, fun _ h => absurd h List.not_mem_nil⟩)
theorem zkk_39_0 : zk_39_0.all (zec zpool 2 "safeUnder" prog_3_method_23_code) = true := by decide +kernel
theorem zmk_39 : zmck zowns zpool zm_39 = true := zmck_of (by decide +kernel) (List.forall_mem_cons.mpr ⟨zkk_39_0, fun _ h => absurd h List.not_mem_nil⟩)
theorem zkk_40_0 : zk_40_0.all (zec zpool 2 "greatestMile" prog_3_method_24_code) = true := by decide +kernel
theorem zmk_40 : zmck zowns zpool zm_40 = true := zmck_of (by decide +kernel) (List.forall_mem_cons.mpr ⟨zkk_40_0, fun _ h => absurd h List.not_mem_nil⟩)
theorem zkk_41_0 : zk_41_0.all (zec zpool 2 "unsafeDoers" prog_3_method_25_code) = true := by decide +kernel
theorem zmk_41 : zmck zowns zpool zm_41 = true := zmck_of (by decide +kernel) (List.forall_mem_cons.mpr ⟨zkk_41_0, fun _ h => absurd h List.not_mem_nil⟩)
theorem zkk_42_0 : zk_42_0.all (zec zpool 3 "<init>" prog_4_method_1_code) = true := by decide +kernel
theorem zmk_42 : zmck zowns zpool zm_42 = true := zmck_of (by decide +kernel) (List.forall_mem_cons.mpr ⟨zkk_42_0, fun _ h => absurd h List.not_mem_nil⟩)
theorem zkk_43_0 : zk_43_0.all (zec zpool 3 "find" prog_4_method_2_code) = true := by decide +kernel
theorem zkk_43_1 : zk_43_1.all (zec zpool 3 "find" prog_4_method_2_code) = true := by decide +kernel
theorem zmk_43 : zmck zowns zpool zm_43 = true := zmck_of (by decide +kernel) (List.forall_mem_cons.mpr ⟨zkk_43_0, List.forall_mem_cons.mpr ⟨zkk_43_1, fun _ h => absurd h List.not_mem_nil⟩⟩)
theorem zkk_44_0 : zk_44_0.all (zec zpool 3 "clockAfter" prog_4_method_3_code) = true := by decide +kernel
theorem zmk_44 : zmck zowns zpool zm_44 = true := zmck_of (by decide +kernel) (List.forall_mem_cons.mpr ⟨zkk_44_0, fun _ h => absurd h List.not_mem_nil⟩)
theorem zkk_45_0 : zk_45_0.all (zec zpool 3 "priceAll" prog_4_method_4_code) = true := by decide +kernel
theorem zkk_45_1 : zk_45_1.all (zec zpool 3 "priceAll" prog_4_method_4_code) = true := by decide +kernel
theorem zmk_45 : zmck zowns zpool zm_45 = true := zmck_of (by decide +kernel) (List.forall_mem_cons.mpr ⟨zkk_45_0, List.forall_mem_cons.mpr ⟨zkk_45_1, fun _ h => absurd h List.not_mem_nil⟩⟩)
theorem zkk_46_0 : zk_46_0.all (zec zpool 3 "leastPrice" prog_4_method_5_code) = true := by decide +kernel
theorem zmk_46 : zmck zowns zpool zm_46 = true := zmck_of (by decide +kernel) (List.forall_mem_cons.mpr ⟨zkk_46_0, fun _ h => absurd h List.not_mem_nil⟩)
theorem zkk_47_0 : zk_47_0.all (zec zpool 3 "priceBy" prog_4_method_6_code) = true := by decide +kernel
theorem zmk_47 : zmck zowns zpool zm_47 = true := zmck_of (by decide +kernel) (List.forall_mem_cons.mpr ⟨zkk_47_0, fun _ h => absurd h List.not_mem_nil⟩)
theorem zkk_48_0 : zk_48_0.all (zec zpool 3 "tellRows" prog_4_method_7_code) = true := by decide +kernel
theorem zkk_48_1 : zk_48_1.all (zec zpool 3 "tellRows" prog_4_method_7_code) = true := by decide +kernel
theorem zmk_48 : zmck zowns zpool zm_48 = true := zmck_of (by decide +kernel) (List.forall_mem_cons.mpr ⟨zkk_48_0, List.forall_mem_cons.mpr ⟨zkk_48_1, fun _ h => absurd h List.not_mem_nil⟩⟩)
theorem zkk_49_0 : zk_49_0.all (zec zpool 3 "nextCell" prog_4_method_8_code) = true := by decide +kernel
theorem zkk_49_1 : zk_49_1.all (zec zpool 3 "nextCell" prog_4_method_8_code) = true := by decide +kernel
theorem zmk_49 : zmck zowns zpool zm_49 = true := zmck_of (by decide +kernel) (List.forall_mem_cons.mpr ⟨zkk_49_0, List.forall_mem_cons.mpr ⟨zkk_49_1, fun _ h => absurd h List.not_mem_nil⟩⟩)
theorem zkk_50_0 : zk_50_0.all (zec zpool 3 "stepsSeen" prog_4_method_9_code) = true := by decide +kernel
theorem zmk_50 : zmck zowns zpool zm_50 = true := zmck_of (by decide +kernel) (List.forall_mem_cons.mpr ⟨zkk_50_0, fun _ h => absurd h List.not_mem_nil⟩)
theorem zkk_51_0 : zk_51_0.all (zec zpool 3 "firstUnlike" prog_4_method_10_code) = true := by decide +kernel
theorem zkk_51_1 : zk_51_1.all (zec zpool 3 "firstUnlike" prog_4_method_10_code) = true := by decide +kernel
theorem zmk_51 : zmck zowns zpool zm_51 = true := zmck_of (by decide +kernel) (List.forall_mem_cons.mpr ⟨zkk_51_0, List.forall_mem_cons.mpr ⟨zkk_51_1, fun _ h => absurd h List.not_mem_nil⟩⟩)
theorem zkk_52_0 : zk_52_0.all (zec zpool 4 "<init>" prog_5_method_1_code) = true := by decide +kernel
theorem zmk_52 : zmck zowns zpool zm_52 = true := zmck_of (by decide +kernel) (List.forall_mem_cons.mpr ⟨zkk_52_0, fun _ h => absurd h List.not_mem_nil⟩)
theorem zkk_53_0 : zk_53_0.all (zec zpool 4 "man" prog_5_method_2_code) = true := by decide +kernel
theorem zkk_53_1 : zk_53_1.all (zec zpool 4 "man" prog_5_method_2_code) = true := by decide +kernel
theorem zmk_53 : zmck zowns zpool zm_53 = true := zmck_of (by decide +kernel) (List.forall_mem_cons.mpr ⟨zkk_53_0, List.forall_mem_cons.mpr ⟨zkk_53_1, fun _ h => absurd h List.not_mem_nil⟩⟩)
theorem zkk_54_0 : zk_54_0.all (zec zpool 4 "reaches" prog_5_method_3_code) = true := by decide +kernel
theorem zmk_54 : zmck zowns zpool zm_54 = true := zmck_of (by decide +kernel) (List.forall_mem_cons.mpr ⟨zkk_54_0, fun _ h => absurd h List.not_mem_nil⟩)
theorem zkk_55_0 : zk_55_0.all (zec zpool 4 "seers" prog_5_method_4_code) = true := by decide +kernel
theorem zkk_55_1 : zk_55_1.all (zec zpool 4 "seers" prog_5_method_4_code) = true := by decide +kernel
theorem zmk_55 : zmck zowns zpool zm_55 = true := zmck_of (by decide +kernel) (List.forall_mem_cons.mpr ⟨zkk_55_0, List.forall_mem_cons.mpr ⟨zkk_55_1, fun _ h => absurd h List.not_mem_nil⟩⟩)
theorem zkk_56_0 : zk_56_0.all (zec zpool 4 "clocksSeen" prog_5_method_5_code) = true := by decide +kernel
theorem zmk_56 : zmck zowns zpool zm_56 = true := zmck_of (by decide +kernel) (List.forall_mem_cons.mpr ⟨zkk_56_0, fun _ h => absurd h List.not_mem_nil⟩)
theorem zkk_57_0 : zk_57_0.all (zec zpool 4 "longestGap" prog_5_method_6_code) = true := by decide +kernel
theorem zmk_57 : zmck zowns zpool zm_57 = true := zmck_of (by decide +kernel) (List.forall_mem_cons.mpr ⟨zkk_57_0, fun _ h => absurd h List.not_mem_nil⟩)
theorem zkk_58_0 : zk_58_0.all (zec zpool 4 "leastWatch" prog_5_method_7_code) = true := by decide +kernel
theorem zkk_58_1 : zk_58_1.all (zec zpool 4 "leastWatch" prog_5_method_7_code) = true := by decide +kernel
theorem zmk_58 : zmck zowns zpool zm_58 = true := zmck_of (by decide +kernel) (List.forall_mem_cons.mpr ⟨zkk_58_0, List.forall_mem_cons.mpr ⟨zkk_58_1, fun _ h => absurd h List.not_mem_nil⟩⟩)
theorem zkk_59_0 : zk_59_0.all (zec zpool 4 "gatherNeeds" prog_5_method_8_code) = true := by decide +kernel
theorem zkk_59_1 : zk_59_1.all (zec zpool 4 "gatherNeeds" prog_5_method_8_code) = true := by decide +kernel
theorem zmk_59 : zmck zowns zpool zm_59 = true := zmck_of (by decide +kernel) (List.forall_mem_cons.mpr ⟨zkk_59_0, List.forall_mem_cons.mpr ⟨zkk_59_1, fun _ h => absurd h List.not_mem_nil⟩⟩)
