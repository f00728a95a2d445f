/-! EVERY INSTRUCTION IS WHAT THE CLASS FILES SAY (by program) -/
set_option maxRecDepth 100000 in
theorem ck328_65 : aOKgc 328 2080 aC328_65 = true := by decide +kernel
set_option maxRecDepth 100000 in
theorem ck328_66 : aOKgc 328 2112 aC328_66 = true := by decide +kernel
set_option maxRecDepth 100000 in
theorem ck328_67 : aOKgc 328 2144 aC328_67 = true := by decide +kernel
set_option maxRecDepth 100000 in
theorem ck328_68 : aOKgc 328 2176 aC328_68 = true := by decide +kernel
set_option maxRecDepth 100000 in
theorem ck328_69 : aOKgc 328 2208 aC328_69 = true := by decide +kernel
set_option maxRecDepth 100000 in
theorem ck328_70 : aOKgc 328 2240 aC328_70 = true := by decide +kernel
set_option maxRecDepth 100000 in
theorem ck328_71 : aOKgc 328 2272 aC328_71 = true := by decide +kernel
set_option maxRecDepth 100000 in
theorem ck328_72 : aOKgc 328 2304 aC328_72 = true := by decide +kernel
set_option maxRecDepth 100000 in
theorem ck328_73 : aOKgc 328 2336 aC328_73 = true := by decide +kernel
set_option maxRecDepth 100000 in
theorem ck328_74 : aOKgc 328 2368 aC328_74 = true := by decide +kernel
set_option maxRecDepth 100000 in
theorem ck328_75 : aOKgc 328 2400 aC328_75 = true := by decide +kernel
set_option maxRecDepth 100000 in
theorem ck328_76 : aOKgc 328 2432 aC328_76 = true := by decide +kernel
set_option maxRecDepth 100000 in
theorem ck328_77 : aOKgc 328 2464 aC328_77 = true := by decide +kernel
set_option maxRecDepth 100000 in
theorem ck328_78 : aOKgc 328 2496 aC328_78 = true := by decide +kernel
set_option maxRecDepth 100000 in
theorem ck328_79 : aOKgc 328 2528 aC328_79 = true := by decide +kernel
set_option maxRecDepth 100000 in
theorem ck328_80 : aOKgc 328 2560 aC328_80 = true := by decide +kernel
set_option maxRecDepth 100000 in
theorem ck328_81 : aOKgc 328 2592 aC328_81 = true := by decide +kernel
set_option maxRecDepth 100000 in
theorem ck328_82 : aOKgc 328 2624 aC328_82 = true := by decide +kernel
set_option maxRecDepth 100000 in
theorem ck328_83 : aOKgc 328 2656 aC328_83 = true := by decide +kernel
set_option maxRecDepth 100000 in
theorem ck328_84 : aOKgc 328 2688 aC328_84 = true := by decide +kernel
set_option maxRecDepth 100000 in
theorem ck328_85 : aOKgc 328 2720 aC328_85 = true := by decide +kernel
set_option maxRecDepth 100000 in
theorem ck328_86 : aOKgc 328 2752 aC328_86 = true := by decide +kernel
set_option maxRecDepth 100000 in
theorem ck328_87 : aOKgc 328 2784 aC328_87 = true := by decide +kernel
set_option maxRecDepth 100000 in
theorem ck328_88 : aOKgc 328 2816 aC328_88 = true := by decide +kernel
set_option maxRecDepth 100000 in
theorem ck328_89 : aOKgc 328 2848 aC328_89 = true := by decide +kernel
set_option maxRecDepth 100000 in
theorem ck328_90 : aOKgc 328 2880 aC328_90 = true := by decide +kernel
set_option maxRecDepth 100000 in
theorem ck328_91 : aOKgc 328 2912 aC328_91 = true := by decide +kernel
set_option maxRecDepth 100000 in
theorem ck328_92 : aOKgc 328 2944 aC328_92 = true := by decide +kernel
set_option maxRecDepth 100000 in
theorem ck328_93 : aOKgc 328 2976 aC328_93 = true := by decide +kernel
set_option maxRecDepth 100000 in
theorem ck328_94 : aOKgc 328 3008 aC328_94 = true := by decide +kernel
set_option maxRecDepth 100000 in
theorem ck328_95 : aOKgc 328 3040 aC328_95 = true := by decide +kernel
set_option maxRecDepth 100000 in
theorem ck328_96 : aOKgc 328 3072 aC328_96 = true := by decide +kernel
theorem ck328 : aOKgm 328 0 aC328 = true := by
  simp only [aC328, aOKgm, Nat.reduceAdd, Nat.zero_add, ck328_0, ck328_1, ck328_2, ck328_3, ck328_4, ck328_5, ck328_6, ck328_7, ck328_8, ck328_9, ck328_10, ck328_11, ck328_12, ck328_13, ck328_14, ck328_15, ck328_16, ck328_17, ck328_18, ck328_19, ck328_20, ck328_21, ck328_22, ck328_23, ck328_24, ck328_25, ck328_26, ck328_27, ck328_28, ck328_29, ck328_30, ck328_31, ck328_32, ck328_33, ck328_34, ck328_35, ck328_36, ck328_37, ck328_38, ck328_39, ck328_40, ck328_41, ck328_42, ck328_43, ck328_44, ck328_45, ck328_46, ck328_47, ck328_48, ck328_49, ck328_50, ck328_51, ck328_52, ck328_53, ck328_54, ck328_55, ck328_56, ck328_57, ck328_58, ck328_59, ck328_60, ck328_61, ck328_62, ck328_63, ck328_64, ck328_65, ck328_66, ck328_67, ck328_68, ck328_69, ck328_70, ck328_71, ck328_72, ck328_73, ck328_74, ck328_75, ck328_76, ck328_77, ck328_78, ck328_79, ck328_80, ck328_81, ck328_82, ck328_83, ck328_84, ck328_85, ck328_86, ck328_87, ck328_88, ck328_89, ck328_90, ck328_91, ck328_92, ck328_93, ck328_94, ck328_95, ck328_96, Bool.and_true]
  decide +kernel
