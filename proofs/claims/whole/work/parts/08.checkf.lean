/-! EVERY INSTRUCTION IS WHAT THE CLASS FILES SAY (by program) -/
set_option maxRecDepth 100000 in
theorem ck328_65 : aOKgc 328 2080 aC328_65 = true := sorry
set_option maxRecDepth 100000 in
theorem ck328_66 : aOKgc 328 2112 aC328_66 = true := sorry
set_option maxRecDepth 100000 in
theorem ck328_67 : aOKgc 328 2144 aC328_67 = true := sorry
set_option maxRecDepth 100000 in
theorem ck328_68 : aOKgc 328 2176 aC328_68 = true := sorry
set_option maxRecDepth 100000 in
theorem ck328_69 : aOKgc 328 2208 aC328_69 = true := sorry
set_option maxRecDepth 100000 in
theorem ck328_70 : aOKgc 328 2240 aC328_70 = true := sorry
set_option maxRecDepth 100000 in
theorem ck328_71 : aOKgc 328 2272 aC328_71 = true := sorry
set_option maxRecDepth 100000 in
theorem ck328_72 : aOKgc 328 2304 aC328_72 = true := sorry
set_option maxRecDepth 100000 in
theorem ck328_73 : aOKgc 328 2336 aC328_73 = true := sorry
set_option maxRecDepth 100000 in
theorem ck328_74 : aOKgc 328 2368 aC328_74 = true := sorry
set_option maxRecDepth 100000 in
theorem ck328_75 : aOKgc 328 2400 aC328_75 = true := sorry
set_option maxRecDepth 100000 in
theorem ck328_76 : aOKgc 328 2432 aC328_76 = true := sorry
set_option maxRecDepth 100000 in
theorem ck328_77 : aOKgc 328 2464 aC328_77 = true := sorry
set_option maxRecDepth 100000 in
theorem ck328_78 : aOKgc 328 2496 aC328_78 = true := sorry
set_option maxRecDepth 100000 in
theorem ck328_79 : aOKgc 328 2528 aC328_79 = true := sorry
set_option maxRecDepth 100000 in
theorem ck328_80 : aOKgc 328 2560 aC328_80 = true := sorry
set_option maxRecDepth 100000 in
theorem ck328_81 : aOKgc 328 2592 aC328_81 = true := sorry
set_option maxRecDepth 100000 in
theorem ck328_82 : aOKgc 328 2624 aC328_82 = true := sorry
set_option maxRecDepth 100000 in
theorem ck328_83 : aOKgc 328 2656 aC328_83 = true := sorry
set_option maxRecDepth 100000 in
theorem ck328_84 : aOKgc 328 2688 aC328_84 = true := sorry
set_option maxRecDepth 100000 in
theorem ck328_85 : aOKgc 328 2720 aC328_85 = true := sorry
set_option maxRecDepth 100000 in
theorem ck328_86 : aOKgc 328 2752 aC328_86 = true := sorry
set_option maxRecDepth 100000 in
theorem ck328_87 : aOKgc 328 2784 aC328_87 = true := sorry
set_option maxRecDepth 100000 in
theorem ck328_88 : aOKgc 328 2816 aC328_88 = true := sorry
set_option maxRecDepth 100000 in
theorem ck328_89 : aOKgc 328 2848 aC328_89 = true := sorry
set_option maxRecDepth 100000 in
theorem ck328_90 : aOKgc 328 2880 aC328_90 = true := sorry
set_option maxRecDepth 100000 in
theorem ck328_91 : aOKgc 328 2912 aC328_91 = true := sorry
set_option maxRecDepth 100000 in
theorem ck328_92 : aOKgc 328 2944 aC328_92 = true := sorry
set_option maxRecDepth 100000 in
theorem ck328_93 : aOKgc 328 2976 aC328_93 = true := sorry
set_option maxRecDepth 100000 in
theorem ck328_94 : aOKgc 328 3008 aC328_94 = true := sorry
set_option maxRecDepth 100000 in
theorem ck328_95 : aOKgc 328 3040 aC328_95 = true := sorry
set_option maxRecDepth 100000 in
theorem ck328_96 : aOKgc 328 3072 aC328_96 = true := sorry
theorem ck328 : aOKgm 328 0 aC328 = true := sorry
