/-! EVERY INSTRUCTION IS WHAT THE CLASS FILES SAY (by program) -/
set_option maxRecDepth 100000 in
theorem ck0 : aOKgm 0 0 aC0 = true := by decide +kernel
set_option maxRecDepth 100000 in
theorem ck1 : aOKgm 1 0 aC1 = true := by decide +kernel
set_option maxRecDepth 100000 in
theorem ck2 : aOKgm 2 0 aC2 = true := by decide +kernel
set_option maxRecDepth 100000 in
theorem ck3 : aOKgm 3 0 aC3 = true := by decide +kernel
set_option maxRecDepth 100000 in
theorem ck4 : aOKgm 4 0 aC4 = true := by decide +kernel
set_option maxRecDepth 100000 in
theorem ck5 : aOKgm 5 0 aC5 = true := by decide +kernel
set_option maxRecDepth 100000 in
theorem ck6 : aOKgm 6 0 aC6 = true := by decide +kernel
set_option maxRecDepth 100000 in
theorem ck7 : aOKgm 7 0 aC7 = true := by decide +kernel
set_option maxRecDepth 100000 in
theorem ck8 : aOKgm 8 0 aC8 = true := by decide +kernel
set_option maxRecDepth 100000 in
theorem ck9 : aOKgm 9 0 aC9 = true := by decide +kernel
set_option maxRecDepth 100000 in
theorem ck10 : aOKgm 10 0 aC10 = true := by decide +kernel
set_option maxRecDepth 100000 in
theorem ck11 : aOKgm 11 0 aC11 = true := by decide +kernel
set_option maxRecDepth 100000 in
theorem ck12 : aOKgm 12 0 aC12 = true := by decide +kernel
set_option maxRecDepth 100000 in
theorem ck13 : aOKgm 13 0 aC13 = true := by decide +kernel
set_option maxRecDepth 100000 in
theorem ck14 : aOKgm 14 0 aC14 = true := by decide +kernel
set_option maxRecDepth 100000 in
theorem ck15 : aOKgm 15 0 aC15 = true := by decide +kernel
set_option maxRecDepth 100000 in
theorem ck16 : aOKgm 16 0 aC16 = true := by decide +kernel
set_option maxRecDepth 100000 in
theorem ck17 : aOKgm 17 0 aC17 = true := by decide +kernel
set_option maxRecDepth 100000 in
theorem ck18 : aOKgm 18 0 aC18 = true := by decide +kernel
set_option maxRecDepth 100000 in
theorem ck19 : aOKgm 19 0 aC19 = true := by decide +kernel
set_option maxRecDepth 100000 in
theorem ck20 : aOKgm 20 0 aC20 = true := by decide +kernel
set_option maxRecDepth 100000 in
theorem ck21 : aOKgm 21 0 aC21 = true := by decide +kernel
set_option maxRecDepth 100000 in
theorem ck22 : aOKgm 22 0 aC22 = true := by decide +kernel
set_option maxRecDepth 100000 in
theorem ck23 : aOKgm 23 0 aC23 = true := by decide +kernel
set_option maxRecDepth 100000 in
theorem ck24 : aOKgm 24 0 aC24 = true := by decide +kernel
set_option maxRecDepth 100000 in
theorem ck25 : aOKgm 25 0 aC25 = true := by decide +kernel
set_option maxRecDepth 100000 in
theorem ck26 : aOKgm 26 0 aC26 = true := by decide +kernel
set_option maxRecDepth 100000 in
theorem ck27 : aOKgm 27 0 aC27 = true := by decide +kernel
set_option maxRecDepth 100000 in
theorem ck28 : aOKgm 28 0 aC28 = true := by decide +kernel
set_option maxRecDepth 100000 in
theorem ck29 : aOKgm 29 0 aC29 = true := by decide +kernel
set_option maxRecDepth 100000 in
theorem ck30 : aOKgm 30 0 aC30 = true := by decide +kernel
set_option maxRecDepth 100000 in
theorem ck31 : aOKgm 31 0 aC31 = true := by decide +kernel
set_option maxRecDepth 100000 in
theorem ck32 : aOKgm 32 0 aC32 = true := by decide +kernel
set_option maxRecDepth 100000 in
theorem ck33 : aOKgm 33 0 aC33 = true := by decide +kernel
set_option maxRecDepth 100000 in
theorem ck34 : aOKgm 34 0 aC34 = true := by decide +kernel
set_option maxRecDepth 100000 in
theorem ck35 : aOKgm 35 0 aC35 = true := by decide +kernel
set_option maxRecDepth 100000 in
theorem ck36 : aOKgm 36 0 aC36 = true := by decide +kernel
set_option maxRecDepth 100000 in
theorem ck37 : aOKgm 37 0 aC37 = true := by decide +kernel
set_option maxRecDepth 100000 in
theorem ck38 : aOKgm 38 0 aC38 = true := by decide +kernel
set_option maxRecDepth 100000 in
theorem ck39 : aOKgm 39 0 aC39 = true := by decide +kernel
set_option maxRecDepth 100000 in
theorem ck40 : aOKgm 40 0 aC40 = true := by decide +kernel
set_option maxRecDepth 100000 in
theorem ck41 : aOKgm 41 0 aC41 = true := by decide +kernel
set_option maxRecDepth 100000 in
theorem ck42 : aOKgm 42 0 aC42 = true := by decide +kernel
set_option maxRecDepth 100000 in
theorem ck43 : aOKgm 43 0 aC43 = true := by decide +kernel
set_option maxRecDepth 100000 in
theorem ck44 : aOKgm 44 0 aC44 = true := by decide +kernel
set_option maxRecDepth 100000 in
theorem ck45 : aOKgm 45 0 aC45 = true := by decide +kernel
set_option maxRecDepth 100000 in
theorem ck46 : aOKgm 46 0 aC46 = true := by decide +kernel
set_option maxRecDepth 100000 in
theorem ck47 : aOKgm 47 0 aC47 = true := by decide +kernel
set_option maxRecDepth 100000 in
theorem ck48 : aOKgm 48 0 aC48 = true := by decide +kernel
set_option maxRecDepth 100000 in
theorem ck49 : aOKgm 49 0 aC49 = true := by decide +kernel
set_option maxRecDepth 100000 in
theorem ck50 : aOKgm 50 0 aC50 = true := by decide +kernel
set_option maxRecDepth 100000 in
theorem ck51 : aOKgm 51 0 aC51 = true := by decide +kernel
set_option maxRecDepth 100000 in
theorem ck52 : aOKgm 52 0 aC52 = true := by decide +kernel
set_option maxRecDepth 100000 in
theorem ck53 : aOKgm 53 0 aC53 = true := by decide +kernel
set_option maxRecDepth 100000 in
theorem ck54 : aOKgm 54 0 aC54 = true := by decide +kernel
set_option maxRecDepth 100000 in
theorem ck55 : aOKgm 55 0 aC55 = true := by decide +kernel
set_option maxRecDepth 100000 in
theorem ck56 : aOKgm 56 0 aC56 = true := by decide +kernel
set_option maxRecDepth 100000 in
theorem ck57 : aOKgm 57 0 aC57 = true := by decide +kernel
set_option maxRecDepth 100000 in
theorem ck58 : aOKgm 58 0 aC58 = true := by decide +kernel
set_option maxRecDepth 100000 in
theorem ck59 : aOKgm 59 0 aC59 = true := by decide +kernel
set_option maxRecDepth 100000 in
theorem ck60 : aOKgm 60 0 aC60 = true := by decide +kernel
set_option maxRecDepth 100000 in
theorem ck61 : aOKgm 61 0 aC61 = true := by decide +kernel
set_option maxRecDepth 100000 in
theorem ck62 : aOKgm 62 0 aC62 = true := by decide +kernel
set_option maxRecDepth 100000 in
theorem ck63 : aOKgm 63 0 aC63 = true := by decide +kernel
set_option maxRecDepth 100000 in
theorem ck64 : aOKgm 64 0 aC64 = true := by decide +kernel
set_option maxRecDepth 100000 in
theorem ck65 : aOKgm 65 0 aC65 = true := by decide +kernel
set_option maxRecDepth 100000 in
theorem ck66 : aOKgm 66 0 aC66 = true := by decide +kernel
set_option maxRecDepth 100000 in
theorem ck67 : aOKgm 67 0 aC67 = true := by decide +kernel
set_option maxRecDepth 100000 in
theorem ck68 : aOKgm 68 0 aC68 = true := by decide +kernel
set_option maxRecDepth 100000 in
theorem ck69 : aOKgm 69 0 aC69 = true := by decide +kernel
set_option maxRecDepth 100000 in
theorem ck70 : aOKgm 70 0 aC70 = true := by decide +kernel
set_option maxRecDepth 100000 in
theorem ck71 : aOKgm 71 0 aC71 = true := by decide +kernel
set_option maxRecDepth 100000 in
theorem ck72 : aOKgm 72 0 aC72 = true := by decide +kernel
set_option maxRecDepth 100000 in
theorem ck73 : aOKgm 73 0 aC73 = true := by decide +kernel
set_option maxRecDepth 100000 in
theorem ck74 : aOKgm 74 0 aC74 = true := by decide +kernel
set_option maxRecDepth 100000 in
theorem ck75 : aOKgm 75 0 aC75 = true := by decide +kernel
set_option maxRecDepth 100000 in
theorem ck76 : aOKgm 76 0 aC76 = true := by decide +kernel
set_option maxRecDepth 100000 in
theorem ck77 : aOKgm 77 0 aC77 = true := by decide +kernel
set_option maxRecDepth 100000 in
theorem ck78 : aOKgm 78 0 aC78 = true := by decide +kernel
set_option maxRecDepth 100000 in
theorem ck79 : aOKgm 79 0 aC79 = true := by decide +kernel
set_option maxRecDepth 100000 in
theorem ck80 : aOKgm 80 0 aC80 = true := by decide +kernel
set_option maxRecDepth 100000 in
theorem ck81 : aOKgm 81 0 aC81 = true := by decide +kernel
set_option maxRecDepth 100000 in
theorem ck82 : aOKgm 82 0 aC82 = true := by decide +kernel
set_option maxRecDepth 100000 in
theorem ck83 : aOKgm 83 0 aC83 = true := by decide +kernel
set_option maxRecDepth 100000 in
theorem ck84 : aOKgm 84 0 aC84 = true := by decide +kernel
set_option maxRecDepth 100000 in
theorem ck85 : aOKgm 85 0 aC85 = true := by decide +kernel
set_option maxRecDepth 100000 in
theorem ck86 : aOKgm 86 0 aC86 = true := by decide +kernel
set_option maxRecDepth 100000 in
theorem ck87 : aOKgm 87 0 aC87 = true := by decide +kernel
set_option maxRecDepth 100000 in
theorem ck88 : aOKgm 88 0 aC88 = true := by decide +kernel
set_option maxRecDepth 100000 in
theorem ck89 : aOKgm 89 0 aC89 = true := by decide +kernel
set_option maxRecDepth 100000 in
theorem ck90 : aOKgm 90 0 aC90 = true := by decide +kernel
set_option maxRecDepth 100000 in
theorem ck91 : aOKgm 91 0 aC91 = true := by decide +kernel
set_option maxRecDepth 100000 in
theorem ck92 : aOKgm 92 0 aC92 = true := by decide +kernel
set_option maxRecDepth 100000 in
theorem ck93 : aOKgm 93 0 aC93 = true := by decide +kernel
set_option maxRecDepth 100000 in
theorem ck94 : aOKgm 94 0 aC94 = true := by decide +kernel
set_option maxRecDepth 100000 in
theorem ck95 : aOKgm 95 0 aC95 = true := by decide +kernel
set_option maxRecDepth 100000 in
theorem ck96 : aOKgm 96 0 aC96 = true := by decide +kernel
set_option maxRecDepth 100000 in
theorem ck97 : aOKgm 97 0 aC97 = true := by decide +kernel
set_option maxRecDepth 100000 in
theorem ck98 : aOKgm 98 0 aC98 = true := by decide +kernel
set_option maxRecDepth 100000 in
theorem ck99 : aOKgm 99 0 aC99 = true := by decide +kernel
set_option maxRecDepth 100000 in
theorem ck100 : aOKgm 100 0 aC100 = true := by decide +kernel
set_option maxRecDepth 100000 in
theorem ck101 : aOKgm 101 0 aC101 = true := by decide +kernel
set_option maxRecDepth 100000 in
theorem ck102 : aOKgm 102 0 aC102 = true := by decide +kernel
set_option maxRecDepth 100000 in
theorem ck103 : aOKgm 103 0 aC103 = true := by decide +kernel
set_option maxRecDepth 100000 in
theorem ck104 : aOKgm 104 0 aC104 = true := by decide +kernel
set_option maxRecDepth 100000 in
theorem ck105 : aOKgm 105 0 aC105 = true := by decide +kernel
set_option maxRecDepth 100000 in
theorem ck106 : aOKgm 106 0 aC106 = true := by decide +kernel
set_option maxRecDepth 100000 in
theorem ck107 : aOKgm 107 0 aC107 = true := by decide +kernel
set_option maxRecDepth 100000 in
theorem ck108 : aOKgm 108 0 aC108 = true := by decide +kernel
set_option maxRecDepth 100000 in
theorem ck109 : aOKgm 109 0 aC109 = true := by decide +kernel
set_option maxRecDepth 100000 in
theorem ck110 : aOKgm 110 0 aC110 = true := by decide +kernel
set_option maxRecDepth 100000 in
theorem ck111 : aOKgm 111 0 aC111 = true := by decide +kernel
set_option maxRecDepth 100000 in
theorem ck112 : aOKgm 112 0 aC112 = true := by decide +kernel
set_option maxRecDepth 100000 in
theorem ck113 : aOKgm 113 0 aC113 = true := by decide +kernel
set_option maxRecDepth 100000 in
theorem ck114 : aOKgm 114 0 aC114 = true := by decide +kernel
set_option maxRecDepth 100000 in
theorem ck115 : aOKgm 115 0 aC115 = true := by decide +kernel
set_option maxRecDepth 100000 in
theorem ck116 : aOKgm 116 0 aC116 = true := by decide +kernel
set_option maxRecDepth 100000 in
theorem ck117 : aOKgm 117 0 aC117 = true := by decide +kernel
set_option maxRecDepth 100000 in
theorem ck118 : aOKgm 118 0 aC118 = true := by decide +kernel
set_option maxRecDepth 100000 in
theorem ck119 : aOKgm 119 0 aC119 = true := by decide +kernel
set_option maxRecDepth 100000 in
theorem ck120 : aOKgm 120 0 aC120 = true := by decide +kernel
set_option maxRecDepth 100000 in
theorem ck121 : aOKgm 121 0 aC121 = true := by decide +kernel
set_option maxRecDepth 100000 in
theorem ck122 : aOKgm 122 0 aC122 = true := by decide +kernel
set_option maxRecDepth 100000 in
theorem ck123 : aOKgm 123 0 aC123 = true := by decide +kernel
set_option maxRecDepth 100000 in
theorem ck124 : aOKgm 124 0 aC124 = true := by decide +kernel
