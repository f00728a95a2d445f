/-! EVERY INSTRUCTION IS WHAT THE CLASS FILES SAY (by program) -/
set_option maxRecDepth 100000 in
theorem ck296 : aOKgm 296 0 aC296 = true := by decide +kernel
set_option maxRecDepth 100000 in
theorem ck297 : aOKgm 297 0 aC297 = true := by decide +kernel
set_option maxRecDepth 100000 in
theorem ck298 : aOKgm 298 0 aC298 = true := by decide +kernel
set_option maxRecDepth 100000 in
theorem ck299 : aOKgm 299 0 aC299 = true := by decide +kernel
set_option maxRecDepth 100000 in
theorem ck300 : aOKgm 300 0 aC300 = true := by decide +kernel
set_option maxRecDepth 100000 in
theorem ck301 : aOKgm 301 0 aC301 = true := by decide +kernel
set_option maxRecDepth 100000 in
theorem ck302 : aOKgm 302 0 aC302 = true := by decide +kernel
set_option maxRecDepth 100000 in
theorem ck303 : aOKgm 303 0 aC303 = true := by decide +kernel
set_option maxRecDepth 100000 in
theorem ck304 : aOKgm 304 0 aC304 = true := by decide +kernel
set_option maxRecDepth 100000 in
theorem ck305 : aOKgm 305 0 aC305 = true := by decide +kernel
set_option maxRecDepth 100000 in
theorem ck306 : aOKgm 306 0 aC306 = true := by decide +kernel
set_option maxRecDepth 100000 in
theorem ck307 : aOKgm 307 0 aC307 = true := by decide +kernel
set_option maxRecDepth 100000 in
theorem ck308 : aOKgm 308 0 aC308 = true := by decide +kernel
set_option maxRecDepth 100000 in
theorem ck309 : aOKgm 309 0 aC309 = true := by decide +kernel
set_option maxRecDepth 100000 in
theorem ck310 : aOKgm 310 0 aC310 = true := by decide +kernel
set_option maxRecDepth 100000 in
theorem ck311 : aOKgm 311 0 aC311 = true := by decide +kernel
set_option maxRecDepth 100000 in
theorem ck312 : aOKgm 312 0 aC312 = true := by decide +kernel
set_option maxRecDepth 100000 in
theorem ck313 : aOKgm 313 0 aC313 = true := by decide +kernel
set_option maxRecDepth 100000 in
theorem ck314 : aOKgm 314 0 aC314 = true := by decide +kernel
set_option maxRecDepth 100000 in
theorem ck315 : aOKgm 315 0 aC315 = true := by decide +kernel
set_option maxRecDepth 100000 in
theorem ck316 : aOKgm 316 0 aC316 = true := by decide +kernel
set_option maxRecDepth 100000 in
theorem ck317 : aOKgm 317 0 aC317 = true := by decide +kernel
set_option maxRecDepth 100000 in
theorem ck318 : aOKgm 318 0 aC318 = true := by decide +kernel
set_option maxRecDepth 100000 in
theorem ck319 : aOKgm 319 0 aC319 = true := by decide +kernel
set_option maxRecDepth 100000 in
theorem ck320 : aOKgm 320 0 aC320 = true := by decide +kernel
set_option maxRecDepth 100000 in
theorem ck321 : aOKgm 321 0 aC321 = true := by decide +kernel
set_option maxRecDepth 100000 in
theorem ck322 : aOKgm 322 0 aC322 = true := by decide +kernel
set_option maxRecDepth 100000 in
theorem ck323 : aOKgm 323 0 aC323 = true := by decide +kernel
set_option maxRecDepth 100000 in
theorem ck324 : aOKgm 324 0 aC324 = true := by decide +kernel
set_option maxRecDepth 100000 in
theorem ck325 : aOKgm 325 0 aC325 = true := by decide +kernel
set_option maxRecDepth 100000 in
theorem ck326 : aOKgm 326 0 aC326 = true := by decide +kernel
set_option maxRecDepth 100000 in
theorem ck327 : aOKgm 327 0 aC327 = true := by decide +kernel
set_option maxRecDepth 100000 in
theorem ck328_0 : aOKgc 328 0 aC328_0 = true := by decide +kernel
set_option maxRecDepth 100000 in
theorem ck328_1 : aOKgc 328 32 aC328_1 = true := by decide +kernel
set_option maxRecDepth 100000 in
theorem ck328_2 : aOKgc 328 64 aC328_2 = true := by decide +kernel
set_option maxRecDepth 100000 in
theorem ck328_3 : aOKgc 328 96 aC328_3 = true := by decide +kernel
set_option maxRecDepth 100000 in
theorem ck328_4 : aOKgc 328 128 aC328_4 = true := by decide +kernel
set_option maxRecDepth 100000 in
theorem ck328_5 : aOKgc 328 160 aC328_5 = true := by decide +kernel
set_option maxRecDepth 100000 in
theorem ck328_6 : aOKgc 328 192 aC328_6 = true := by decide +kernel
set_option maxRecDepth 100000 in
theorem ck328_7 : aOKgc 328 224 aC328_7 = true := by decide +kernel
set_option maxRecDepth 100000 in
theorem ck328_8 : aOKgc 328 256 aC328_8 = true := by decide +kernel
set_option maxRecDepth 100000 in
theorem ck328_9 : aOKgc 328 288 aC328_9 = true := by decide +kernel
set_option maxRecDepth 100000 in
theorem ck328_10 : aOKgc 328 320 aC328_10 = true := by decide +kernel
set_option maxRecDepth 100000 in
theorem ck328_11 : aOKgc 328 352 aC328_11 = true := by decide +kernel
set_option maxRecDepth 100000 in
theorem ck328_12 : aOKgc 328 384 aC328_12 = true := by decide +kernel
set_option maxRecDepth 100000 in
theorem ck328_13 : aOKgc 328 416 aC328_13 = true := by decide +kernel
set_option maxRecDepth 100000 in
theorem ck328_14 : aOKgc 328 448 aC328_14 = true := by decide +kernel
set_option maxRecDepth 100000 in
theorem ck328_15 : aOKgc 328 480 aC328_15 = true := by decide +kernel
set_option maxRecDepth 100000 in
theorem ck328_16 : aOKgc 328 512 aC328_16 = true := by decide +kernel
set_option maxRecDepth 100000 in
theorem ck328_17 : aOKgc 328 544 aC328_17 = true := by decide +kernel
set_option maxRecDepth 100000 in
theorem ck328_18 : aOKgc 328 576 aC328_18 = true := by decide +kernel
set_option maxRecDepth 100000 in
theorem ck328_19 : aOKgc 328 608 aC328_19 = true := by decide +kernel
set_option maxRecDepth 100000 in
theorem ck328_20 : aOKgc 328 640 aC328_20 = true := by decide +kernel
set_option maxRecDepth 100000 in
theorem ck328_21 : aOKgc 328 672 aC328_21 = true := by decide +kernel
set_option maxRecDepth 100000 in
theorem ck328_22 : aOKgc 328 704 aC328_22 = true := by decide +kernel
set_option maxRecDepth 100000 in
theorem ck328_23 : aOKgc 328 736 aC328_23 = true := by decide +kernel
