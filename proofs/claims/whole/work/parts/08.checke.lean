/-! EVERY INSTRUCTION IS WHAT THE CLASS FILES SAY (by program) -/
set_option maxRecDepth 100000 in
theorem ck328_24 : aOKgc 328 768 aC328_24 = true := by decide +kernel
set_option maxRecDepth 100000 in
theorem ck328_25 : aOKgc 328 800 aC328_25 = true := by decide +kernel
set_option maxRecDepth 100000 in
theorem ck328_26 : aOKgc 328 832 aC328_26 = true := by decide +kernel
set_option maxRecDepth 100000 in
theorem ck328_27 : aOKgc 328 864 aC328_27 = true := by decide +kernel
set_option maxRecDepth 100000 in
theorem ck328_28 : aOKgc 328 896 aC328_28 = true := by decide +kernel
set_option maxRecDepth 100000 in
theorem ck328_29 : aOKgc 328 928 aC328_29 = true := by decide +kernel
set_option maxRecDepth 100000 in
theorem ck328_30 : aOKgc 328 960 aC328_30 = true := by decide +kernel
set_option maxRecDepth 100000 in
theorem ck328_31 : aOKgc 328 992 aC328_31 = true := by decide +kernel
set_option maxRecDepth 100000 in
theorem ck328_32 : aOKgc 328 1024 aC328_32 = true := by decide +kernel
set_option maxRecDepth 100000 in
theorem ck328_33 : aOKgc 328 1056 aC328_33 = true := by decide +kernel
set_option maxRecDepth 100000 in
theorem ck328_34 : aOKgc 328 1088 aC328_34 = true := by decide +kernel
set_option maxRecDepth 100000 in
theorem ck328_35 : aOKgc 328 1120 aC328_35 = true := by decide +kernel
set_option maxRecDepth 100000 in
theorem ck328_36 : aOKgc 328 1152 aC328_36 = true := by decide +kernel
set_option maxRecDepth 100000 in
theorem ck328_37 : aOKgc 328 1184 aC328_37 = true := by decide +kernel
set_option maxRecDepth 100000 in
theorem ck328_38 : aOKgc 328 1216 aC328_38 = true := by decide +kernel
set_option maxRecDepth 100000 in
theorem ck328_39 : aOKgc 328 1248 aC328_39 = true := by decide +kernel
set_option maxRecDepth 100000 in
theorem ck328_40 : aOKgc 328 1280 aC328_40 = true := by decide +kernel
set_option maxRecDepth 100000 in
theorem ck328_41 : aOKgc 328 1312 aC328_41 = true := by decide +kernel
set_option maxRecDepth 100000 in
theorem ck328_42 : aOKgc 328 1344 aC328_42 = true := by decide +kernel
set_option maxRecDepth 100000 in
theorem ck328_43 : aOKgc 328 1376 aC328_43 = true := by decide +kernel
set_option maxRecDepth 100000 in
theorem ck328_44 : aOKgc 328 1408 aC328_44 = true := by decide +kernel
set_option maxRecDepth 100000 in
theorem ck328_45 : aOKgc 328 1440 aC328_45 = true := by decide +kernel
set_option maxRecDepth 100000 in
theorem ck328_46 : aOKgc 328 1472 aC328_46 = true := by decide +kernel
set_option maxRecDepth 100000 in
theorem ck328_47 : aOKgc 328 1504 aC328_47 = true := by decide +kernel
set_option maxRecDepth 100000 in
theorem ck328_48 : aOKgc 328 1536 aC328_48 = true := by decide +kernel
set_option maxRecDepth 100000 in
theorem ck328_49 : aOKgc 328 1568 aC328_49 = true := by decide +kernel
set_option maxRecDepth 100000 in
theorem ck328_50 : aOKgc 328 1600 aC328_50 = true := by decide +kernel
set_option maxRecDepth 100000 in
theorem ck328_51 : aOKgc 328 1632 aC328_51 = true := by decide +kernel
set_option maxRecDepth 100000 in
theorem ck328_52 : aOKgc 328 1664 aC328_52 = true := by decide +kernel
set_option maxRecDepth 100000 in
theorem ck328_53 : aOKgc 328 1696 aC328_53 = true := by decide +kernel
set_option maxRecDepth 100000 in
theorem ck328_54 : aOKgc 328 1728 aC328_54 = true := by decide +kernel
set_option maxRecDepth 100000 in
theorem ck328_55 : aOKgc 328 1760 aC328_55 = true := by decide +kernel
set_option maxRecDepth 100000 in
theorem ck328_56 : aOKgc 328 1792 aC328_56 = true := by decide +kernel
set_option maxRecDepth 100000 in
theorem ck328_57 : aOKgc 328 1824 aC328_57 = true := by decide +kernel
set_option maxRecDepth 100000 in
theorem ck328_58 : aOKgc 328 1856 aC328_58 = true := by decide +kernel
set_option maxRecDepth 100000 in
theorem ck328_59 : aOKgc 328 1888 aC328_59 = true := by decide +kernel
set_option maxRecDepth 100000 in
theorem ck328_60 : aOKgc 328 1920 aC328_60 = true := by decide +kernel
set_option maxRecDepth 100000 in
theorem ck328_61 : aOKgc 328 1952 aC328_61 = true := by decide +kernel
set_option maxRecDepth 100000 in
theorem ck328_62 : aOKgc 328 1984 aC328_62 = true := by decide +kernel
set_option maxRecDepth 100000 in
theorem ck328_63 : aOKgc 328 2016 aC328_63 = true := by decide +kernel
set_option maxRecDepth 100000 in
theorem ck328_64 : aOKgc 328 2048 aC328_64 = true := by decide +kernel
