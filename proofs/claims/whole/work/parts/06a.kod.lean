set_option maxRecDepth 100000 in
theorem km_0 : chM 0 = true := by decide +kernel
set_option maxRecDepth 100000 in
theorem km_1 : chM 1 = true := by decide +kernel
set_option maxRecDepth 100000 in
theorem km_2 : chM 2 = true := by decide +kernel
set_option maxRecDepth 100000 in
theorem km_3 : chM 3 = true := by decide +kernel
set_option maxRecDepth 100000 in
theorem km_4 : chM 4 = true := by decide +kernel
set_option maxRecDepth 100000 in
theorem km_5 : chM 5 = true := by decide +kernel
set_option maxRecDepth 100000 in
theorem km_6 : chM 6 = true := by decide +kernel
set_option maxRecDepth 100000 in
theorem km_7 : chM 7 = true := by decide +kernel
set_option maxRecDepth 100000 in
theorem km_8 : chM 8 = true := by decide +kernel
set_option maxRecDepth 100000 in
theorem km_9 : chM 9 = true := by decide +kernel
set_option maxRecDepth 100000 in
theorem km_10 : chM 10 = true := by decide +kernel
set_option maxRecDepth 100000 in
theorem km_11 : chM 11 = true := by decide +kernel
set_option maxRecDepth 100000 in
theorem km_12 : chM 12 = true := by decide +kernel
set_option maxRecDepth 100000 in
theorem km_13 : chM 13 = true := by decide +kernel
set_option maxRecDepth 100000 in
theorem km_14 : chM 14 = true := by decide +kernel
set_option maxRecDepth 100000 in
theorem km_15 : chM 15 = true := by decide +kernel
set_option maxRecDepth 100000 in
theorem km_16 : chM 16 = true := by decide +kernel
set_option maxRecDepth 100000 in
theorem km_17 : chM 17 = true := by decide +kernel
set_option maxRecDepth 100000 in
theorem km_18 : chM 18 = true := by decide +kernel
set_option maxRecDepth 100000 in
theorem km_19 : chM 19 = true := by decide +kernel
set_option maxRecDepth 100000 in
theorem km_20 : chM 20 = true := by decide +kernel
set_option maxRecDepth 100000 in
theorem km_21 : chM 21 = true := by decide +kernel
set_option maxRecDepth 100000 in
theorem km_22 : chM 22 = true := by decide +kernel
set_option maxRecDepth 100000 in
theorem km_23 : chM 23 = true := by decide +kernel
set_option maxRecDepth 100000 in
theorem km_24 : chM 24 = true := by decide +kernel
set_option maxRecDepth 100000 in
theorem km_25 : chM 25 = true := by decide +kernel
set_option maxRecDepth 100000 in
theorem km_26 : chM 26 = true := by decide +kernel
set_option maxRecDepth 100000 in
theorem km_27 : chM 27 = true := by decide +kernel
set_option maxRecDepth 100000 in
theorem km_28 : chM 28 = true := by decide +kernel
set_option maxRecDepth 100000 in
theorem km_29 : chM 29 = true := by decide +kernel
set_option maxRecDepth 100000 in
theorem km_30 : chM 30 = true := by decide +kernel
set_option maxRecDepth 100000 in
theorem km_31 : chM 31 = true := by decide +kernel
set_option maxRecDepth 100000 in
theorem km_32 : chM 32 = true := by decide +kernel
set_option maxRecDepth 100000 in
theorem km_33 : chM 33 = true := by decide +kernel
set_option maxRecDepth 100000 in
theorem km_34 : chM 34 = true := by decide +kernel
set_option maxRecDepth 100000 in
theorem km_35 : chM 35 = true := by decide +kernel
set_option maxRecDepth 100000 in
theorem km_36 : chM 36 = true := by decide +kernel
set_option maxRecDepth 100000 in
theorem km_37 : chM 37 = true := by decide +kernel
set_option maxRecDepth 100000 in
theorem km_38 : chM 38 = true := by decide +kernel
set_option maxRecDepth 100000 in
theorem km_39 : chM 39 = true := by decide +kernel
set_option maxRecDepth 100000 in
theorem km_40 : chM 40 = true := by decide +kernel
set_option maxRecDepth 100000 in
theorem km_41 : chM 41 = true := by decide +kernel
set_option maxRecDepth 100000 in
theorem km_42 : chM 42 = true := by decide +kernel
set_option maxRecDepth 100000 in
theorem km_43 : chM 43 = true := by decide +kernel
set_option maxRecDepth 100000 in
theorem km_44 : chM 44 = true := by decide +kernel
set_option maxRecDepth 100000 in
theorem km_45 : chM 45 = true := by decide +kernel
set_option maxRecDepth 100000 in
theorem km_46 : chM 46 = true := by decide +kernel
set_option maxRecDepth 100000 in
theorem km_47 : chM 47 = true := by decide +kernel
set_option maxRecDepth 100000 in
theorem km_48 : chM 48 = true := by decide +kernel
set_option maxRecDepth 100000 in
theorem km_49 : chM 49 = true := by decide +kernel
set_option maxRecDepth 100000 in
theorem km_50 : chM 50 = true := by decide +kernel
set_option maxRecDepth 100000 in
theorem km_51 : chM 51 = true := by decide +kernel
set_option maxRecDepth 100000 in
theorem km_52 : chM 52 = true := by decide +kernel
set_option maxRecDepth 100000 in
theorem km_53 : chM 53 = true := by decide +kernel
set_option maxRecDepth 100000 in
theorem km_54 : chM 54 = true := by decide +kernel
set_option maxRecDepth 100000 in
theorem km_55 : chM 55 = true := by decide +kernel
set_option maxRecDepth 100000 in
theorem km_56 : chM 56 = true := by decide +kernel
set_option maxRecDepth 100000 in
theorem km_57 : chM 57 = true := by decide +kernel
set_option maxRecDepth 100000 in
theorem km_58 : chM 58 = true := by decide +kernel
set_option maxRecDepth 100000 in
theorem km_59 : chM 59 = true := by decide +kernel
set_option maxRecDepth 100000 in
theorem km_60 : chM 60 = true := by decide +kernel
set_option maxRecDepth 100000 in
theorem km_61 : chM 61 = true := by decide +kernel
set_option maxRecDepth 100000 in
theorem km_62 : chM 62 = true := by decide +kernel
set_option maxRecDepth 100000 in
theorem km_63 : chM 63 = true := by decide +kernel
set_option maxRecDepth 100000 in
theorem km_64 : chM 64 = true := by decide +kernel
set_option maxRecDepth 100000 in
theorem km_65 : chM 65 = true := by decide +kernel
set_option maxRecDepth 100000 in
theorem km_66 : chM 66 = true := by decide +kernel
set_option maxRecDepth 100000 in
theorem km_67 : chM 67 = true := by decide +kernel
set_option maxRecDepth 100000 in
theorem km_68 : chM 68 = true := by decide +kernel
set_option maxRecDepth 100000 in
theorem km_69 : chM 69 = true := by decide +kernel
set_option maxRecDepth 100000 in
theorem km_70 : chM 70 = true := by decide +kernel
set_option maxRecDepth 100000 in
theorem km_71 : chM 71 = true := by decide +kernel
set_option maxRecDepth 100000 in
theorem km_72 : chM 72 = true := by decide +kernel
set_option maxRecDepth 100000 in
theorem km_73 : chM 73 = true := by decide +kernel
set_option maxRecDepth 100000 in
theorem km_74 : chM 74 = true := by decide +kernel
