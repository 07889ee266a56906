set_option maxRecDepth 100000 in
theorem px_d332_0 : px_ck code (32 * 0) (px_m332.2.2.2.2.2.1.getD 0 []) = true := by decide +kernel
set_option maxRecDepth 100000 in
theorem px_d332_1 : px_ck code (32 * 1) (px_m332.2.2.2.2.2.1.getD 1 []) = true := by decide +kernel
set_option maxRecDepth 100000 in
theorem px_d332_2 : px_ck code (32 * 2) (px_m332.2.2.2.2.2.1.getD 2 []) = true := by decide +kernel
set_option maxRecDepth 100000 in
theorem px_d332_3 : px_ck code (32 * 3) (px_m332.2.2.2.2.2.1.getD 3 []) = true := by decide +kernel
set_option maxRecDepth 100000 in
theorem px_d332_4 : px_ck code (32 * 4) (px_m332.2.2.2.2.2.1.getD 4 []) = true := by decide +kernel
set_option maxRecDepth 100000 in
theorem px_d332_5 : px_ck code (32 * 5) (px_m332.2.2.2.2.2.1.getD 5 []) = true := by decide +kernel
set_option maxRecDepth 100000 in
theorem px_d332_6 : px_ck code (32 * 6) (px_m332.2.2.2.2.2.1.getD 6 []) = true := by decide +kernel
set_option maxRecDepth 100000 in
theorem px_d332_7 : px_ck code (32 * 7) (px_m332.2.2.2.2.2.1.getD 7 []) = true := by decide +kernel
set_option maxRecDepth 100000 in
theorem px_d332_8 : px_ck code (32 * 8) (px_m332.2.2.2.2.2.1.getD 8 []) = true := by decide +kernel
set_option maxRecDepth 100000 in
theorem px_d332_9 : px_ck code (32 * 9) (px_m332.2.2.2.2.2.1.getD 9 []) = true := by decide +kernel
set_option maxRecDepth 100000 in
theorem px_d332_10 : px_ck code (32 * 10) (px_m332.2.2.2.2.2.1.getD 10 []) = true := by decide +kernel
set_option maxRecDepth 100000 in
theorem px_d332_11 : px_ck code (32 * 11) (px_m332.2.2.2.2.2.1.getD 11 []) = true := by decide +kernel
set_option maxRecDepth 100000 in
theorem px_d332_12 : px_ck code (32 * 12) (px_m332.2.2.2.2.2.1.getD 12 []) = true := by decide +kernel
set_option maxRecDepth 100000 in
theorem px_d332_13 : px_ck code (32 * 13) (px_m332.2.2.2.2.2.1.getD 13 []) = true := by decide +kernel
set_option maxRecDepth 100000 in
theorem px_d332_14 : px_ck code (32 * 14) (px_m332.2.2.2.2.2.1.getD 14 []) = true := by decide +kernel
set_option maxRecDepth 100000 in
theorem px_d332_15 : px_ck code (32 * 15) (px_m332.2.2.2.2.2.1.getD 15 []) = true := by decide +kernel
set_option maxRecDepth 100000 in
theorem px_d332_16 : px_ck code (32 * 16) (px_m332.2.2.2.2.2.1.getD 16 []) = true := by decide +kernel
set_option maxRecDepth 100000 in
theorem px_d332_17 : px_ck code (32 * 17) (px_m332.2.2.2.2.2.1.getD 17 []) = true := by decide +kernel
set_option maxRecDepth 100000 in
theorem px_d332_18 : px_ck code (32 * 18) (px_m332.2.2.2.2.2.1.getD 18 []) = true := by decide +kernel
set_option maxRecDepth 100000 in
theorem px_d332_19 : px_ck code (32 * 19) (px_m332.2.2.2.2.2.1.getD 19 []) = true := by decide +kernel
set_option maxRecDepth 100000 in
theorem px_d332_20 : px_ck code (32 * 20) (px_m332.2.2.2.2.2.1.getD 20 []) = true := by decide +kernel
set_option maxRecDepth 100000 in
theorem px_d332_21 : px_ck code (32 * 21) (px_m332.2.2.2.2.2.1.getD 21 []) = true := by decide +kernel
set_option maxRecDepth 100000 in
theorem px_d332_22 : px_ck code (32 * 22) (px_m332.2.2.2.2.2.1.getD 22 []) = true := by decide +kernel
set_option maxRecDepth 100000 in
theorem px_d332_23 : px_ck code (32 * 23) (px_m332.2.2.2.2.2.1.getD 23 []) = true := by decide +kernel
set_option maxRecDepth 100000 in
theorem px_d332_24 : px_ck code (32 * 24) (px_m332.2.2.2.2.2.1.getD 24 []) = true := by decide +kernel
set_option maxRecDepth 100000 in
theorem px_d332_25 : px_ck code (32 * 25) (px_m332.2.2.2.2.2.1.getD 25 []) = true := by decide +kernel
set_option maxRecDepth 100000 in
theorem px_d332_26 : px_ck code (32 * 26) (px_m332.2.2.2.2.2.1.getD 26 []) = true := by decide +kernel
set_option maxRecDepth 100000 in
theorem px_d332_27 : px_ck code (32 * 27) (px_m332.2.2.2.2.2.1.getD 27 []) = true := by decide +kernel
set_option maxRecDepth 100000 in
theorem px_d332_28 : px_ck code (32 * 28) (px_m332.2.2.2.2.2.1.getD 28 []) = true := by decide +kernel
set_option maxRecDepth 100000 in
theorem px_d332_29 : px_ck code (32 * 29) (px_m332.2.2.2.2.2.1.getD 29 []) = true := by decide +kernel
set_option maxRecDepth 100000 in
theorem px_d332_30 : px_ck code (32 * 30) (px_m332.2.2.2.2.2.1.getD 30 []) = true := by decide +kernel
set_option maxRecDepth 100000 in
theorem px_d332_31 : px_ck code (32 * 31) (px_m332.2.2.2.2.2.1.getD 31 []) = true := by decide +kernel
set_option maxRecDepth 100000 in
theorem px_d332_32 : px_ck code (32 * 32) (px_m332.2.2.2.2.2.1.getD 32 []) = true := by decide +kernel
set_option maxRecDepth 100000 in
theorem px_d332_33 : px_ck code (32 * 33) (px_m332.2.2.2.2.2.1.getD 33 []) = true := by decide +kernel
set_option maxRecDepth 100000 in
theorem px_d332_34 : px_ck code (32 * 34) (px_m332.2.2.2.2.2.1.getD 34 []) = true := by decide +kernel
set_option maxRecDepth 100000 in
theorem px_d332_35 : px_ck code (32 * 35) (px_m332.2.2.2.2.2.1.getD 35 []) = true := by decide +kernel
set_option maxRecDepth 100000 in
theorem px_d332_36 : px_ck code (32 * 36) (px_m332.2.2.2.2.2.1.getD 36 []) = true := by decide +kernel
set_option maxRecDepth 100000 in
theorem px_d332_37 : px_ck code (32 * 37) (px_m332.2.2.2.2.2.1.getD 37 []) = true := by decide +kernel
set_option maxRecDepth 100000 in
theorem px_d332_38 : px_ck code (32 * 38) (px_m332.2.2.2.2.2.1.getD 38 []) = true := by decide +kernel
set_option maxRecDepth 100000 in
theorem px_d332_39 : px_ck code (32 * 39) (px_m332.2.2.2.2.2.1.getD 39 []) = true := by decide +kernel
set_option maxRecDepth 100000 in
theorem px_d332_40 : px_ck code (32 * 40) (px_m332.2.2.2.2.2.1.getD 40 []) = true := by decide +kernel
set_option maxRecDepth 100000 in
theorem px_d332_41 : px_ck code (32 * 41) (px_m332.2.2.2.2.2.1.getD 41 []) = true := by decide +kernel
set_option maxRecDepth 100000 in
theorem px_d332_42 : px_ck code (32 * 42) (px_m332.2.2.2.2.2.1.getD 42 []) = true := by decide +kernel
set_option maxRecDepth 100000 in
theorem px_d332_43 : px_ck code (32 * 43) (px_m332.2.2.2.2.2.1.getD 43 []) = true := by decide +kernel
set_option maxRecDepth 100000 in
theorem px_d332_44 : px_ck code (32 * 44) (px_m332.2.2.2.2.2.1.getD 44 []) = true := by decide +kernel
set_option maxRecDepth 100000 in
theorem px_d332_45 : px_ck code (32 * 45) (px_m332.2.2.2.2.2.1.getD 45 []) = true := by decide +kernel
set_option maxRecDepth 100000 in
theorem px_d332_46 : px_ck code (32 * 46) (px_m332.2.2.2.2.2.1.getD 46 []) = true := by decide +kernel
set_option maxRecDepth 100000 in
theorem px_d332_47 : px_ck code (32 * 47) (px_m332.2.2.2.2.2.1.getD 47 []) = true := by decide +kernel
set_option maxRecDepth 100000 in
theorem px_d332_48 : px_ck code (32 * 48) (px_m332.2.2.2.2.2.1.getD 48 []) = true := by decide +kernel
set_option maxRecDepth 100000 in
theorem px_d332_49 : px_ck code (32 * 49) (px_m332.2.2.2.2.2.1.getD 49 []) = true := by decide +kernel
set_option maxRecDepth 100000 in
theorem px_d332_50 : px_ck code (32 * 50) (px_m332.2.2.2.2.2.1.getD 50 []) = true := by decide +kernel
set_option maxRecDepth 100000 in
theorem px_d332_51 : px_ck code (32 * 51) (px_m332.2.2.2.2.2.1.getD 51 []) = true := by decide +kernel
set_option maxRecDepth 100000 in
theorem px_d332_52 : px_ck code (32 * 52) (px_m332.2.2.2.2.2.1.getD 52 []) = true := by decide +kernel
set_option maxRecDepth 100000 in
theorem px_d332_53 : px_ck code (32 * 53) (px_m332.2.2.2.2.2.1.getD 53 []) = true := by decide +kernel
set_option maxRecDepth 100000 in
theorem px_d332_54 : px_ck code (32 * 54) (px_m332.2.2.2.2.2.1.getD 54 []) = true := by decide +kernel
set_option maxRecDepth 100000 in
theorem px_d332_55 : px_ck code (32 * 55) (px_m332.2.2.2.2.2.1.getD 55 []) = true := by decide +kernel
set_option maxRecDepth 100000 in
theorem px_d332_56 : px_ck code (32 * 56) (px_m332.2.2.2.2.2.1.getD 56 []) = true := by decide +kernel
set_option maxRecDepth 100000 in
theorem px_d332_57 : px_ck code (32 * 57) (px_m332.2.2.2.2.2.1.getD 57 []) = true := by decide +kernel
set_option maxRecDepth 100000 in
theorem px_d332_58 : px_ck code (32 * 58) (px_m332.2.2.2.2.2.1.getD 58 []) = true := by decide +kernel
set_option maxRecDepth 100000 in
theorem px_d332_59 : px_ck code (32 * 59) (px_m332.2.2.2.2.2.1.getD 59 []) = true := by decide +kernel
set_option maxRecDepth 100000 in
theorem px_d332_60 : px_ck code (32 * 60) (px_m332.2.2.2.2.2.1.getD 60 []) = true := by decide +kernel
set_option maxRecDepth 100000 in
theorem px_d332_61 : px_ck code (32 * 61) (px_m332.2.2.2.2.2.1.getD 61 []) = true := by decide +kernel
set_option maxRecDepth 100000 in
theorem px_d332_62 : px_ck code (32 * 62) (px_m332.2.2.2.2.2.1.getD 62 []) = true := by decide +kernel
set_option maxRecDepth 100000 in
theorem px_d332_63 : px_ck code (32 * 63) (px_m332.2.2.2.2.2.1.getD 63 []) = true := by decide +kernel
set_option maxRecDepth 100000 in
theorem px_d332_64 : px_ck code (32 * 64) (px_m332.2.2.2.2.2.1.getD 64 []) = true := by decide +kernel
set_option maxRecDepth 100000 in
theorem px_d332_65 : px_ck code (32 * 65) (px_m332.2.2.2.2.2.1.getD 65 []) = true := by decide +kernel
set_option maxRecDepth 100000 in
theorem px_d332_66 : px_ck code (32 * 66) (px_m332.2.2.2.2.2.1.getD 66 []) = true := by decide +kernel
set_option maxRecDepth 100000 in
theorem px_d332_67 : px_ck code (32 * 67) (px_m332.2.2.2.2.2.1.getD 67 []) = true := by decide +kernel
set_option maxRecDepth 100000 in
theorem px_d332_68 : px_ck code (32 * 68) (px_m332.2.2.2.2.2.1.getD 68 []) = true := by decide +kernel
set_option maxRecDepth 100000 in
theorem px_d332_69 : px_ck code (32 * 69) (px_m332.2.2.2.2.2.1.getD 69 []) = true := by decide +kernel
set_option maxRecDepth 100000 in
theorem px_d332_70 : px_ck code (32 * 70) (px_m332.2.2.2.2.2.1.getD 70 []) = true := by decide +kernel
set_option maxRecDepth 100000 in
theorem px_d332_71 : px_ck code (32 * 71) (px_m332.2.2.2.2.2.1.getD 71 []) = true := by decide +kernel
set_option maxRecDepth 100000 in
theorem px_d332_72 : px_ck code (32 * 72) (px_m332.2.2.2.2.2.1.getD 72 []) = true := by decide +kernel
set_option maxRecDepth 100000 in
theorem px_d332_73 : px_ck code (32 * 73) (px_m332.2.2.2.2.2.1.getD 73 []) = true := by decide +kernel
set_option maxRecDepth 100000 in
theorem px_d332_74 : px_ck code (32 * 74) (px_m332.2.2.2.2.2.1.getD 74 []) = true := by decide +kernel
set_option maxRecDepth 100000 in
theorem px_d332_75 : px_ck code (32 * 75) (px_m332.2.2.2.2.2.1.getD 75 []) = true := by decide +kernel
set_option maxRecDepth 100000 in
theorem px_d332_76 : px_ck code (32 * 76) (px_m332.2.2.2.2.2.1.getD 76 []) = true := by decide +kernel
