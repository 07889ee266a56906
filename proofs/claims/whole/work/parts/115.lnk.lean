/-! the links, cells and methods that the walks name (written by wip/whole/gen/walk.py) -/
theorem jlk_0_9 : px_lk 0 9 = some (0, 0, 0) := rfl
theorem jlk_0_15 : px_lk 0 15 = some (0, 0, 2) := rfl
theorem jlk_0_19 : px_lk 0 19 = some (0, 0, 4) := rfl
theorem jlk_0_22 : px_lk 0 22 = some (2, 334, 2) := rfl
theorem jlk_0_28 : px_lk 0 28 = some (0, 0, 1) := rfl
theorem jlk_0_32 : px_lk 0 32 = some (10, 0, 5) := rfl
theorem jlk_0_38 : px_lk 0 38 = some (2, 1, 0) := rfl
theorem jlk_0_41 : px_lk 0 41 = some (2, 116, 0) := rfl
theorem jlk_0_47 : px_lk 0 47 = some (2, 121, 2) := rfl
theorem jlk_0_51 : px_lk 0 51 = some (1, 9, 4) := rfl
theorem jlk_0_54 : px_lk 0 54 = some (2, 120, 2) := rfl
theorem jlk_0_58 : px_lk 0 58 = some (2, 123, 1) := rfl
theorem jlk_0_62 : px_lk 0 62 = some (0, 0, 3) := rfl
theorem jlk_0_65 : px_lk 0 65 = some (2, 5, 4) := rfl
theorem jlk_0_69 : px_lk 0 69 = some (2, 94, 4) := rfl
theorem jlk_0_75 : px_lk 0 75 = some (2, 337, 1) := rfl
theorem jlk_0_81 : px_lk 0 81 = some (2, 335, 2) := rfl
theorem jlk_0_84 : px_lk 0 84 = some (2, 8, 3) := rfl
theorem jlk_1_9 : px_lk 1 9 = some (0, 1, 4) := rfl
theorem jlk_1_15 : px_lk 1 15 = some (0, 1, 5) := rfl
theorem jlk_1_18 : px_lk 1 18 = some (0, 1, 6) := rfl
theorem jlk_1_21 : px_lk 1 21 = some (0, 1, 7) := rfl
theorem jlk_1_24 : px_lk 1 24 = some (0, 1, 8) := rfl
theorem jlk_1_27 : px_lk 1 27 = some (0, 1, 9) := rfl
theorem jlk_1_30 : px_lk 1 30 = some (0, 1, 10) := rfl
theorem jlk_1_33 : px_lk 1 33 = some (0, 1, 11) := rfl
theorem jlk_1_36 : px_lk 1 36 = some (0, 1, 12) := rfl
theorem jlk_1_39 : px_lk 1 39 = some (0, 1, 13) := rfl
theorem jlk_1_42 : px_lk 1 42 = some (0, 1, 14) := rfl
theorem jlk_1_45 : px_lk 1 45 = some (0, 1, 0) := rfl
theorem jlk_1_49 : px_lk 1 49 = some (0, 1, 1) := rfl
theorem jlk_1_52 : px_lk 1 52 = some (0, 1, 2) := rfl
theorem jlk_1_55 : px_lk 1 55 = some (0, 1, 3) := rfl
theorem jlk_1_58 : px_lk 1 58 = some (10, 0, 5) := rfl
theorem jlk_1_64 : px_lk 1 64 = some (2, 116, 0) := rfl
theorem jlk_1_70 : px_lk 1 70 = some (7, 1, 0) := rfl
theorem jlk_1_72 : px_lk 1 72 = some (2, 117, 1) := rfl
theorem jlk_1_76 : px_lk 1 76 = some (2, 12, 1) := rfl
theorem jlk_1_80 : px_lk 1 80 = some (1, 9, 4) := rfl
theorem jlk_1_83 : px_lk 1 83 = some (2, 120, 2) := rfl
theorem jlk_1_87 : px_lk 1 87 = some (2, 13, 2) := rfl
theorem jlk_1_91 : px_lk 1 91 = some (2, 123, 1) := rfl
theorem jlk_1_95 : px_lk 1 95 = some (2, 14, 1) := rfl
theorem jlk_1_99 : px_lk 1 99 = some (2, 15, 1) := rfl
theorem jlk_1_102 : px_lk 1 102 = some (2, 17, 1) := rfl
theorem jlk_1_105 : px_lk 1 105 = some (2, 18, 1) := rfl
theorem jlk_1_108 : px_lk 1 108 = some (2, 121, 2) := rfl
theorem jlk_1_112 : px_lk 1 112 = some (2, 16, 2) := rfl
theorem jlk_2_9 : px_lk 2 9 = some (0, 2, 0) := rfl
theorem jlk_2_15 : px_lk 2 15 = some (8, 0, 0) := rfl
theorem jlk_2_18 : px_lk 2 18 = some (0, 2, 1) := rfl
theorem jlk_2_22 : px_lk 2 22 = some (0, 2, 2) := rfl
theorem jlk_2_25 : px_lk 2 25 = some (10, 0, 5) := rfl
theorem jlk_2_31 : px_lk 2 31 = some (2, 27, 2) := rfl
theorem jlk_2_35 : px_lk 2 35 = some (2, 116, 0) := rfl
theorem jlk_2_41 : px_lk 2 41 = some (1, 9, 3) := rfl
theorem jlk_2_44 : px_lk 2 44 = some (2, 120, 2) := rfl
theorem jlk_2_48 : px_lk 2 48 = some (2, 28, 2) := rfl
theorem jlk_2_51 : px_lk 2 51 = some (2, 124, 0) := rfl
theorem jlk_2_54 : px_lk 2 54 = some (2, 30, 1) := rfl
theorem jlk_2_58 : px_lk 2 58 = some (2, 29, 2) := rfl
theorem jlk_2_61 : px_lk 2 61 = some (2, 122, 0) := rfl
theorem jlk_2_65 : px_lk 2 65 = some (2, 121, 2) := rfl
theorem jlk_2_69 : px_lk 2 69 = some (2, 31, 2) := rfl
theorem jlk_2_72 : px_lk 2 72 = some (7, 2, 0) := rfl
theorem jlk_2_74 : px_lk 2 74 = some (2, 117, 1) := rfl
theorem jlk_2_78 : px_lk 2 78 = some (2, 32, 3) := rfl
theorem jlk_2_82 : px_lk 2 82 = some (2, 123, 1) := rfl
theorem jlk_2_86 : px_lk 2 86 = some (1, 9, 4) := rfl
theorem jlk_2_89 : px_lk 2 89 = some (2, 24, 3) := rfl
theorem jlk_2_93 : px_lk 2 93 = some (2, 336, 2) := rfl
theorem jlk_2_98 : px_lk 2 98 = some (2, 335, 2) := rfl
theorem jlk_3_9 : px_lk 3 9 = some (0, 3, 0) := rfl
theorem jlk_3_15 : px_lk 3 15 = some (0, 3, 1) := rfl
theorem jlk_3_19 : px_lk 3 19 = some (1, 1, 1) := rfl
theorem jlk_3_25 : px_lk 3 25 = some (1, 1, 5) := rfl
theorem jlk_3_29 : px_lk 3 29 = some (1, 1, 6) := rfl
theorem jlk_3_32 : px_lk 3 32 = some (1, 1, 0) := rfl
theorem jlk_3_35 : px_lk 3 35 = some (2, 38, 2) := rfl
theorem jlk_3_39 : px_lk 3 39 = some (2, 36, 0) := rfl
theorem jlk_3_43 : px_lk 3 43 = some (2, 333, 1) := rfl
theorem jlk_3_49 : px_lk 3 49 = some (2, 335, 2) := rfl
theorem jlk_3_54 : px_lk 3 54 = some (2, 37, 1) := rfl
theorem jlk_3_57 : px_lk 3 57 = some (2, 65, 1) := rfl
theorem jlk_4_9 : px_lk 4 9 = some (0, 4, 2) := rfl
theorem jlk_4_15 : px_lk 4 15 = some (0, 4, 3) := rfl
theorem jlk_4_18 : px_lk 4 18 = some (0, 4, 4) := rfl
theorem jlk_4_21 : px_lk 4 21 = some (0, 4, 0) := rfl
theorem jlk_4_25 : px_lk 4 25 = some (0, 4, 1) := rfl
theorem jlk_4_29 : px_lk 4 29 = some (1, 1, 3) := rfl
theorem jlk_4_35 : px_lk 4 35 = some (1, 1, 2) := rfl
theorem jlk_4_38 : px_lk 4 38 = some (2, 126, 2) := rfl
theorem jlk_4_44 : px_lk 4 44 = some (2, 334, 2) := rfl
theorem jlk_4_50 : px_lk 4 50 = some (2, 44, 2) := rfl
theorem jlk_4_53 : px_lk 4 53 = some (2, 47, 0) := rfl
theorem jlk_4_56 : px_lk 4 56 = some (2, 45, 3) := rfl
theorem jlk_4_60 : px_lk 4 60 = some (2, 46, 3) := rfl
theorem jlk_4_64 : px_lk 4 64 = some (2, 335, 2) := rfl
theorem jlk_4_69 : px_lk 4 69 = some (2, 48, 2) := rfl
theorem jlk_5_13 : px_lk 5 13 = some (0, 5, 0) := rfl
theorem jlk_5_17 : px_lk 5 17 = some (0, 5, 2) := rfl
theorem jlk_5_20 : px_lk 5 20 = some (0, 5, 3) := rfl
theorem jlk_5_23 : px_lk 5 23 = some (0, 5, 4) := rfl
theorem jlk_5_26 : px_lk 5 26 = some (0, 5, 1) := rfl
theorem jlk_5_30 : px_lk 5 30 = some (0, 5, 5) := rfl
theorem jlk_5_33 : px_lk 5 33 = some (2, 54, 0) := rfl
theorem jlk_5_37 : px_lk 5 37 = some (1, 6, 2) := rfl
theorem jlk_5_40 : px_lk 5 40 = some (10, 0, 5) := rfl
theorem jlk_6_11 : px_lk 6 11 = some (0, 6, 2) := rfl
theorem jlk_6_17 : px_lk 6 17 = some (0, 6, 3) := rfl
theorem jlk_6_20 : px_lk 6 20 = some (0, 6, 0) := rfl
theorem jlk_6_24 : px_lk 6 24 = some (0, 6, 1) := rfl
theorem jlk_6_28 : px_lk 6 28 = some (2, 334, 2) := rfl
theorem jlk_6_34 : px_lk 6 34 = some (1, 1, 7) := rfl
theorem jlk_6_39 : px_lk 6 39 = some (10, 0, 5) := rfl
theorem jlk_6_45 : px_lk 6 45 = some (1, 1, 8) := rfl
theorem jlk_6_48 : px_lk 6 48 = some (1, 1, 11) := rfl
theorem jlk_6_51 : px_lk 6 51 = some (2, 59, 1) := rfl
theorem jlk_6_55 : px_lk 6 55 = some (1, 1, 3) := rfl
theorem jlk_6_59 : px_lk 6 59 = some (2, 86, 1) := rfl
theorem jlk_6_63 : px_lk 6 63 = some (2, 57, 1) := rfl
theorem jlk_6_66 : px_lk 6 66 = some (2, 61, 1) := rfl
theorem jlk_6_69 : px_lk 6 69 = some (1, 1, 2) := rfl
theorem jlk_6_72 : px_lk 6 72 = some (2, 88, 1) := rfl
theorem jlk_6_75 : px_lk 6 75 = some (1, 1, 1) := rfl
theorem jlk_6_78 : px_lk 6 78 = some (2, 66, 1) := rfl
theorem jlk_6_81 : px_lk 6 81 = some (2, 23, 1) := rfl
theorem jlk_6_85 : px_lk 6 85 = some (1, 1, 4) := rfl
theorem jlk_6_88 : px_lk 6 88 = some (1, 1, 6) := rfl
theorem jlk_6_91 : px_lk 6 91 = some (1, 1, 5) := rfl
theorem jlk_6_94 : px_lk 6 94 = some (2, 65, 1) := rfl
theorem jlk_6_97 : px_lk 6 97 = some (2, 67, 3) := rfl
theorem jlk_6_101 : px_lk 6 101 = some (2, 68, 1) := rfl
theorem jlk_6_104 : px_lk 6 104 = some (2, 69, 0) := rfl
theorem jlk_6_108 : px_lk 6 108 = some (2, 70, 3) := rfl
theorem jlk_6_111 : px_lk 6 111 = some (1, 1, 14) := rfl
theorem jlk_6_114 : px_lk 6 114 = some (1, 1, 13) := rfl
theorem jlk_6_117 : px_lk 6 117 = some (2, 335, 2) := rfl
theorem jlk_6_123 : px_lk 6 123 = some (2, 333, 1) := rfl
theorem jlk_6_128 : px_lk 6 128 = some (2, 72, 3) := rfl
theorem jlk_6_131 : px_lk 6 131 = some (2, 63, 0) := rfl
theorem jlk_6_134 : px_lk 6 134 = some (2, 78, 4) := rfl
theorem jlk_6_138 : px_lk 6 138 = some (2, 64, 4) := rfl
theorem jlk_6_142 : px_lk 6 142 = some (2, 60, 1) := rfl
theorem jlk_6_145 : px_lk 6 145 = some (2, 71, 1) := rfl
theorem jlk_6_149 : px_lk 6 149 = some (2, 337, 1) := rfl
theorem jlk_6_152 : px_lk 6 152 = some (1, 1, 9) := rfl
theorem jlk_6_155 : px_lk 6 155 = some (2, 58, 1) := rfl
theorem jlk_6_158 : px_lk 6 158 = some (2, 10, 2) := rfl
theorem jlk_6_162 : px_lk 6 162 = some (1, 1, 12) := rfl
theorem jlk_6_165 : px_lk 6 165 = some (2, 16, 2) := rfl
theorem jlk_6_168 : px_lk 6 168 = some (2, 73, 2) := rfl
theorem jlk_6_171 : px_lk 6 171 = some (2, 79, 1) := rfl
theorem jlk_6_174 : px_lk 6 174 = some (2, 76, 2) := rfl
theorem jlk_6_177 : px_lk 6 177 = some (2, 75, 2) := rfl
theorem jlk_6_180 : px_lk 6 180 = some (2, 84, 0) := rfl
theorem jlk_7_9 : px_lk 7 9 = some (0, 7, 0) := rfl
theorem jlk_7_15 : px_lk 7 15 = some (0, 7, 1) := rfl
theorem jlk_7_18 : px_lk 7 18 = some (0, 7, 2) := rfl
theorem jlk_7_21 : px_lk 7 21 = some (0, 7, 3) := rfl
theorem jlk_7_24 : px_lk 7 24 = some (0, 7, 4) := rfl
theorem jlk_7_27 : px_lk 7 27 = some (0, 7, 5) := rfl
theorem jlk_7_31 : px_lk 7 31 = some (0, 7, 6) := rfl
theorem jlk_7_34 : px_lk 7 34 = some (2, 116, 0) := rfl
theorem jlk_7_40 : px_lk 7 40 = some (2, 100, 1) := rfl
theorem jlk_7_44 : px_lk 7 44 = some (2, 102, 2) := rfl
theorem jlk_7_48 : px_lk 7 48 = some (2, 124, 0) := rfl
theorem jlk_7_51 : px_lk 7 51 = some (2, 101, 3) := rfl
theorem jlk_7_55 : px_lk 7 55 = some (2, 123, 1) := rfl
theorem jlk_7_59 : px_lk 7 59 = some (7, 3, 0) := rfl
theorem jlk_7_61 : px_lk 7 61 = some (2, 117, 1) := rfl
theorem jlk_7_65 : px_lk 7 65 = some (2, 103, 1) := rfl
theorem jlk_7_68 : px_lk 7 68 = some (2, 104, 3) := rfl
theorem jlk_7_72 : px_lk 7 72 = some (1, 1, 1) := rfl
theorem jlk_7_77 : px_lk 7 77 = some (1, 1, 2) := rfl
theorem jlk_7_80 : px_lk 7 80 = some (2, 121, 2) := rfl
theorem jlk_7_84 : px_lk 7 84 = some (1, 1, 0) := rfl
theorem jlk_7_87 : px_lk 7 87 = some (1, 1, 3) := rfl
theorem jlk_7_90 : px_lk 7 90 = some (1, 9, 4) := rfl
theorem jlk_7_93 : px_lk 7 93 = some (2, 120, 2) := rfl
theorem jlk_7_97 : px_lk 7 97 = some (0, 7, 7) := rfl
theorem jlk_7_100 : px_lk 7 100 = some (0, 7, 8) := rfl
theorem jlk_7_103 : px_lk 7 103 = some (6, 1000000, 0) := rfl
theorem jlk_7_104 : px_lk 7 104 = some (2, 106, 1) := rfl
theorem jlk_7_108 : px_lk 7 108 = some (2, 107, 2) := rfl
theorem jlk_7_112 : px_lk 7 112 = some (2, 75, 2) := rfl
theorem jlk_7_117 : px_lk 7 117 = some (2, 76, 2) := rfl
theorem jlk_7_120 : px_lk 7 120 = some (2, 77, 2) := rfl
theorem jlk_7_123 : px_lk 7 123 = some (2, 80, 2) := rfl
theorem jlk_7_126 : px_lk 7 126 = some (2, 81, 1) := rfl
theorem jlk_7_130 : px_lk 7 130 = some (2, 82, 0) := rfl
theorem jlk_7_134 : px_lk 7 134 = some (2, 83, 1) := rfl
theorem jlk_8_9 : px_lk 8 9 = some (0, 8, 0) := rfl
theorem jlk_8_15 : px_lk 8 15 = some (0, 8, 1) := rfl
theorem jlk_8_19 : px_lk 8 19 = some (2, 85, 0) := rfl
theorem jlk_8_25 : px_lk 8 25 = some (2, 96, 1) := rfl
theorem jlk_8_29 : px_lk 8 29 = some (0, 8, 2) := rfl
theorem jlk_8_33 : px_lk 8 33 = some (0, 8, 3) := rfl
theorem jlk_8_36 : px_lk 8 36 = some (0, 8, 4) := rfl
theorem jlk_8_39 : px_lk 8 39 = some (0, 8, 5) := rfl
theorem jlk_8_42 : px_lk 8 42 = some (1, 1, 2) := rfl
theorem jlk_8_47 : px_lk 8 47 = some (2, 110, 1) := rfl
theorem jlk_8_51 : px_lk 8 51 = some (1, 1, 0) := rfl
theorem jlk_8_54 : px_lk 8 54 = some (2, 111, 2) := rfl
theorem jlk_8_58 : px_lk 8 58 = some (2, 82, 0) := rfl
theorem jlk_8_62 : px_lk 8 62 = some (2, 84, 0) := rfl
theorem jlk_8_65 : px_lk 8 65 = some (2, 77, 2) := rfl
theorem jlk_8_69 : px_lk 8 69 = some (2, 58, 1) := rfl
theorem jlk_8_73 : px_lk 8 73 = some (2, 79, 1) := rfl
theorem jlk_8_77 : px_lk 8 77 = some (2, 97, 1) := rfl
theorem jlk_8_80 : px_lk 8 80 = some (6, 1103515245, 0) := rfl
theorem jlk_9_9 : px_lk 9 9 = some (0, 9, 0) := rfl
theorem jlk_9_15 : px_lk 9 15 = some (0, 9, 6) := rfl
theorem jlk_9_19 : px_lk 9 19 = some (0, 9, 1) := rfl
theorem jlk_9_22 : px_lk 9 22 = some (2, 336, 2) := rfl
theorem jlk_9_28 : px_lk 9 28 = some (0, 9, 2) := rfl
theorem jlk_9_31 : px_lk 9 31 = some (0, 9, 3) := rfl
theorem jlk_9_34 : px_lk 9 34 = some (0, 9, 4) := rfl
theorem jlk_9_37 : px_lk 9 37 = some (0, 9, 5) := rfl
theorem jlk_9_40 : px_lk 9 40 = some (2, 116, 0) := rfl
theorem jlk_9_44 : px_lk 9 44 = some (2, 120, 2) := rfl
theorem jlk_9_48 : px_lk 9 48 = some (2, 124, 0) := rfl
theorem jlk_9_51 : px_lk 9 51 = some (2, 122, 0) := rfl
theorem jlk_9_55 : px_lk 9 55 = some (6, 100000, 0) := rfl
theorem jlk_9_56 : px_lk 9 56 = some (3, 153, 3) := rfl
theorem jlk_9_60 : px_lk 9 60 = some (11, 0, 0) := rfl
theorem jlk_9_64 : px_lk 9 64 = some (2, 118, 2) := rfl
theorem jlk_9_68 : px_lk 9 68 = some (2, 119, 3) := rfl
theorem jlk_9_72 : px_lk 9 72 = some (12, 0, 1) := rfl
theorem jlk_10_9 : px_lk 10 9 = some (0, 10, 2) := rfl
theorem jlk_10_15 : px_lk 10 15 = some (0, 10, 3) := rfl
theorem jlk_10_18 : px_lk 10 18 = some (0, 10, 0) := rfl
theorem jlk_10_22 : px_lk 10 22 = some (0, 10, 1) := rfl
theorem jlk_10_26 : px_lk 10 26 = some (2, 334, 2) := rfl
theorem jlk_10_32 : px_lk 10 32 = some (1, 1, 1) := rfl
theorem jlk_10_38 : px_lk 10 38 = some (1, 1, 5) := rfl
theorem jlk_10_41 : px_lk 10 41 = some (1, 1, 6) := rfl
theorem jlk_10_44 : px_lk 10 44 = some (2, 62, 4) := rfl
theorem jlk_10_50 : px_lk 10 50 = some (2, 73, 2) := rfl
theorem jlk_10_54 : px_lk 10 54 = some (2, 60, 1) := rfl
theorem jlk_10_58 : px_lk 10 58 = some (2, 127, 2) := rfl
theorem jlk_10_62 : px_lk 10 62 = some (1, 1, 0) := rfl
theorem jlk_10_65 : px_lk 10 65 = some (2, 129, 1) := rfl
theorem jlk_10_68 : px_lk 10 68 = some (2, 128, 2) := rfl
theorem jlk_10_72 : px_lk 10 72 = some (2, 58, 1) := rfl
theorem jlk_10_76 : px_lk 10 76 = some (2, 131, 1) := rfl
theorem jlk_10_80 : px_lk 10 80 = some (2, 59, 1) := rfl
theorem jlk_10_83 : px_lk 10 83 = some (2, 134, 2) := rfl
theorem jlk_10_86 : px_lk 10 86 = some (2, 57, 1) := rfl
theorem jlk_10_89 : px_lk 10 89 = some (2, 10, 2) := rfl
theorem jlk_10_92 : px_lk 10 92 = some (1, 1, 12) := rfl
theorem jlk_10_95 : px_lk 10 95 = some (1, 1, 2) := rfl
theorem jlk_10_98 : px_lk 10 98 = some (2, 126, 2) := rfl
theorem jlk_10_101 : px_lk 10 101 = some (2, 137, 1) := rfl
theorem jlk_10_104 : px_lk 10 104 = some (0, 10, 4) := rfl
theorem jlk_10_108 : px_lk 10 108 = some (0, 10, 5) := rfl
theorem jlk_10_111 : px_lk 10 111 = some (2, 139, 4) := rfl
theorem jlk_10_114 : px_lk 10 114 = some (13, 16, 0) := rfl
theorem jlk_10_116 : px_lk 10 116 = some (13, 2, 0) := rfl
theorem jlk_10_118 : px_lk 10 118 = some (2, 16, 2) := rfl
theorem jlk_10_121 : px_lk 10 121 = some (2, 78, 4) := rfl
theorem jlk_11_10 : px_lk 11 10 = some (0, 11, 0) := rfl
theorem jlk_11_19 : px_lk 11 19 = some (0, 11, 1) := rfl
theorem jlk_11_23 : px_lk 11 23 = some (0, 11, 2) := rfl
theorem jlk_11_29 : px_lk 11 29 = some (0, 11, 3) := rfl
theorem jlk_11_33 : px_lk 11 33 = some (0, 11, 4) := rfl
theorem jlk_11_39 : px_lk 11 39 = some (0, 11, 5) := rfl
theorem jlk_11_43 : px_lk 11 43 = some (0, 11, 6) := rfl
theorem jlk_11_49 : px_lk 11 49 = some (0, 11, 7) := rfl
theorem jlk_11_58 : px_lk 11 58 = some (0, 11, 8) := rfl
theorem jlk_11_65 : px_lk 11 65 = some (0, 11, 9) := rfl
theorem jlk_11_74 : px_lk 11 74 = some (0, 11, 10) := rfl
theorem jlk_11_81 : px_lk 11 81 = some (0, 11, 11) := rfl
theorem jlk_11_90 : px_lk 11 90 = some (0, 11, 12) := rfl
theorem jlk_11_97 : px_lk 11 97 = some (0, 11, 13) := rfl
theorem jlk_11_101 : px_lk 11 101 = some (1, 9, 1) := rfl
theorem jlk_11_105 : px_lk 11 105 = some (2, 114, 1) := rfl
theorem jlk_11_109 : px_lk 11 109 = some (2, 151, 2) := rfl
theorem jlk_11_113 : px_lk 11 113 = some (2, 115, 1) := rfl
theorem jlk_11_116 : px_lk 11 116 = some (2, 11, 1) := rfl
theorem jlk_11_120 : px_lk 11 120 = some (1, 9, 5) := rfl
theorem jlk_11_123 : px_lk 11 123 = some (2, 19, 1) := rfl
theorem jlk_11_127 : px_lk 11 127 = some (2, 25, 0) := rfl
theorem jlk_11_130 : px_lk 11 130 = some (2, 1, 0) := rfl
theorem jlk_11_131 : px_lk 11 131 = some (2, 53, 0) := rfl
theorem jlk_11_132 : px_lk 11 132 = some (2, 74, 0) := rfl
theorem jlk_11_135 : px_lk 11 135 = some (0, 11, 14) := rfl
theorem jlk_11_138 : px_lk 11 138 = some (1, 1, 3) := rfl
theorem jlk_11_141 : px_lk 11 141 = some (2, 26, 1) := rfl
theorem jlk_11_142 : px_lk 11 142 = some (2, 33, 1) := rfl
theorem jlk_11_145 : px_lk 11 145 = some (2, 54, 0) := rfl
theorem jlk_11_149 : px_lk 11 149 = some (2, 99, 2) := rfl
theorem jlk_11_152 : px_lk 11 152 = some (2, 55, 1) := rfl
theorem jlk_11_156 : px_lk 11 156 = some (2, 105, 1) := rfl
theorem jlk_11_159 : px_lk 11 159 = some (1, 7, 8) := rfl
theorem jlk_11_162 : px_lk 11 162 = some (1, 7, 7) := rfl
theorem jlk_11_165 : px_lk 11 165 = some (1, 1, 1) := rfl
theorem jlk_11_168 : px_lk 11 168 = some (2, 2, 2) := rfl
theorem jlk_11_171 : px_lk 11 171 = some (2, 3, 1) := rfl
theorem jlk_11_174 : px_lk 11 174 = some (1, 0, 1) := rfl
theorem jlk_11_177 : px_lk 11 177 = some (1, 9, 6) := rfl
theorem jlk_11_180 : px_lk 11 180 = some (2, 50, 1) := rfl
theorem jlk_11_184 : px_lk 11 184 = some (1, 5, 1) := rfl
theorem jlk_11_187 : px_lk 11 187 = some (2, 152, 3) := rfl
theorem jlk_11_191 : px_lk 11 191 = some (1, 1, 0) := rfl
theorem jlk_11_194 : px_lk 11 194 = some (1, 1, 2) := rfl
theorem jlk_11_197 : px_lk 11 197 = some (2, 69, 0) := rfl
theorem jlk_11_201 : px_lk 11 201 = some (2, 63, 0) := rfl
theorem jlk_11_204 : px_lk 11 204 = some (2, 85, 0) := rfl
theorem jlk_11_207 : px_lk 11 207 = some (2, 87, 0) := rfl
theorem jlk_11_210 : px_lk 11 210 = some (2, 89, 0) := rfl
theorem jlk_11_213 : px_lk 11 213 = some (2, 160, 2) := rfl
theorem jlk_11_216 : px_lk 11 216 = some (1, 1, 4) := rfl
theorem jlk_11_220 : px_lk 11 220 = some (2, 20, 1) := rfl
theorem jlk_11_224 : px_lk 11 224 = some (2, 88, 1) := rfl
theorem jlk_11_227 : px_lk 11 227 = some (2, 90, 1) := rfl
theorem jlk_11_230 : px_lk 11 230 = some (1, 1, 5) := rfl
theorem jlk_11_233 : px_lk 11 233 = some (1, 1, 6) := rfl
theorem jlk_11_236 : px_lk 11 236 = some (2, 65, 1) := rfl
theorem jlk_11_239 : px_lk 11 239 = some (2, 66, 1) := rfl
theorem jlk_11_242 : px_lk 11 242 = some (2, 59, 1) := rfl
theorem jlk_11_245 : px_lk 11 245 = some (1, 1, 9) := rfl
theorem jlk_11_248 : px_lk 11 248 = some (1, 1, 10) := rfl
theorem jlk_11_251 : px_lk 11 251 = some (2, 60, 1) := rfl
theorem jlk_11_254 : px_lk 11 254 = some (2, 68, 1) := rfl
theorem jlk_11_257 : px_lk 11 257 = some (2, 91, 1) := rfl
theorem jlk_11_260 : px_lk 11 260 = some (1, 1, 8) := rfl
theorem jlk_11_263 : px_lk 11 263 = some (1, 1, 11) := rfl
theorem jlk_11_266 : px_lk 11 266 = some (1, 1, 12) := rfl
theorem jlk_11_269 : px_lk 11 269 = some (1, 1, 13) := rfl
theorem jlk_11_272 : px_lk 11 272 = some (1, 1, 14) := rfl
theorem jlk_11_275 : px_lk 11 275 = some (2, 86, 1) := rfl
theorem jlk_11_279 : px_lk 11 279 = some (2, 57, 1) := rfl
theorem jlk_11_282 : px_lk 11 282 = some (2, 61, 1) := rfl
theorem jlk_11_285 : px_lk 11 285 = some (2, 165, 4) := rfl
theorem jlk_11_289 : px_lk 11 289 = some (2, 16, 2) := rfl
theorem jlk_11_293 : px_lk 11 293 = some (2, 92, 3) := rfl
theorem jlk_11_297 : px_lk 11 297 = some (2, 153, 3) := rfl
theorem jlk_11_301 : px_lk 11 301 = some (2, 154, 1) := rfl
theorem jlk_11_305 : px_lk 11 305 = some (2, 67, 3) := rfl
theorem jlk_11_308 : px_lk 11 308 = some (2, 72, 3) := rfl
theorem jlk_11_311 : px_lk 11 311 = some (2, 70, 3) := rfl
theorem jlk_11_314 : px_lk 11 314 = some (2, 93, 0) := rfl
theorem jlk_11_317 : px_lk 11 317 = some (2, 73, 2) := rfl
theorem jlk_11_321 : px_lk 11 321 = some (2, 130, 1) := rfl
theorem jlk_11_324 : px_lk 11 324 = some (2, 132, 2) := rfl
theorem jlk_11_327 : px_lk 11 327 = some (2, 133, 2) := rfl
theorem jlk_11_330 : px_lk 11 330 = some (2, 135, 1) := rfl
theorem jlk_11_333 : px_lk 11 333 = some (2, 126, 2) := rfl
theorem jlk_11_336 : px_lk 11 336 = some (2, 136, 2) := rfl
theorem jlk_11_339 : px_lk 11 339 = some (1, 10, 3) := rfl
theorem jlk_11_342 : px_lk 11 342 = some (2, 36, 0) := rfl
theorem jlk_11_345 : px_lk 11 345 = some (2, 37, 1) := rfl
theorem jlk_11_348 : px_lk 11 348 = some (2, 39, 0) := rfl
theorem jlk_11_351 : px_lk 11 351 = some (2, 35, 0) := rfl
theorem jlk_11_354 : px_lk 11 354 = some (2, 40, 0) := rfl
theorem jlk_11_357 : px_lk 11 357 = some (2, 41, 1) := rfl
theorem jlk_11_360 : px_lk 11 360 = some (2, 4, 2) := rfl
theorem jlk_11_364 : px_lk 11 364 = some (1, 0, 3) := rfl
theorem jlk_11_367 : px_lk 11 367 = some (2, 6, 0) := rfl
theorem jlk_11_370 : px_lk 11 370 = some (2, 7, 3) := rfl
theorem jlk_11_374 : px_lk 11 374 = some (2, 8, 3) := rfl
theorem jlk_11_377 : px_lk 11 377 = some (2, 43, 0) := rfl
theorem jlk_11_380 : px_lk 11 380 = some (1, 4, 4) := rfl
theorem jlk_11_383 : px_lk 11 383 = some (2, 138, 3) := rfl
theorem jlk_11_386 : px_lk 11 386 = some (1, 10, 4) := rfl
theorem jlk_11_390 : px_lk 11 390 = some (1, 10, 5) := rfl
theorem jlk_11_393 : px_lk 11 393 = some (2, 180, 5) := rfl
theorem jlk_11_397 : px_lk 11 397 = some (2, 21, 3) := rfl
theorem jlk_11_400 : px_lk 11 400 = some (2, 95, 0) := rfl
theorem jlk_11_403 : px_lk 11 403 = some (2, 184, 2) := rfl
theorem jlk_11_406 : px_lk 11 406 = some (2, 109, 4) := rfl
theorem jlk_11_409 : px_lk 11 409 = some (2, 112, 0) := rfl
theorem jlk_11_410 : px_lk 11 410 = some (1, 8, 3) := rfl
theorem jlk_11_413 : px_lk 11 413 = some (1, 8, 4) := rfl
theorem jlk_11_416 : px_lk 11 416 = some (1, 8, 5) := rfl
theorem jlk_11_419 : px_lk 11 419 = some (2, 333, 1) := rfl
theorem jlk_11_424 : px_lk 11 424 = some (2, 336, 2) := rfl
theorem jlk_11_429 : px_lk 11 429 = some (2, 335, 2) := rfl
theorem jlk_11_432 : px_lk 11 432 = some (2, 51, 1) := rfl
theorem jlk_11_435 : px_lk 11 435 = some (1, 5, 5) := rfl
theorem jlk_11_438 : px_lk 11 438 = some (2, 52, 1) := rfl
theorem jlk_11_441 : px_lk 11 441 = some (0, 11, 15) := rfl
theorem jlk_11_444 : px_lk 11 444 = some (0, 11, 16) := rfl
theorem jlk_11_447 : px_lk 11 447 = some (5, 0, 0) := rfl
theorem jlk_11_454 : px_lk 11 454 = some (5, 1, 0) := rfl
theorem jlk_12_3 : px_lk 12 3 = some (0, 12, 0) := rfl
theorem jlk_12_7 : px_lk 12 7 = some (0, 12, 1) := rfl
theorem jlk_12_17 : px_lk 12 17 = some (0, 12, 8) := rfl
theorem jlk_12_20 : px_lk 12 20 = some (0, 12, 9) := rfl
theorem jlk_12_23 : px_lk 12 23 = some (0, 12, 10) := rfl
theorem jlk_12_26 : px_lk 12 26 = some (0, 12, 11) := rfl
theorem jlk_12_29 : px_lk 12 29 = some (0, 12, 12) := rfl
theorem jlk_12_32 : px_lk 12 32 = some (0, 12, 13) := rfl
theorem jlk_12_35 : px_lk 12 35 = some (0, 12, 14) := rfl
theorem jlk_12_38 : px_lk 12 38 = some (0, 12, 15) := rfl
theorem jlk_12_41 : px_lk 12 41 = some (0, 12, 16) := rfl
theorem jlk_12_44 : px_lk 12 44 = some (0, 12, 17) := rfl
theorem jlk_12_47 : px_lk 12 47 = some (0, 12, 18) := rfl
theorem jlk_12_50 : px_lk 12 50 = some (0, 12, 19) := rfl
theorem jlk_12_53 : px_lk 12 53 = some (0, 12, 28) := rfl
theorem jlk_12_56 : px_lk 12 56 = some (0, 12, 29) := rfl
theorem jlk_12_59 : px_lk 12 59 = some (0, 12, 30) := rfl
theorem jlk_12_62 : px_lk 12 62 = some (0, 12, 31) := rfl
theorem jlk_12_65 : px_lk 12 65 = some (0, 12, 32) := rfl
theorem jlk_12_68 : px_lk 12 68 = some (0, 12, 35) := rfl
theorem jlk_12_71 : px_lk 12 71 = some (0, 12, 36) := rfl
theorem jlk_12_74 : px_lk 12 74 = some (0, 12, 37) := rfl
theorem jlk_12_77 : px_lk 12 77 = some (0, 12, 44) := rfl
theorem jlk_12_80 : px_lk 12 80 = some (0, 12, 45) := rfl
theorem jlk_12_83 : px_lk 12 83 = some (0, 12, 46) := rfl
theorem jlk_12_86 : px_lk 12 86 = some (0, 12, 50) := rfl
theorem jlk_12_89 : px_lk 12 89 = some (0, 12, 51) := rfl
theorem jlk_12_92 : px_lk 12 92 = some (0, 12, 53) := rfl
theorem jlk_12_95 : px_lk 12 95 = some (0, 12, 54) := rfl
theorem jlk_12_98 : px_lk 12 98 = some (0, 12, 55) := rfl
theorem jlk_12_102 : px_lk 12 102 = some (0, 12, 56) := rfl
theorem jlk_12_105 : px_lk 12 105 = some (0, 12, 57) := rfl
theorem jlk_12_108 : px_lk 12 108 = some (0, 12, 58) := rfl
theorem jlk_12_111 : px_lk 12 111 = some (0, 12, 59) := rfl
theorem jlk_12_114 : px_lk 12 114 = some (0, 12, 60) := rfl
theorem jlk_12_117 : px_lk 12 117 = some (0, 12, 65) := rfl
theorem jlk_12_120 : px_lk 12 120 = some (2, 188, 0) := rfl
theorem jlk_12_123 : px_lk 12 123 = some (2, 189, 0) := rfl
theorem jlk_12_126 : px_lk 12 126 = some (0, 12, 2) := rfl
theorem jlk_12_129 : px_lk 12 129 = some (0, 12, 5) := rfl
theorem jlk_12_132 : px_lk 12 132 = some (0, 12, 6) := rfl
theorem jlk_12_135 : px_lk 12 135 = some (0, 12, 4) := rfl
theorem jlk_12_138 : px_lk 12 138 = some (0, 12, 3) := rfl
theorem jlk_12_141 : px_lk 12 141 = some (2, 198, 0) := rfl
theorem jlk_12_145 : px_lk 12 145 = some (2, 200, 1) := rfl
theorem jlk_12_149 : px_lk 12 149 = some (11, 0, 0) := rfl
theorem jlk_12_154 : px_lk 12 154 = some (12, 0, 1) := rfl
theorem jlk_12_158 : px_lk 12 158 = some (2, 196, 0) := rfl
theorem jlk_12_162 : px_lk 12 162 = some (2, 208, 1) := rfl
theorem jlk_12_165 : px_lk 12 165 = some (2, 203, 2) := rfl
theorem jlk_12_169 : px_lk 12 169 = some (0, 12, 7) := rfl
theorem jlk_12_172 : px_lk 12 172 = some (0, 12, 20) := rfl
theorem jlk_12_175 : px_lk 12 175 = some (0, 12, 21) := rfl
theorem jlk_12_178 : px_lk 12 178 = some (0, 12, 22) := rfl
theorem jlk_12_181 : px_lk 12 181 = some (0, 12, 23) := rfl
theorem jlk_12_184 : px_lk 12 184 = some (0, 12, 24) := rfl
theorem jlk_12_187 : px_lk 12 187 = some (0, 12, 25) := rfl
theorem jlk_12_190 : px_lk 12 190 = some (0, 12, 26) := rfl
theorem jlk_12_193 : px_lk 12 193 = some (0, 12, 27) := rfl
theorem jlk_12_196 : px_lk 12 196 = some (2, 190, 3) := rfl
theorem jlk_12_200 : px_lk 12 200 = some (0, 12, 34) := rfl
theorem jlk_12_203 : px_lk 12 203 = some (0, 12, 52) := rfl
theorem jlk_12_206 : px_lk 12 206 = some (0, 12, 39) := rfl
theorem jlk_12_209 : px_lk 12 209 = some (0, 12, 66) := rfl
theorem jlk_12_212 : px_lk 12 212 = some (0, 12, 40) := rfl
theorem jlk_12_215 : px_lk 12 215 = some (2, 207, 2) := rfl
theorem jlk_12_219 : px_lk 12 219 = some (2, 210, 0) := rfl
theorem jlk_12_222 : px_lk 12 222 = some (7, 5, 0) := rfl
theorem jlk_12_223 : px_lk 12 223 = some (2, 202, 1) := rfl
theorem jlk_12_227 : px_lk 12 227 = some (7, 6, 0) := rfl
theorem jlk_12_228 : px_lk 12 228 = some (7, 7, 0) := rfl
theorem jlk_12_229 : px_lk 12 229 = some (7, 8, 0) := rfl
theorem jlk_12_230 : px_lk 12 230 = some (2, 209, 0) := rfl
theorem jlk_12_233 : px_lk 12 233 = some (2, 194, 3) := rfl
theorem jlk_12_237 : px_lk 12 237 = some (2, 195, 1) := rfl
theorem jlk_12_241 : px_lk 12 241 = some (2, 197, 0) := rfl
theorem jlk_12_244 : px_lk 12 244 = some (2, 199, 0) := rfl
theorem jlk_12_247 : px_lk 12 247 = some (2, 201, 1) := rfl
theorem jlk_12_250 : px_lk 12 250 = some (2, 204, 1) := rfl
theorem jlk_12_253 : px_lk 12 253 = some (2, 205, 0) := rfl
theorem jlk_12_256 : px_lk 12 256 = some (2, 206, 1) := rfl
theorem jlk_12_259 : px_lk 12 259 = some (2, 211, 1) := rfl
theorem jlk_12_262 : px_lk 12 262 = some (2, 212, 1) := rfl
theorem jlk_12_266 : px_lk 12 266 = some (0, 12, 33) := rfl
theorem jlk_12_269 : px_lk 12 269 = some (2, 215, 0) := rfl
theorem jlk_12_272 : px_lk 12 272 = some (2, 218, 2) := rfl
theorem jlk_12_275 : px_lk 12 275 = some (2, 216, 0) := rfl
theorem jlk_12_278 : px_lk 12 278 = some (2, 217, 1) := rfl
theorem jlk_12_281 : px_lk 12 281 = some (2, 214, 0) := rfl
theorem jlk_12_284 : px_lk 12 284 = some (7, 11, 0) := rfl
theorem jlk_12_285 : px_lk 12 285 = some (2, 221, 1) := rfl
theorem jlk_12_289 : px_lk 12 289 = some (7, 12, 0) := rfl
theorem jlk_12_290 : px_lk 12 290 = some (7, 13, 0) := rfl
theorem jlk_12_292 : px_lk 12 292 = some (7, 14, 0) := rfl
theorem jlk_12_294 : px_lk 12 294 = some (7, 15, 0) := rfl
theorem jlk_12_296 : px_lk 12 296 = some (7, 16, 0) := rfl
theorem jlk_12_298 : px_lk 12 298 = some (7, 17, 0) := rfl
theorem jlk_12_300 : px_lk 12 300 = some (7, 18, 0) := rfl
theorem jlk_12_302 : px_lk 12 302 = some (7, 19, 0) := rfl
theorem jlk_12_304 : px_lk 12 304 = some (7, 9, 0) := rfl
theorem jlk_12_306 : px_lk 12 306 = some (2, 219, 2) := rfl
theorem jlk_12_309 : px_lk 12 309 = some (7, 10, 0) := rfl
theorem jlk_12_311 : px_lk 12 311 = some (2, 220, 0) := rfl
theorem jlk_12_314 : px_lk 12 314 = some (2, 241, 3) := rfl
theorem jlk_12_318 : px_lk 12 318 = some (2, 240, 0) := rfl
theorem jlk_12_321 : px_lk 12 321 = some (0, 12, 38) := rfl
theorem jlk_12_324 : px_lk 12 324 = some (2, 224, 3) := rfl
theorem jlk_12_328 : px_lk 12 328 = some (7, 20, 0) := rfl
theorem jlk_12_330 : px_lk 12 330 = some (7, 21, 0) := rfl
theorem jlk_12_332 : px_lk 12 332 = some (7, 22, 0) := rfl
theorem jlk_12_334 : px_lk 12 334 = some (2, 225, 3) := rfl
theorem jlk_12_337 : px_lk 12 337 = some (7, 23, 0) := rfl
theorem jlk_12_339 : px_lk 12 339 = some (7, 24, 0) := rfl
theorem jlk_12_341 : px_lk 12 341 = some (2, 223, 0) := rfl
theorem jlk_12_344 : px_lk 12 344 = some (2, 226, 0) := rfl
theorem jlk_12_347 : px_lk 12 347 = some (0, 12, 41) := rfl
theorem jlk_12_350 : px_lk 12 350 = some (0, 12, 42) := rfl
theorem jlk_12_353 : px_lk 12 353 = some (0, 12, 43) := rfl
theorem jlk_12_356 : px_lk 12 356 = some (2, 227, 2) := rfl
theorem jlk_12_359 : px_lk 12 359 = some (2, 228, 3) := rfl
theorem jlk_12_363 : px_lk 12 363 = some (2, 239, 0) := rfl
theorem jlk_12_366 : px_lk 12 366 = some (0, 12, 47) := rfl
theorem jlk_12_369 : px_lk 12 369 = some (0, 12, 48) := rfl
theorem jlk_12_372 : px_lk 12 372 = some (0, 12, 49) := rfl
theorem jlk_12_375 : px_lk 12 375 = some (2, 238, 9) := rfl
theorem jlk_12_379 : px_lk 12 379 = some (2, 237, 4) := rfl
theorem jlk_12_383 : px_lk 12 383 = some (2, 242, 1) := rfl
theorem jlk_12_385 : px_lk 12 385 = some (2, 230, 1) := rfl
theorem jlk_12_388 : px_lk 12 388 = some (2, 231, 2) := rfl
theorem jlk_12_392 : px_lk 12 392 = some (2, 233, 2) := rfl
theorem jlk_12_395 : px_lk 12 395 = some (2, 235, 2) := rfl
theorem jlk_12_398 : px_lk 12 398 = some (2, 236, 4) := rfl
theorem jlk_12_402 : px_lk 12 402 = some (2, 229, 2) := rfl
theorem jlk_12_405 : px_lk 12 405 = some (2, 232, 2) := rfl
theorem jlk_12_408 : px_lk 12 408 = some (2, 234, 2) := rfl
theorem jlk_12_411 : px_lk 12 411 = some (2, 243, 0) := rfl
theorem jlk_12_414 : px_lk 12 414 = some (2, 247, 3) := rfl
theorem jlk_12_417 : px_lk 12 417 = some (2, 248, 0) := rfl
theorem jlk_12_420 : px_lk 12 420 = some (2, 249, 0) := rfl
theorem jlk_12_423 : px_lk 12 423 = some (2, 250, 0) := rfl
theorem jlk_12_426 : px_lk 12 426 = some (2, 252, 2) := rfl
theorem jlk_12_429 : px_lk 12 429 = some (2, 254, 2) := rfl
theorem jlk_12_432 : px_lk 12 432 = some (2, 256, 2) := rfl
theorem jlk_12_435 : px_lk 12 435 = some (2, 258, 2) := rfl
theorem jlk_12_438 : px_lk 12 438 = some (6, 100000, 0) := rfl
theorem jlk_12_439 : px_lk 12 439 = some (2, 266, 3) := rfl
theorem jlk_12_442 : px_lk 12 442 = some (2, 265, 2) := rfl
theorem jlk_12_445 : px_lk 12 445 = some (2, 264, 3) := rfl
theorem jlk_12_448 : px_lk 12 448 = some (2, 268, 2) := rfl
theorem jlk_12_451 : px_lk 12 451 = some (2, 271, 1) := rfl
theorem jlk_12_454 : px_lk 12 454 = some (2, 272, 2) := rfl
theorem jlk_12_457 : px_lk 12 457 = some (2, 270, 2) := rfl
theorem jlk_12_460 : px_lk 12 460 = some (2, 274, 2) := rfl
theorem jlk_12_463 : px_lk 12 463 = some (2, 276, 1) := rfl
theorem jlk_12_466 : px_lk 12 466 = some (2, 279, 1) := rfl
theorem jlk_12_469 : px_lk 12 469 = some (2, 282, 3) := rfl
theorem jlk_12_472 : px_lk 12 472 = some (2, 281, 1) := rfl
theorem jlk_12_475 : px_lk 12 475 = some (2, 285, 0) := rfl
theorem jlk_12_478 : px_lk 12 478 = some (13, 16, 0) := rfl
theorem jlk_12_480 : px_lk 12 480 = some (2, 288, 3) := rfl
theorem jlk_12_483 : px_lk 12 483 = some (2, 290, 5) := rfl
theorem jlk_12_487 : px_lk 12 487 = some (0, 12, 61) := rfl
theorem jlk_12_490 : px_lk 12 490 = some (6, 1103515245, 0) := rfl
theorem jlk_12_491 : px_lk 12 491 = some (0, 12, 62) := rfl
theorem jlk_12_494 : px_lk 12 494 = some (0, 12, 63) := rfl
theorem jlk_12_497 : px_lk 12 497 = some (0, 12, 64) := rfl
theorem jlk_12_500 : px_lk 12 500 = some (2, 296, 1) := rfl
theorem jlk_12_503 : px_lk 12 503 = some (2, 294, 2) := rfl
theorem jlk_12_506 : px_lk 12 506 = some (2, 295, 3) := rfl
theorem jlk_12_509 : px_lk 12 509 = some (2, 300, 4) := rfl
theorem jlk_12_513 : px_lk 12 513 = some (2, 299, 2) := rfl
theorem jlk_13_7 : px_lk 13 7 = some (2, 150, 1) := rfl
theorem jlk_13_15 : px_lk 13 15 = some (2, 155, 1) := rfl
theorem jlk_13_18 : px_lk 13 18 = some (2, 156, 1) := rfl
theorem jlk_13_21 : px_lk 13 21 = some (2, 157, 1) := rfl
theorem jlk_13_24 : px_lk 13 24 = some (2, 158, 1) := rfl
theorem jlk_13_27 : px_lk 13 27 = some (2, 159, 2) := rfl
theorem jlk_13_33 : px_lk 13 33 = some (2, 161, 2) := rfl
theorem jlk_13_36 : px_lk 13 36 = some (2, 162, 2) := rfl
theorem jlk_13_39 : px_lk 13 39 = some (2, 163, 2) := rfl
theorem jlk_13_42 : px_lk 13 42 = some (2, 164, 2) := rfl
theorem jlk_13_45 : px_lk 13 45 = some (2, 166, 3) := rfl
theorem jlk_13_49 : px_lk 13 49 = some (2, 167, 9) := rfl
theorem jlk_13_53 : px_lk 13 53 = some (2, 168, 3) := rfl
theorem jlk_13_57 : px_lk 13 57 = some (2, 169, 1) := rfl
theorem jlk_13_60 : px_lk 13 60 = some (2, 170, 3) := rfl
theorem jlk_13_63 : px_lk 13 63 = some (2, 171, 2) := rfl
theorem jlk_13_66 : px_lk 13 66 = some (2, 172, 3) := rfl
theorem jlk_13_69 : px_lk 13 69 = some (2, 173, 1) := rfl
theorem jlk_13_72 : px_lk 13 72 = some (2, 174, 1) := rfl
theorem jlk_13_75 : px_lk 13 75 = some (2, 175, 2) := rfl
theorem jlk_13_78 : px_lk 13 78 = some (2, 176, 2) := rfl
theorem jlk_13_81 : px_lk 13 81 = some (2, 177, 1) := rfl
theorem jlk_13_84 : px_lk 13 84 = some (2, 178, 4) := rfl
theorem jlk_13_88 : px_lk 13 88 = some (2, 179, 4) := rfl
theorem jlk_13_92 : px_lk 13 92 = some (2, 181, 3) := rfl
theorem jlk_13_95 : px_lk 13 95 = some (2, 182, 1) := rfl
theorem jlk_13_98 : px_lk 13 98 = some (2, 183, 4) := rfl
theorem jlk_13_101 : px_lk 13 101 = some (2, 185, 5) := rfl
theorem jlk_14_265 : px_lk 14 265 = some (6, 1431655765, 0) := rfl
theorem jlk_14_266 : px_lk 14 266 = some (6, 858993459, 0) := rfl
theorem jlk_14_267 : px_lk 14 267 = some (6, 252645135, 0) := rfl
theorem jgc_m99 : jg (-99) := ⟨by decide, by decide⟩
theorem jgc_m40 : jg (-40) := ⟨by decide, by decide⟩
theorem jgc_m20 : jg (-20) := ⟨by decide, by decide⟩
theorem jgc_m10 : jg (-10) := ⟨by decide, by decide⟩
theorem jgc_m1 : jg (-1) := ⟨by decide, by decide⟩
theorem jgc_0 : jg (0) := ⟨by decide, by decide⟩
theorem jgc_1 : jg (1) := ⟨by decide, by decide⟩
theorem jgc_2 : jg (2) := ⟨by decide, by decide⟩
theorem jgc_3 : jg (3) := ⟨by decide, by decide⟩
theorem jgc_4 : jg (4) := ⟨by decide, by decide⟩
theorem jgc_5 : jg (5) := ⟨by decide, by decide⟩
theorem jgc_6 : jg (6) := ⟨by decide, by decide⟩
theorem jgc_7 : jg (7) := ⟨by decide, by decide⟩
theorem jgc_8 : jg (8) := ⟨by decide, by decide⟩
theorem jgc_9 : jg (9) := ⟨by decide, by decide⟩
theorem jgc_10 : jg (10) := ⟨by decide, by decide⟩
theorem jgc_12 : jg (12) := ⟨by decide, by decide⟩
theorem jgc_14 : jg (14) := ⟨by decide, by decide⟩
theorem jgc_16 : jg (16) := ⟨by decide, by decide⟩
theorem jgc_18 : jg (18) := ⟨by decide, by decide⟩
theorem jgc_20 : jg (20) := ⟨by decide, by decide⟩
theorem jgc_21 : jg (21) := ⟨by decide, by decide⟩
theorem jgc_24 : jg (24) := ⟨by decide, by decide⟩
theorem jgc_26 : jg (26) := ⟨by decide, by decide⟩
theorem jgc_30 : jg (30) := ⟨by decide, by decide⟩
theorem jgc_32 : jg (32) := ⟨by decide, by decide⟩
theorem jgc_36 : jg (36) := ⟨by decide, by decide⟩
theorem jgc_38 : jg (38) := ⟨by decide, by decide⟩
theorem jgc_40 : jg (40) := ⟨by decide, by decide⟩
theorem jgc_41 : jg (41) := ⟨by decide, by decide⟩
theorem jgc_42 : jg (42) := ⟨by decide, by decide⟩
theorem jgc_43 : jg (43) := ⟨by decide, by decide⟩
theorem jgc_44 : jg (44) := ⟨by decide, by decide⟩
theorem jgc_45 : jg (45) := ⟨by decide, by decide⟩
theorem jgc_47 : jg (47) := ⟨by decide, by decide⟩
theorem jgc_48 : jg (48) := ⟨by decide, by decide⟩
theorem jgc_50 : jg (50) := ⟨by decide, by decide⟩
theorem jgc_52 : jg (52) := ⟨by decide, by decide⟩
theorem jgc_54 : jg (54) := ⟨by decide, by decide⟩
theorem jgc_55 : jg (55) := ⟨by decide, by decide⟩
theorem jgc_57 : jg (57) := ⟨by decide, by decide⟩
theorem jgc_58 : jg (58) := ⟨by decide, by decide⟩
theorem jgc_59 : jg (59) := ⟨by decide, by decide⟩
theorem jgc_60 : jg (60) := ⟨by decide, by decide⟩
theorem jgc_63 : jg (63) := ⟨by decide, by decide⟩
theorem jgc_64 : jg (64) := ⟨by decide, by decide⟩
theorem jgc_66 : jg (66) := ⟨by decide, by decide⟩
theorem jgc_67 : jg (67) := ⟨by decide, by decide⟩
theorem jgc_68 : jg (68) := ⟨by decide, by decide⟩
theorem jgc_91 : jg (91) := ⟨by decide, by decide⟩
theorem jgc_93 : jg (93) := ⟨by decide, by decide⟩
theorem jgc_96 : jg (96) := ⟨by decide, by decide⟩
theorem jgc_97 : jg (97) := ⟨by decide, by decide⟩
theorem jgc_99 : jg (99) := ⟨by decide, by decide⟩
theorem jgc_100 : jg (100) := ⟨by decide, by decide⟩
theorem jgc_122 : jg (122) := ⟨by decide, by decide⟩
theorem jgc_150 : jg (150) := ⟨by decide, by decide⟩
theorem jgc_200 : jg (200) := ⟨by decide, by decide⟩
theorem jgc_255 : jg (255) := ⟨by decide, by decide⟩
theorem jgc_600 : jg (600) := ⟨by decide, by decide⟩
theorem jgc_700 : jg (700) := ⟨by decide, by decide⟩
theorem jgc_832 : jg (832) := ⟨by decide, by decide⟩
theorem jgc_999 : jg (999) := ⟨by decide, by decide⟩
theorem jgc_1000 : jg (1000) := ⟨by decide, by decide⟩
theorem jgc_1088 : jg (1088) := ⟨by decide, by decide⟩
theorem jgc_1157 : jg (1157) := ⟨by decide, by decide⟩
theorem jgc_2000 : jg (2000) := ⟨by decide, by decide⟩
theorem jgc_2001 : jg (2001) := ⟨by decide, by decide⟩
theorem jgc_2002 : jg (2002) := ⟨by decide, by decide⟩
theorem jgc_2003 : jg (2003) := ⟨by decide, by decide⟩
theorem jgc_2004 : jg (2004) := ⟨by decide, by decide⟩
theorem jgc_2005 : jg (2005) := ⟨by decide, by decide⟩
theorem jgc_9999 : jg (9999) := ⟨by decide, by decide⟩
theorem jgc_10000 : jg (10000) := ⟨by decide, by decide⟩
theorem jgc_12345 : jg (12345) := ⟨by decide, by decide⟩
theorem jgc_32767 : jg (32767) := ⟨by decide, by decide⟩
theorem jgc_100000 : jg (100000) := ⟨by decide, by decide⟩
theorem jgc_1000000 : jg (1000000) := ⟨by decide, by decide⟩
theorem jgc_252645135 : jg (252645135) := ⟨by decide, by decide⟩
theorem jgc_858993459 : jg (858993459) := ⟨by decide, by decide⟩
theorem jgc_1103515245 : jg (1103515245) := ⟨by decide, by decide⟩
theorem jgc_1431655765 : jg (1431655765) := ⟨by decide, by decide⟩
theorem jglc_0 : jgl (0) := ⟨by decide, by decide⟩
theorem jglc_1 : jgl (1) := ⟨by decide, by decide⟩
theorem jglc_2 : jgl (2) := ⟨by decide, by decide⟩
theorem jglc_16 : jgl (16) := ⟨by decide, by decide⟩
theorem jd_0 : px_kd 0 = 11 := rfl
theorem jd_1 : px_kd 1 = 9 := rfl
theorem jd_2 : px_kd 2 = 20 := rfl
theorem jd_3 : px_kd 3 = 1 := rfl
theorem jd_4 : px_kd 4 = 20 := rfl
theorem jd_5 : px_kd 5 = 20 := rfl
theorem jd_6 : px_kd 6 = 20 := rfl
theorem jd_7 : px_kd 7 = 20 := rfl
theorem jd_8 : px_kd 8 = 20 := rfl
theorem jd_9 : px_kd 9 = 20 := rfl
theorem jd_10 : px_kd 10 = 20 := rfl
theorem jd_11 : px_kd 11 = 20 := rfl
theorem jd_12 : px_kd 12 = 20 := rfl
theorem jd_13 : px_kd 13 = 20 := rfl
theorem jd_14 : px_kd 14 = 20 := rfl
theorem jd_15 : px_kd 15 = 1 := rfl
theorem jd_16 : px_kd 16 = 20 := rfl
theorem jd_17 : px_kd 17 = 20 := rfl
theorem jd_18 : px_kd 18 = 20 := rfl
theorem jd_19 : px_kd 19 = 20 := rfl
theorem jd_20 : px_kd 20 = 20 := rfl
theorem jd_21 : px_kd 21 = 20 := rfl
theorem jd_22 : px_kd 22 = 20 := rfl
theorem jd_23 : px_kd 23 = 20 := rfl
theorem jd_24 : px_kd 24 = 20 := rfl
theorem jd_25 : px_kd 25 = 20 := rfl
theorem jd_26 : px_kd 26 = 20 := rfl
theorem jd_27 : px_kd 27 = 2 := rfl
theorem jd_28 : px_kd 28 = 20 := rfl
theorem jd_29 : px_kd 29 = 20 := rfl
theorem jd_30 : px_kd 30 = 2 := rfl
theorem jd_31 : px_kd 31 = 20 := rfl
theorem jd_33 : px_kd 33 = 0 := rfl
theorem jd_34 : px_kd 34 = 20 := rfl
theorem jd_35 : px_kd 35 = 21 := rfl
theorem jd_36 : px_kd 36 = 20 := rfl
theorem jd_37 : px_kd 37 = 0 := rfl
theorem jd_38 : px_kd 38 = 20 := rfl
theorem jd_41 : px_kd 41 = 7 := rfl
theorem jd_42 : px_kd 42 = 20 := rfl
theorem jd_43 : px_kd 43 = 20 := rfl
theorem jd_44 : px_kd 44 = 20 := rfl
theorem jd_45 : px_kd 45 = 20 := rfl
theorem jd_46 : px_kd 46 = 20 := rfl
theorem jd_47 : px_kd 47 = 6 := rfl
theorem jd_48 : px_kd 48 = 20 := rfl
theorem jd_49 : px_kd 49 = 20 := rfl
theorem jd_50 : px_kd 50 = 5 := rfl
theorem jd_51 : px_kd 51 = 20 := rfl
theorem jd_52 : px_kd 52 = 20 := rfl
theorem jd_53 : px_kd 53 = 20 := rfl
theorem jd_54 : px_kd 54 = 20 := rfl
theorem jd_55 : px_kd 55 = 3 := rfl
theorem jd_56 : px_kd 56 = 10 := rfl
theorem jd_57 : px_kd 57 = 20 := rfl
theorem jd_58 : px_kd 58 = 20 := rfl
theorem jd_59 : px_kd 59 = 4 := rfl
theorem jd_60 : px_kd 60 = 20 := rfl
theorem jd_61 : px_kd 61 = 20 := rfl
theorem jd_62 : px_kd 62 = 20 := rfl
theorem jd_63 : px_kd 63 = 8 := rfl
theorem jd_64 : px_kd 64 = 6 := rfl
theorem jd_65 : px_kd 65 = 20 := rfl
theorem jd_66 : px_kd 66 = 20 := rfl
theorem jd_67 : px_kd 67 = 12 := rfl
theorem jd_68 : px_kd 68 = 20 := rfl
theorem jd_69 : px_kd 69 = 20 := rfl
theorem jd_70 : px_kd 70 = 20 := rfl
theorem jd_71 : px_kd 71 = 20 := rfl
theorem jd_72 : px_kd 72 = 20 := rfl
theorem jd_73 : px_kd 73 = 20 := rfl
theorem jd_74 : px_kd 74 = 20 := rfl
theorem jd_75 : px_kd 75 = 20 := rfl
theorem jd_76 : px_kd 76 = 20 := rfl
theorem jd_77 : px_kd 77 = 20 := rfl
theorem jd_78 : px_kd 78 = 20 := rfl
theorem jd_79 : px_kd 79 = 20 := rfl
theorem jd_80 : px_kd 80 = 20 := rfl
theorem jd_81 : px_kd 81 = 20 := rfl
theorem jd_82 : px_kd 82 = 20 := rfl
theorem jd_83 : px_kd 83 = 20 := rfl
theorem jd_84 : px_kd 84 = 20 := rfl
theorem jd_85 : px_kd 85 = 20 := rfl
theorem jd_86 : px_kd 86 = 20 := rfl
theorem jd_87 : px_kd 87 = 20 := rfl
theorem jd_88 : px_kd 88 = 20 := rfl
theorem jd_89 : px_kd 89 = 20 := rfl
theorem jd_90 : px_kd 90 = 20 := rfl
theorem jd_91 : px_kd 91 = 20 := rfl
theorem jd_92 : px_kd 92 = 20 := rfl
theorem jd_93 : px_kd 93 = 20 := rfl
theorem jd_94 : px_kd 94 = 20 := rfl
theorem jd_95 : px_kd 95 = 21 := rfl
theorem jd_96 : px_kd 96 = 20 := rfl
theorem jd_97 : px_kd 97 = 21 := rfl
theorem jd_98 : px_kd 98 = 20 := rfl
theorem jd_99 : px_kd 99 = 20 := rfl
theorem jd_100 : px_kd 100 = 20 := rfl
theorem jd_101 : px_kd 101 = 20 := rfl
theorem jn_2 : ((px_ln 2 : Nat) : Int) = 600 := rfl
theorem jn_4 : ((px_ln 4 : Nat) : Int) = 8 := rfl
theorem jn_5 : ((px_ln 5 : Nat) : Int) = 12 := rfl
theorem jn_6 : ((px_ln 6 : Nat) : Int) = 12 := rfl
theorem jn_7 : ((px_ln 7 : Nat) : Int) = 12 := rfl
theorem jn_8 : ((px_ln 8 : Nat) : Int) = 6 := rfl
theorem jn_9 : ((px_ln 9 : Nat) : Int) = 6 := rfl
theorem jn_10 : ((px_ln 10 : Nat) : Int) = 6 := rfl
theorem jn_11 : ((px_ln 11 : Nat) : Int) = 8 := rfl
theorem jn_12 : ((px_ln 12 : Nat) : Int) = 8 := rfl
theorem jn_13 : ((px_ln 13 : Nat) : Int) = 8 := rfl
theorem jn_14 : ((px_ln 14 : Nat) : Int) = 8 := rfl
theorem jn_16 : ((px_ln 16 : Nat) : Int) = 8 := rfl
theorem jn_17 : ((px_ln 17 : Nat) : Int) = 12 := rfl
theorem jn_18 : ((px_ln 18 : Nat) : Int) = 12 := rfl
theorem jn_19 : ((px_ln 19 : Nat) : Int) = 12 := rfl
theorem jn_20 : ((px_ln 20 : Nat) : Int) = 6 := rfl
theorem jn_21 : ((px_ln 21 : Nat) : Int) = 6 := rfl
theorem jn_22 : ((px_ln 22 : Nat) : Int) = 6 := rfl
theorem jn_23 : ((px_ln 23 : Nat) : Int) = 8 := rfl
theorem jn_24 : ((px_ln 24 : Nat) : Int) = 8 := rfl
theorem jn_25 : ((px_ln 25 : Nat) : Int) = 8 := rfl
theorem jn_26 : ((px_ln 26 : Nat) : Int) = 8 := rfl
theorem jn_28 : ((px_ln 28 : Nat) : Int) = 150 := rfl
theorem jn_29 : ((px_ln 29 : Nat) : Int) = 21 := rfl
theorem jn_31 : ((px_ln 31 : Nat) : Int) = 150 := rfl
theorem jn_34 : ((px_ln 34 : Nat) : Int) = 12 := rfl
theorem jn_35 : ((px_ln 35 : Nat) : Int) = 54 := rfl
theorem jn_36 : ((px_ln 36 : Nat) : Int) = 100 := rfl
theorem jn_38 : ((px_ln 38 : Nat) : Int) = 12 := rfl
theorem jn_42 : ((px_ln 42 : Nat) : Int) = 150 := rfl
theorem jn_43 : ((px_ln 43 : Nat) : Int) = 150 := rfl
theorem jn_44 : ((px_ln 44 : Nat) : Int) = 150 := rfl
theorem jn_45 : ((px_ln 45 : Nat) : Int) = 150 := rfl
theorem jn_46 : ((px_ln 46 : Nat) : Int) = 6 := rfl
theorem jn_48 : ((px_ln 48 : Nat) : Int) = 52 := rfl
theorem jn_49 : ((px_ln 49 : Nat) : Int) = 9 := rfl
theorem jn_51 : ((px_ln 51 : Nat) : Int) = 832 := rfl
theorem jn_52 : ((px_ln 52 : Nat) : Int) = 2496 := rfl
theorem jn_53 : ((px_ln 53 : Nat) : Int) = 156 := rfl
theorem jn_54 : ((px_ln 54 : Nat) : Int) = 3 := rfl
theorem jn_57 : ((px_ln 57 : Nat) : Int) = 8 := rfl
theorem jn_58 : ((px_ln 58 : Nat) : Int) = 8 := rfl
theorem jn_60 : ((px_ln 60 : Nat) : Int) = 8 := rfl
theorem jn_61 : ((px_ln 61 : Nat) : Int) = 576 := rfl
theorem jn_62 : ((px_ln 62 : Nat) : Int) = 8 := rfl
theorem jn_65 : ((px_ln 65 : Nat) : Int) = 52 := rfl
theorem jn_66 : ((px_ln 66 : Nat) : Int) = 9 := rfl
theorem jn_68 : ((px_ln 68 : Nat) : Int) = 2 := rfl
theorem jn_69 : ((px_ln 69 : Nat) : Int) = 600 := rfl
theorem jn_70 : ((px_ln 70 : Nat) : Int) = 8 := rfl
theorem jn_71 : ((px_ln 71 : Nat) : Int) = 24 := rfl
theorem jn_72 : ((px_ln 72 : Nat) : Int) = 12 := rfl
theorem jn_73 : ((px_ln 73 : Nat) : Int) = 18 := rfl
theorem jn_74 : ((px_ln 74 : Nat) : Int) = 32 := rfl
theorem jn_75 : ((px_ln 75 : Nat) : Int) = 8 := rfl
theorem jn_76 : ((px_ln 76 : Nat) : Int) = 24 := rfl
theorem jn_77 : ((px_ln 77 : Nat) : Int) = 12 := rfl
theorem jn_78 : ((px_ln 78 : Nat) : Int) = 18 := rfl
theorem jn_79 : ((px_ln 79 : Nat) : Int) = 32 := rfl
theorem jn_80 : ((px_ln 80 : Nat) : Int) = 150 := rfl
theorem jn_81 : ((px_ln 81 : Nat) : Int) = 150 := rfl
theorem jn_82 : ((px_ln 82 : Nat) : Int) = 150 := rfl
theorem jn_83 : ((px_ln 83 : Nat) : Int) = 150 := rfl
theorem jn_84 : ((px_ln 84 : Nat) : Int) = 150 := rfl
theorem jn_85 : ((px_ln 85 : Nat) : Int) = 9 := rfl
theorem jn_86 : ((px_ln 86 : Nat) : Int) = 150 := rfl
theorem jn_87 : ((px_ln 87 : Nat) : Int) = 150 := rfl
theorem jn_88 : ((px_ln 88 : Nat) : Int) = 68 := rfl
theorem jn_89 : ((px_ln 89 : Nat) : Int) = 68 := rfl
theorem jn_90 : ((px_ln 90 : Nat) : Int) = 1088 := rfl
theorem jn_91 : ((px_ln 91 : Nat) : Int) = 12 := rfl
theorem jn_92 : ((px_ln 92 : Nat) : Int) = 12 := rfl
theorem jn_93 : ((px_ln 93 : Nat) : Int) = 8 := rfl
theorem jn_94 : ((px_ln 94 : Nat) : Int) = 8 := rfl
theorem jn_95 : ((px_ln 95 : Nat) : Int) = 54 := rfl
theorem jn_96 : ((px_ln 96 : Nat) : Int) = 100 := rfl
theorem jn_97 : ((px_ln 97 : Nat) : Int) = 48 := rfl
theorem jn_98 : ((px_ln 98 : Nat) : Int) = 576 := rfl
theorem jn_99 : ((px_ln 99 : Nat) : Int) = 8 := rfl
theorem jn_100 : ((px_ln 100 : Nat) : Int) = 8 := rfl
theorem jn_101 : ((px_ln 101 : Nat) : Int) = 3471 := rfl
theorem jq_334 : jq 334 1 := ⟨rfl, jl rfl, by decide, rfl, fun h => absurd h (by decide)⟩
theorem jbd_334 : px_bud 334 = (0, 0) := rfl
theorem jo_334 : px_own 334 = 15 := rfl
theorem jq_1 : jq 1 0 := ⟨rfl, jl rfl, by decide, rfl, fun _ => jl rfl⟩
theorem jbd_1 : px_bud 1 = (0, 0) := rfl
theorem jo_1 : px_own 1 = 0 := rfl
theorem jq_116 : jq 116 0 := ⟨rfl, jl rfl, by decide, rfl, fun _ => jl rfl⟩
theorem jbd_116 : px_bud 116 = (0, 0) := rfl
theorem jo_116 : px_own 116 = 9 := rfl
theorem jq_122 : jq 122 0 := ⟨rfl, jl rfl, by decide, rfl, fun _ => jl rfl⟩
theorem jbd_122 : px_bud 122 = (0, 0) := rfl
theorem jo_122 : px_own 122 = 9 := rfl
theorem jq_120 : jq 120 0 := ⟨rfl, jl rfl, by decide, rfl, fun _ => jl rfl⟩
theorem jbd_120 : px_bud 120 = (0, 0) := rfl
theorem jo_120 : px_own 120 = 9 := rfl
theorem jq_153 : jq 153 1 := ⟨rfl, jl rfl, by decide, rfl, fun h => absurd h (by decide)⟩
theorem jbd_153 : px_bud 153 = (0, 0) := rfl
theorem jo_153 : px_own 153 = 11 := rfl
theorem jq_121 : jq 121 0 := ⟨rfl, jl rfl, by decide, rfl, fun _ => jl rfl⟩
theorem jbd_121 : px_bud 121 = (0, 0) := rfl
theorem jo_121 : px_own 121 = 9 := rfl
theorem jq_124 : jq 124 0 := ⟨rfl, jl rfl, by decide, rfl, fun _ => jl rfl⟩
theorem jbd_124 : px_bud 124 = (0, 0) := rfl
theorem jo_124 : px_own 124 = 9 := rfl
theorem jq_123 : jq 123 0 := ⟨rfl, jl rfl, by decide, rfl, fun _ => jl rfl⟩
theorem jbd_123 : px_bud 123 = (0, 0) := rfl
theorem jo_123 : px_own 123 = 9 := rfl
theorem jq_2 : jq 2 0 := ⟨rfl, jl rfl, by decide, rfl, fun _ => jl rfl⟩
theorem jbd_2 : px_bud 2 = (0, 0) := rfl
theorem jo_2 : px_own 2 = 0 := rfl
theorem jq_3 : jq 3 0 := ⟨rfl, jl rfl, by decide, rfl, fun _ => jl rfl⟩
theorem jbd_3 : px_bud 3 = (0, 0) := rfl
theorem jo_3 : px_own 3 = 0 := rfl
theorem jq_63 : jq 63 0 := ⟨rfl, jl rfl, by decide, rfl, fun _ => jl rfl⟩
theorem jbd_63 : px_bud 63 = (0, 0) := rfl
theorem jo_63 : px_own 63 = 6 := rfl
theorem jq_65 : jq 65 0 := ⟨rfl, jl rfl, by decide, rfl, fun _ => jl rfl⟩
theorem jbd_65 : px_bud 65 = (0, 0) := rfl
theorem jo_65 : px_own 65 = 6 := rfl
theorem jq_66 : jq 66 0 := ⟨rfl, jl rfl, by decide, rfl, fun _ => jl rfl⟩
theorem jbd_66 : px_bud 66 = (0, 0) := rfl
theorem jo_66 : px_own 66 = 6 := rfl
theorem jq_67 : jq 67 0 := ⟨rfl, jl rfl, by decide, rfl, fun _ => jl rfl⟩
theorem jbd_67 : px_bud 67 = (0, 0) := rfl
theorem jo_67 : px_own 67 = 6 := rfl
theorem jq_68 : jq 68 0 := ⟨rfl, jl rfl, by decide, rfl, fun _ => jl rfl⟩
theorem jbd_68 : px_bud 68 = (0, 0) := rfl
theorem jo_68 : px_own 68 = 6 := rfl
theorem jq_69 : jq 69 0 := ⟨rfl, jl rfl, by decide, rfl, fun _ => jl rfl⟩
theorem jbd_69 : px_bud 69 = (0, 0) := rfl
theorem jo_69 : px_own 69 = 6 := rfl
theorem jq_70 : jq 70 0 := ⟨rfl, jl rfl, by decide, rfl, fun _ => jl rfl⟩
theorem jbd_70 : px_bud 70 = (0, 0) := rfl
theorem jo_70 : px_own 70 = 6 := rfl
theorem jq_64 : jq 64 0 := ⟨rfl, jl rfl, by decide, rfl, fun _ => jl rfl⟩
theorem jbd_64 : px_bud 64 = (0, 0) := rfl
theorem jo_64 : px_own 64 = 6 := rfl
theorem jq_72 : jq 72 0 := ⟨rfl, jl rfl, by decide, rfl, fun _ => jl rfl⟩
theorem jbd_72 : px_bud 72 = (0, 0) := rfl
theorem jo_72 : px_own 72 = 6 := rfl
theorem jq_24 : jq 24 1 := ⟨rfl, jl rfl, by decide, rfl, fun h => absurd h (by decide)⟩
theorem jbd_24 : px_bud 24 = (0, 0) := rfl
theorem jo_24 : px_own 24 = 2 := rfl
theorem jq_23 : jq 23 0 := ⟨rfl, jl rfl, by decide, rfl, fun _ => jl rfl⟩
theorem jbd_23 : px_bud 23 = (0, 0) := rfl
theorem jo_23 : px_own 23 = 2 := rfl
theorem jq_94 : jq 94 0 := ⟨rfl, jl rfl, by decide, rfl, fun _ => jl rfl⟩
theorem jbd_94 : px_bud 94 = (0, 0) := rfl
theorem jo_94 : px_own 94 = 6 := rfl
theorem jq_5 : jq 5 1 := ⟨rfl, jl rfl, by decide, rfl, fun h => absurd h (by decide)⟩
theorem jbd_5 : px_bud 5 = (0, 0) := rfl
theorem jo_5 : px_own 5 = 0 := rfl
theorem jq_4 : jq 4 0 := ⟨rfl, jl rfl, by decide, rfl, fun _ => jl rfl⟩
theorem jbd_4 : px_bud 4 = (0, 0) := rfl
theorem jo_4 : px_own 4 = 0 := rfl
theorem jq_6 : jq 6 0 := ⟨rfl, jl rfl, by decide, rfl, fun _ => jl rfl⟩
theorem jbd_6 : px_bud 6 = (0, 0) := rfl
theorem jo_6 : px_own 6 = 0 := rfl
theorem jq_8 : jq 8 0 := ⟨rfl, jl rfl, by decide, rfl, fun _ => jl rfl⟩
theorem jbd_8 : px_bud 8 = (0, 0) := rfl
theorem jo_8 : px_own 8 = 0 := rfl
theorem jq_7 : jq 7 0 := ⟨rfl, jl rfl, by decide, rfl, fun _ => jl rfl⟩
theorem jbd_7 : px_bud 7 = (0, 0) := rfl
theorem jo_7 : px_own 7 = 0 := rfl
theorem jq_10 : jq 10 0 := ⟨rfl, jl rfl, by decide, rfl, fun _ => jl rfl⟩
theorem jbd_10 : px_bud 10 = (0, 0) := rfl
theorem jo_10 : px_own 10 = 1 := rfl
theorem jq_118 : jq 118 1 := ⟨rfl, jl rfl, by decide, rfl, fun h => absurd h (by decide)⟩
theorem jbd_118 : px_bud 118 = (0, 0) := rfl
theorem jo_118 : px_own 118 = 9 := rfl
theorem jq_119 : jq 119 0 := ⟨rfl, jl rfl, by decide, rfl, fun _ => jl rfl⟩
theorem jbd_119 : px_bud 119 = (0, 0) := rfl
theorem jo_119 : px_own 119 = 9 := rfl
theorem jq_117 : jq 117 0 := ⟨rfl, jl rfl, by decide, rfl, fun _ => jl rfl⟩
theorem jbd_117 : px_bud 117 = (0, 0) := rfl
theorem jo_117 : px_own 117 = 9 := rfl
theorem jq_12 : jq 12 0 := ⟨rfl, jl rfl, by decide, rfl, fun _ => jl rfl⟩
theorem jbd_12 : px_bud 12 = (0, 0) := rfl
theorem jo_12 : px_own 12 = 1 := rfl
theorem jq_14 : jq 14 0 := ⟨rfl, jl rfl, by decide, rfl, fun _ => jl rfl⟩
theorem jbd_14 : px_bud 14 = (0, 0) := rfl
theorem jo_14 : px_own 14 = 1 := rfl
theorem jq_16 : jq 16 0 := ⟨rfl, jl rfl, by decide, rfl, fun _ => jl rfl⟩
theorem jbd_16 : px_bud 16 = (0, 0) := rfl
theorem jo_16 : px_own 16 = 1 := rfl
theorem jq_15 : jq 15 0 := ⟨rfl, jl rfl, by decide, rfl, fun _ => jl rfl⟩
theorem jbd_15 : px_bud 15 = (0, 0) := rfl
theorem jo_15 : px_own 15 = 1 := rfl
theorem jq_17 : jq 17 0 := ⟨rfl, jl rfl, by decide, rfl, fun _ => jl rfl⟩
theorem jbd_17 : px_bud 17 = (0, 0) := rfl
theorem jo_17 : px_own 17 = 1 := rfl
theorem jq_18 : jq 18 0 := ⟨rfl, jl rfl, by decide, rfl, fun _ => jl rfl⟩
theorem jbd_18 : px_bud 18 = (0, 0) := rfl
theorem jo_18 : px_own 18 = 1 := rfl
theorem jq_13 : jq 13 0 := ⟨rfl, jl rfl, by decide, rfl, fun _ => jl rfl⟩
theorem jbd_13 : px_bud 13 = (0, 0) := rfl
theorem jo_13 : px_own 13 = 1 := rfl
theorem jq_11 : jq 11 0 := ⟨rfl, jl rfl, by decide, rfl, fun _ => jl rfl⟩
theorem jbd_11 : px_bud 11 = (0, 0) := rfl
theorem jo_11 : px_own 11 = 1 := rfl
theorem jq_19 : jq 19 0 := ⟨rfl, jl rfl, by decide, rfl, fun _ => jl rfl⟩
theorem jbd_19 : px_bud 19 = (0, 0) := rfl
theorem jo_19 : px_own 19 = 1 := rfl
theorem jq_20 : jq 20 0 := ⟨rfl, jl rfl, by decide, rfl, fun _ => jl rfl⟩
theorem jbd_20 : px_bud 20 = (0, 0) := rfl
theorem jo_20 : px_own 20 = 1 := rfl
theorem jq_21 : jq 21 0 := ⟨rfl, jl rfl, by decide, rfl, fun _ => jl rfl⟩
theorem jbd_21 : px_bud 21 = (0, 0) := rfl
theorem jo_21 : px_own 21 = 1 := rfl
theorem jq_25 : jq 25 0 := ⟨rfl, jl rfl, by decide, rfl, fun _ => jl rfl⟩
theorem jbd_25 : px_bud 25 = (0, 0) := rfl
theorem jo_25 : px_own 25 = 2 := rfl
theorem jq_30 : jq 30 0 := ⟨rfl, jl rfl, by decide, rfl, fun _ => jl rfl⟩
theorem jbd_30 : px_bud 30 = (0, 0) := rfl
theorem jo_30 : px_own 30 = 2 := rfl
theorem jq_31 : jq 31 0 := ⟨rfl, jl rfl, by decide, rfl, fun _ => jl rfl⟩
theorem jbd_31 : px_bud 31 = (0, 0) := rfl
theorem jo_31 : px_own 31 = 2 := rfl
theorem jq_32 : jq 32 0 := ⟨rfl, jl rfl, by decide, rfl, fun _ => jl rfl⟩
theorem jbd_32 : px_bud 32 = (0, 0) := rfl
theorem jo_32 : px_own 32 = 2 := rfl
theorem jq_29 : jq 29 0 := ⟨rfl, jl rfl, by decide, rfl, fun _ => jl rfl⟩
theorem jbd_29 : px_bud 29 = (0, 0) := rfl
theorem jo_29 : px_own 29 = 2 := rfl
theorem jq_28 : jq 28 0 := ⟨rfl, jl rfl, by decide, rfl, fun _ => jl rfl⟩
theorem jbd_28 : px_bud 28 = (0, 0) := rfl
theorem jo_28 : px_own 28 = 2 := rfl
theorem jq_27 : jq 27 0 := ⟨rfl, jl rfl, by decide, rfl, fun _ => jl rfl⟩
theorem jbd_27 : px_bud 27 = (0, 0) := rfl
theorem jo_27 : px_own 27 = 2 := rfl
theorem jq_26 : jq 26 0 := ⟨rfl, jl rfl, by decide, rfl, fun _ => jl rfl⟩
theorem jbd_26 : px_bud 26 = (0, 0) := rfl
theorem jo_26 : px_own 26 = 2 := rfl
theorem jq_33 : jq 33 0 := ⟨rfl, jl rfl, by decide, rfl, fun _ => jl rfl⟩
theorem jbd_33 : px_bud 33 = (0, 0) := rfl
theorem jo_33 : px_own 33 = 2 := rfl
theorem jq_36 : jq 36 0 := ⟨rfl, jl rfl, by decide, rfl, fun _ => jl rfl⟩
theorem jbd_36 : px_bud 36 = (0, 0) := rfl
theorem jo_36 : px_own 36 = 3 := rfl
theorem jq_38 : jq 38 0 := ⟨rfl, jl rfl, by decide, rfl, fun _ => jl rfl⟩
theorem jbd_38 : px_bud 38 = (0, 0) := rfl
theorem jo_38 : px_own 38 = 3 := rfl
theorem jq_37 : jq 37 0 := ⟨rfl, jl rfl, by decide, rfl, fun _ => jl rfl⟩
theorem jbd_37 : px_bud 37 = (0, 0) := rfl
theorem jo_37 : px_own 37 = 3 := rfl
theorem jq_35 : jq 35 0 := ⟨rfl, jl rfl, by decide, rfl, fun _ => jl rfl⟩
theorem jbd_35 : px_bud 35 = (0, 0) := rfl
theorem jo_35 : px_own 35 = 3 := rfl
theorem jq_333 : jq 333 1 := ⟨rfl, jl rfl, by decide, rfl, fun h => absurd h (by decide)⟩
theorem jbd_333 : px_bud 333 = (0, 0) := rfl
theorem jo_333 : px_own 333 = 14 := rfl
theorem jq_39 : jq 39 0 := ⟨rfl, jl rfl, by decide, rfl, fun _ => jl rfl⟩
theorem jbd_39 : px_bud 39 = (0, 0) := rfl
theorem jo_39 : px_own 39 = 3 := rfl
theorem jq_40 : jq 40 0 := ⟨rfl, jl rfl, by decide, rfl, fun _ => jl rfl⟩
theorem jbd_40 : px_bud 40 = (0, 0) := rfl
theorem jo_40 : px_own 40 = 3 := rfl
theorem jq_41 : jq 41 0 := ⟨rfl, jl rfl, by decide, rfl, fun _ => jl rfl⟩
theorem jbd_41 : px_bud 41 = (0, 0) := rfl
theorem jo_41 : px_own 41 = 3 := rfl
theorem jq_57 : jq 57 0 := ⟨rfl, jl rfl, by decide, rfl, fun _ => jl rfl⟩
theorem jbd_57 : px_bud 57 = (0, 0) := rfl
theorem jo_57 : px_own 57 = 6 := rfl
theorem jq_59 : jq 59 0 := ⟨rfl, jl rfl, by decide, rfl, fun _ => jl rfl⟩
theorem jbd_59 : px_bud 59 = (0, 0) := rfl
theorem jo_59 : px_own 59 = 6 := rfl
theorem jq_58 : jq 58 0 := ⟨rfl, jl rfl, by decide, rfl, fun _ => jl rfl⟩
theorem jbd_58 : px_bud 58 = (0, 0) := rfl
theorem jo_58 : px_own 58 = 6 := rfl
theorem jq_61 : jq 61 0 := ⟨rfl, jl rfl, by decide, rfl, fun _ => jl rfl⟩
theorem jbd_61 : px_bud 61 = (0, 0) := rfl
theorem jo_61 : px_own 61 = 6 := rfl
theorem jq_60 : jq 60 0 := ⟨rfl, jl rfl, by decide, rfl, fun _ => jl rfl⟩
theorem jbd_60 : px_bud 60 = (0, 0) := rfl
theorem jo_60 : px_own 60 = 6 := rfl
theorem jq_71 : jq 71 0 := ⟨rfl, jl rfl, by decide, rfl, fun _ => jl rfl⟩
theorem jbd_71 : px_bud 71 = (0, 0) := rfl
theorem jo_71 : px_own 71 = 6 := rfl
theorem jq_62 : jq 62 0 := ⟨rfl, jl rfl, by decide, rfl, fun _ => jl rfl⟩
theorem jbd_62 : px_bud 62 = (0, 0) := rfl
theorem jo_62 : px_own 62 = 6 := rfl
theorem jq_73 : jq 73 0 := ⟨rfl, jl rfl, by decide, rfl, fun _ => jl rfl⟩
theorem jbd_73 : px_bud 73 = (0, 0) := rfl
theorem jo_73 : px_own 73 = 6 := rfl
theorem jq_127 : jq 127 0 := ⟨rfl, jl rfl, by decide, rfl, fun _ => jl rfl⟩
theorem jbd_127 : px_bud 127 = (0, 0) := rfl
theorem jo_127 : px_own 127 = 10 := rfl
theorem jq_129 : jq 129 0 := ⟨rfl, jl rfl, by decide, rfl, fun _ => jl rfl⟩
theorem jbd_129 : px_bud 129 = (0, 0) := rfl
theorem jo_129 : px_own 129 = 10 := rfl
theorem jq_128 : jq 128 0 := ⟨rfl, jl rfl, by decide, rfl, fun _ => jl rfl⟩
theorem jbd_128 : px_bud 128 = (0, 0) := rfl
theorem jo_128 : px_own 128 = 10 := rfl
theorem jq_126 : jq 126 0 := ⟨rfl, jl rfl, by decide, rfl, fun _ => jl rfl⟩
theorem jbd_126 : px_bud 126 = (0, 0) := rfl
theorem jo_126 : px_own 126 = 10 := rfl
theorem jq_45 : jq 45 0 := ⟨rfl, jl rfl, by decide, rfl, fun _ => jl rfl⟩
theorem jbd_45 : px_bud 45 = (0, 0) := rfl
theorem jo_45 : px_own 45 = 4 := rfl
theorem jq_46 : jq 46 0 := ⟨rfl, jl rfl, by decide, rfl, fun _ => jl rfl⟩
theorem jbd_46 : px_bud 46 = (0, 0) := rfl
theorem jo_46 : px_own 46 = 4 := rfl
theorem jq_44 : jq 44 0 := ⟨rfl, jl rfl, by decide, rfl, fun _ => jl rfl⟩
theorem jbd_44 : px_bud 44 = (0, 0) := rfl
theorem jo_44 : px_own 44 = 4 := rfl
theorem jq_48 : jq 48 0 := ⟨rfl, jl rfl, by decide, rfl, fun _ => jl rfl⟩
theorem jbd_48 : px_bud 48 = (0, 0) := rfl
theorem jo_48 : px_own 48 = 4 := rfl
theorem jq_47 : jq 47 0 := ⟨rfl, jl rfl, by decide, rfl, fun _ => jl rfl⟩
theorem jbd_47 : px_bud 47 = (0, 0) := rfl
theorem jo_47 : px_own 47 = 4 := rfl
theorem jq_43 : jq 43 0 := ⟨rfl, jl rfl, by decide, rfl, fun _ => jl rfl⟩
theorem jbd_43 : px_bud 43 = (0, 0) := rfl
theorem jo_43 : px_own 43 = 4 := rfl
theorem jq_50 : jq 50 0 := ⟨rfl, jl rfl, by decide, rfl, fun _ => jl rfl⟩
theorem jbd_50 : px_bud 50 = (0, 0) := rfl
theorem jo_50 : px_own 50 = 5 := rfl
theorem jq_51 : jq 51 0 := ⟨rfl, jl rfl, by decide, rfl, fun _ => jl rfl⟩
theorem jbd_51 : px_bud 51 = (0, 0) := rfl
theorem jo_51 : px_own 51 = 5 := rfl
theorem jq_52 : jq 52 0 := ⟨rfl, jl rfl, by decide, rfl, fun _ => jl rfl⟩
theorem jbd_52 : px_bud 52 = (0, 0) := rfl
theorem jo_52 : px_own 52 = 5 := rfl
theorem jq_53 : jq 53 0 := ⟨rfl, jl rfl, by decide, rfl, fun _ => jl rfl⟩
theorem jbd_53 : px_bud 53 = (0, 0) := rfl
theorem jo_53 : px_own 53 = 5 := rfl
theorem jq_54 : jq 54 0 := ⟨rfl, jl rfl, by decide, rfl, fun _ => jl rfl⟩
theorem jbd_54 : px_bud 54 = (0, 0) := rfl
theorem jo_54 : px_own 54 = 5 := rfl
theorem jq_55 : jq 55 0 := ⟨rfl, jl rfl, by decide, rfl, fun _ => jl rfl⟩
theorem jbd_55 : px_bud 55 = (0, 0) := rfl
theorem jo_55 : px_own 55 = 5 := rfl
theorem jq_74 : jq 74 0 := ⟨rfl, jl rfl, by decide, rfl, fun _ => jl rfl⟩
theorem jbd_74 : px_bud 74 = (0, 0) := rfl
theorem jo_74 : px_own 74 = 6 := rfl
theorem jq_75 : jq 75 0 := ⟨rfl, jl rfl, by decide, rfl, fun _ => jl rfl⟩
theorem jbd_75 : px_bud 75 = (0, 0) := rfl
theorem jo_75 : px_own 75 = 6 := rfl
theorem jq_76 : jq 76 0 := ⟨rfl, jl rfl, by decide, rfl, fun _ => jl rfl⟩
theorem jbd_76 : px_bud 76 = (0, 0) := rfl
theorem jo_76 : px_own 76 = 6 := rfl
theorem jq_78 : jq 78 0 := ⟨rfl, jl rfl, by decide, rfl, fun _ => jl rfl⟩
theorem jbd_78 : px_bud 78 = (0, 0) := rfl
theorem jo_78 : px_own 78 = 6 := rfl
theorem jq_79 : jq 79 0 := ⟨rfl, jl rfl, by decide, rfl, fun _ => jl rfl⟩
theorem jbd_79 : px_bud 79 = (0, 0) := rfl
theorem jo_79 : px_own 79 = 6 := rfl
theorem jq_77 : jq 77 0 := ⟨rfl, jl rfl, by decide, rfl, fun _ => jl rfl⟩
theorem jbd_77 : px_bud 77 = (0, 0) := rfl
theorem jo_77 : px_own 77 = 6 := rfl
theorem jq_80 : jq 80 0 := ⟨rfl, jl rfl, by decide, rfl, fun _ => jl rfl⟩
theorem jbd_80 : px_bud 80 = (0, 0) := rfl
theorem jo_80 : px_own 80 = 6 := rfl
theorem jq_81 : jq 81 0 := ⟨rfl, jl rfl, by decide, rfl, fun _ => jl rfl⟩
theorem jbd_81 : px_bud 81 = (0, 0) := rfl
theorem jo_81 : px_own 81 = 6 := rfl
theorem jq_82 : jq 82 0 := ⟨rfl, jl rfl, by decide, rfl, fun _ => jl rfl⟩
theorem jbd_82 : px_bud 82 = (0, 0) := rfl
theorem jo_82 : px_own 82 = 6 := rfl
theorem jq_84 : jq 84 0 := ⟨rfl, jl rfl, by decide, rfl, fun _ => jl rfl⟩
theorem jbd_84 : px_bud 84 = (0, 0) := rfl
theorem jo_84 : px_own 84 = 6 := rfl
theorem jq_83 : jq 83 0 := ⟨rfl, jl rfl, by decide, rfl, fun _ => jl rfl⟩
theorem jbd_83 : px_bud 83 = (0, 0) := rfl
theorem jo_83 : px_own 83 = 6 := rfl
theorem jq_86 : jq 86 0 := ⟨rfl, jl rfl, by decide, rfl, fun _ => jl rfl⟩
theorem jbd_86 : px_bud 86 = (0, 0) := rfl
theorem jo_86 : px_own 86 = 6 := rfl
theorem jq_85 : jq 85 0 := ⟨rfl, jl rfl, by decide, rfl, fun _ => jl rfl⟩
theorem jbd_85 : px_bud 85 = (0, 0) := rfl
theorem jo_85 : px_own 85 = 6 := rfl
theorem jq_88 : jq 88 0 := ⟨rfl, jl rfl, by decide, rfl, fun _ => jl rfl⟩
theorem jbd_88 : px_bud 88 = (0, 0) := rfl
theorem jo_88 : px_own 88 = 6 := rfl
theorem jq_87 : jq 87 0 := ⟨rfl, jl rfl, by decide, rfl, fun _ => jl rfl⟩
theorem jbd_87 : px_bud 87 = (0, 0) := rfl
theorem jo_87 : px_own 87 = 6 := rfl
theorem jq_89 : jq 89 0 := ⟨rfl, jl rfl, by decide, rfl, fun _ => jl rfl⟩
theorem jbd_89 : px_bud 89 = (0, 0) := rfl
theorem jo_89 : px_own 89 = 6 := rfl
theorem jq_90 : jq 90 0 := ⟨rfl, jl rfl, by decide, rfl, fun _ => jl rfl⟩
theorem jbd_90 : px_bud 90 = (0, 0) := rfl
theorem jo_90 : px_own 90 = 6 := rfl
theorem jq_91 : jq 91 0 := ⟨rfl, jl rfl, by decide, rfl, fun _ => jl rfl⟩
theorem jbd_91 : px_bud 91 = (0, 0) := rfl
theorem jo_91 : px_own 91 = 6 := rfl
theorem jq_92 : jq 92 0 := ⟨rfl, jl rfl, by decide, rfl, fun _ => jl rfl⟩
theorem jbd_92 : px_bud 92 = (0, 0) := rfl
theorem jo_92 : px_own 92 = 6 := rfl
theorem jq_93 : jq 93 0 := ⟨rfl, jl rfl, by decide, rfl, fun _ => jl rfl⟩
theorem jbd_93 : px_bud 93 = (0, 0) := rfl
theorem jo_93 : px_own 93 = 6 := rfl
theorem jq_95 : jq 95 0 := ⟨rfl, jl rfl, by decide, rfl, fun _ => jl rfl⟩
theorem jbd_95 : px_bud 95 = (0, 0) := rfl
theorem jo_95 : px_own 95 = 6 := rfl
theorem jq_96 : jq 96 0 := ⟨rfl, jl rfl, by decide, rfl, fun _ => jl rfl⟩
theorem jbd_96 : px_bud 96 = (0, 0) := rfl
theorem jo_96 : px_own 96 = 6 := rfl
theorem jq_97 : jq 97 0 := ⟨rfl, jl rfl, by decide, rfl, fun _ => jl rfl⟩
theorem jbd_97 : px_bud 97 = (0, 0) := rfl
theorem jo_97 : px_own 97 = 6 := rfl
theorem jq_101 : jq 101 0 := ⟨rfl, jl rfl, by decide, rfl, fun _ => jl rfl⟩
theorem jbd_101 : px_bud 101 = (0, 0) := rfl
theorem jo_101 : px_own 101 = 7 := rfl
theorem jq_100 : jq 100 0 := ⟨rfl, jl rfl, by decide, rfl, fun _ => jl rfl⟩
theorem jbd_100 : px_bud 100 = (0, 0) := rfl
theorem jo_100 : px_own 100 = 7 := rfl
theorem jq_103 : jq 103 0 := ⟨rfl, jl rfl, by decide, rfl, fun _ => jl rfl⟩
theorem jbd_103 : px_bud 103 = (0, 0) := rfl
theorem jo_103 : px_own 103 = 7 := rfl
theorem jq_104 : jq 104 0 := ⟨rfl, jl rfl, by decide, rfl, fun _ => jl rfl⟩
theorem jbd_104 : px_bud 104 = (0, 0) := rfl
theorem jo_104 : px_own 104 = 7 := rfl
theorem jq_102 : jq 102 0 := ⟨rfl, jl rfl, by decide, rfl, fun _ => jl rfl⟩
theorem jbd_102 : px_bud 102 = (0, 0) := rfl
theorem jo_102 : px_own 102 = 7 := rfl
theorem jq_99 : jq 99 0 := ⟨rfl, jl rfl, by decide, rfl, fun _ => jl rfl⟩
theorem jbd_99 : px_bud 99 = (0, 0) := rfl
theorem jo_99 : px_own 99 = 7 := rfl
theorem jq_106 : jq 106 0 := ⟨rfl, jl rfl, by decide, rfl, fun _ => jl rfl⟩
theorem jbd_106 : px_bud 106 = (0, 0) := rfl
theorem jo_106 : px_own 106 = 7 := rfl
theorem jq_107 : jq 107 0 := ⟨rfl, jl rfl, by decide, rfl, fun _ => jl rfl⟩
theorem jbd_107 : px_bud 107 = (0, 0) := rfl
theorem jo_107 : px_own 107 = 7 := rfl
theorem jq_105 : jq 105 0 := ⟨rfl, jl rfl, by decide, rfl, fun _ => jl rfl⟩
theorem jbd_105 : px_bud 105 = (0, 0) := rfl
theorem jo_105 : px_own 105 = 7 := rfl
theorem jq_110 : jq 110 0 := ⟨rfl, jl rfl, by decide, rfl, fun _ => jl rfl⟩
theorem jbd_110 : px_bud 110 = (0, 0) := rfl
theorem jo_110 : px_own 110 = 8 := rfl
theorem jq_111 : jq 111 0 := ⟨rfl, jl rfl, by decide, rfl, fun _ => jl rfl⟩
theorem jbd_111 : px_bud 111 = (0, 0) := rfl
theorem jo_111 : px_own 111 = 8 := rfl
theorem jq_109 : jq 109 0 := ⟨rfl, jl rfl, by decide, rfl, fun _ => jl rfl⟩
theorem jbd_109 : px_bud 109 = (0, 0) := rfl
theorem jo_109 : px_own 109 = 8 := rfl
theorem jq_112 : jq 112 0 := ⟨rfl, jl rfl, by decide, rfl, fun _ => jl rfl⟩
theorem jbd_112 : px_bud 112 = (0, 0) := rfl
theorem jo_112 : px_own 112 = 8 := rfl
theorem jq_114 : jq 114 0 := ⟨rfl, jl rfl, by decide, rfl, fun _ => jl rfl⟩
theorem jbd_114 : px_bud 114 = (0, 0) := rfl
theorem jo_114 : px_own 114 = 9 := rfl
theorem jq_115 : jq 115 0 := ⟨rfl, jl rfl, by decide, rfl, fun _ => jl rfl⟩
theorem jbd_115 : px_bud 115 = (0, 0) := rfl
theorem jo_115 : px_own 115 = 9 := rfl
theorem jq_131 : jq 131 0 := ⟨rfl, jl rfl, by decide, rfl, fun _ => jl rfl⟩
theorem jbd_131 : px_bud 131 = (0, 0) := rfl
theorem jo_131 : px_own 131 = 10 := rfl
theorem jq_130 : jq 130 0 := ⟨rfl, jl rfl, by decide, rfl, fun _ => jl rfl⟩
theorem jbd_130 : px_bud 130 = (0, 0) := rfl
theorem jo_130 : px_own 130 = 10 := rfl
theorem jq_132 : jq 132 0 := ⟨rfl, jl rfl, by decide, rfl, fun _ => jl rfl⟩
theorem jbd_132 : px_bud 132 = (0, 0) := rfl
theorem jo_132 : px_own 132 = 10 := rfl
theorem jq_134 : jq 134 0 := ⟨rfl, jl rfl, by decide, rfl, fun _ => jl rfl⟩
theorem jbd_134 : px_bud 134 = (0, 0) := rfl
theorem jo_134 : px_own 134 = 10 := rfl
theorem jq_133 : jq 133 0 := ⟨rfl, jl rfl, by decide, rfl, fun _ => jl rfl⟩
theorem jbd_133 : px_bud 133 = (0, 0) := rfl
theorem jo_133 : px_own 133 = 10 := rfl
theorem jq_135 : jq 135 0 := ⟨rfl, jl rfl, by decide, rfl, fun _ => jl rfl⟩
theorem jbd_135 : px_bud 135 = (0, 0) := rfl
theorem jo_135 : px_own 135 = 10 := rfl
theorem jq_137 : jq 137 0 := ⟨rfl, jl rfl, by decide, rfl, fun _ => jl rfl⟩
theorem jbd_137 : px_bud 137 = (0, 0) := rfl
theorem jo_137 : px_own 137 = 10 := rfl
theorem jq_136 : jq 136 0 := ⟨rfl, jl rfl, by decide, rfl, fun _ => jl rfl⟩
theorem jbd_136 : px_bud 136 = (0, 0) := rfl
theorem jo_136 : px_own 136 = 10 := rfl
theorem jq_139 : jq 139 0 := ⟨rfl, jl rfl, by decide, rfl, fun _ => jl rfl⟩
theorem jbd_139 : px_bud 139 = (0, 0) := rfl
theorem jo_139 : px_own 139 = 10 := rfl
theorem jq_138 : jq 138 0 := ⟨rfl, jl rfl, by decide, rfl, fun _ => jl rfl⟩
theorem jbd_138 : px_bud 138 = (0, 0) := rfl
theorem jo_138 : px_own 138 = 10 := rfl
theorem jq_141 : jq 141 0 := ⟨rfl, jl rfl, by decide, rfl, fun _ => jl rfl⟩
theorem jbd_141 : px_bud 141 = (0, 0) := rfl
theorem jo_141 : px_own 141 = 11 := rfl
theorem jq_142 : jq 142 0 := ⟨rfl, jl rfl, by decide, rfl, fun _ => jl rfl⟩
theorem jbd_142 : px_bud 142 = (0, 0) := rfl
theorem jo_142 : px_own 142 = 11 := rfl
theorem jq_143 : jq 143 0 := ⟨rfl, jl rfl, by decide, rfl, fun _ => jl rfl⟩
theorem jbd_143 : px_bud 143 = (0, 0) := rfl
theorem jo_143 : px_own 143 = 11 := rfl
theorem jq_144 : jq 144 0 := ⟨rfl, jl rfl, by decide, rfl, fun _ => jl rfl⟩
theorem jbd_144 : px_bud 144 = (0, 0) := rfl
theorem jo_144 : px_own 144 = 11 := rfl
theorem jq_145 : jq 145 0 := ⟨rfl, jl rfl, by decide, rfl, fun _ => jl rfl⟩
theorem jbd_145 : px_bud 145 = (0, 0) := rfl
theorem jo_145 : px_own 145 = 11 := rfl
theorem jq_146 : jq 146 0 := ⟨rfl, jl rfl, by decide, rfl, fun _ => jl rfl⟩
theorem jbd_146 : px_bud 146 = (0, 0) := rfl
theorem jo_146 : px_own 146 = 11 := rfl
theorem jq_147 : jq 147 0 := ⟨rfl, jl rfl, by decide, rfl, fun _ => jl rfl⟩
theorem jbd_147 : px_bud 147 = (0, 0) := rfl
theorem jo_147 : px_own 147 = 11 := rfl
theorem jq_148 : jq 148 0 := ⟨rfl, jl rfl, by decide, rfl, fun _ => jl rfl⟩
theorem jbd_148 : px_bud 148 = (0, 0) := rfl
theorem jo_148 : px_own 148 = 11 := rfl
theorem jq_149 : jq 149 0 := ⟨rfl, jl rfl, by decide, rfl, fun _ => jl rfl⟩
theorem jbd_149 : px_bud 149 = (0, 0) := rfl
theorem jo_149 : px_own 149 = 11 := rfl
theorem jq_154 : jq 154 0 := ⟨rfl, jl rfl, by decide, rfl, fun _ => jl rfl⟩
theorem jo_154 : px_own 154 = 11 := rfl
theorem jq_152 : jq 152 0 := ⟨rfl, jl rfl, by decide, rfl, fun _ => jl rfl⟩
theorem jo_152 : px_own 152 = 11 := rfl
theorem jq_151 : jq 151 0 := ⟨rfl, jl rfl, by decide, rfl, fun _ => jl rfl⟩
theorem jo_151 : px_own 151 = 11 := rfl
theorem jq_150 : jq 150 0 := ⟨rfl, jl rfl, by decide, rfl, fun _ => jl rfl⟩
theorem jo_150 : px_own 150 = 11 := rfl
theorem jq_155 : jq 155 0 := ⟨rfl, jl rfl, by decide, rfl, fun _ => jl rfl⟩
theorem jo_155 : px_own 155 = 11 := rfl
theorem jq_156 : jq 156 0 := ⟨rfl, jl rfl, by decide, rfl, fun _ => jl rfl⟩
theorem jo_156 : px_own 156 = 11 := rfl
theorem jq_157 : jq 157 0 := ⟨rfl, jl rfl, by decide, rfl, fun _ => jl rfl⟩
theorem jo_157 : px_own 157 = 11 := rfl
theorem jq_158 : jq 158 0 := ⟨rfl, jl rfl, by decide, rfl, fun _ => jl rfl⟩
theorem jo_158 : px_own 158 = 11 := rfl
theorem jq_160 : jq 160 0 := ⟨rfl, jl rfl, by decide, rfl, fun _ => jl rfl⟩
theorem jo_160 : px_own 160 = 11 := rfl
theorem jq_159 : jq 159 0 := ⟨rfl, jl rfl, by decide, rfl, fun _ => jl rfl⟩
theorem jo_159 : px_own 159 = 11 := rfl
theorem jq_161 : jq 161 0 := ⟨rfl, jl rfl, by decide, rfl, fun _ => jl rfl⟩
theorem jo_161 : px_own 161 = 11 := rfl
theorem jq_162 : jq 162 0 := ⟨rfl, jl rfl, by decide, rfl, fun _ => jl rfl⟩
theorem jo_162 : px_own 162 = 11 := rfl
theorem jq_163 : jq 163 0 := ⟨rfl, jl rfl, by decide, rfl, fun _ => jl rfl⟩
theorem jo_163 : px_own 163 = 11 := rfl
theorem jq_165 : jq 165 0 := ⟨rfl, jl rfl, by decide, rfl, fun _ => jl rfl⟩
theorem jo_165 : px_own 165 = 11 := rfl
theorem jq_164 : jq 164 0 := ⟨rfl, jl rfl, by decide, rfl, fun _ => jl rfl⟩
theorem jo_164 : px_own 164 = 11 := rfl
theorem jq_166 : jq 166 0 := ⟨rfl, jl rfl, by decide, rfl, fun _ => jl rfl⟩
theorem jo_166 : px_own 166 = 11 := rfl
theorem jq_167 : jq 167 0 := ⟨rfl, jl rfl, by decide, rfl, fun _ => jl rfl⟩
theorem jo_167 : px_own 167 = 11 := rfl
theorem jq_168 : jq 168 0 := ⟨rfl, jl rfl, by decide, rfl, fun _ => jl rfl⟩
theorem jo_168 : px_own 168 = 11 := rfl
theorem jq_169 : jq 169 0 := ⟨rfl, jl rfl, by decide, rfl, fun _ => jl rfl⟩
theorem jo_169 : px_own 169 = 11 := rfl
theorem jq_170 : jq 170 0 := ⟨rfl, jl rfl, by decide, rfl, fun _ => jl rfl⟩
theorem jo_170 : px_own 170 = 11 := rfl
theorem jq_171 : jq 171 0 := ⟨rfl, jl rfl, by decide, rfl, fun _ => jl rfl⟩
theorem jo_171 : px_own 171 = 11 := rfl
theorem jq_172 : jq 172 0 := ⟨rfl, jl rfl, by decide, rfl, fun _ => jl rfl⟩
theorem jo_172 : px_own 172 = 11 := rfl
theorem jq_173 : jq 173 0 := ⟨rfl, jl rfl, by decide, rfl, fun _ => jl rfl⟩
theorem jo_173 : px_own 173 = 11 := rfl
theorem jq_174 : jq 174 0 := ⟨rfl, jl rfl, by decide, rfl, fun _ => jl rfl⟩
theorem jo_174 : px_own 174 = 11 := rfl
theorem jq_175 : jq 175 0 := ⟨rfl, jl rfl, by decide, rfl, fun _ => jl rfl⟩
theorem jo_175 : px_own 175 = 11 := rfl
theorem jq_176 : jq 176 0 := ⟨rfl, jl rfl, by decide, rfl, fun _ => jl rfl⟩
theorem jo_176 : px_own 176 = 11 := rfl
theorem jq_177 : jq 177 0 := ⟨rfl, jl rfl, by decide, rfl, fun _ => jl rfl⟩
theorem jo_177 : px_own 177 = 11 := rfl
theorem jq_178 : jq 178 0 := ⟨rfl, jl rfl, by decide, rfl, fun _ => jl rfl⟩
theorem jo_178 : px_own 178 = 11 := rfl
theorem jq_180 : jq 180 1 := ⟨rfl, jl rfl, by decide, rfl, fun h => absurd h (by decide)⟩
theorem jbd_180 : px_bud 180 = (0, 0) := rfl
theorem jo_180 : px_own 180 = 11 := rfl
theorem jq_179 : jq 179 0 := ⟨rfl, jl rfl, by decide, rfl, fun _ => jl rfl⟩
theorem jo_179 : px_own 179 = 11 := rfl
theorem jq_181 : jq 181 0 := ⟨rfl, jl rfl, by decide, rfl, fun _ => jl rfl⟩
theorem jo_181 : px_own 181 = 11 := rfl
theorem jq_182 : jq 182 0 := ⟨rfl, jl rfl, by decide, rfl, fun _ => jl rfl⟩
theorem jo_182 : px_own 182 = 11 := rfl
theorem jq_184 : jq 184 0 := ⟨rfl, jl rfl, by decide, rfl, fun _ => jl rfl⟩
theorem jo_184 : px_own 184 = 11 := rfl
theorem jq_183 : jq 183 0 := ⟨rfl, jl rfl, by decide, rfl, fun _ => jl rfl⟩
theorem jo_183 : px_own 183 = 11 := rfl
theorem jq_185 : jq 185 0 := ⟨rfl, jl rfl, by decide, rfl, fun _ => jl rfl⟩
theorem jo_185 : px_own 185 = 11 := rfl
theorem jq_186 : jq 186 0 := ⟨rfl, jl rfl, by decide, rfl, fun _ => jl rfl⟩
theorem jbd_186 : px_bud 186 = (0, 0) := rfl
theorem jo_186 : px_own 186 = 12 := rfl
theorem jq_188 : jq 188 0 := ⟨rfl, jl rfl, by decide, rfl, fun _ => jl rfl⟩
theorem jbd_188 : px_bud 188 = (0, 0) := rfl
theorem jo_188 : px_own 188 = 12 := rfl
theorem jq_190 : jq 190 0 := ⟨rfl, jl rfl, by decide, rfl, fun _ => jl rfl⟩
theorem jbd_190 : px_bud 190 = (0, 0) := rfl
theorem jo_190 : px_own 190 = 12 := rfl
theorem jq_189 : jq 189 0 := ⟨rfl, jl rfl, by decide, rfl, fun _ => jl rfl⟩
theorem jbd_189 : px_bud 189 = (0, 0) := rfl
theorem jo_189 : px_own 189 = 12 := rfl
theorem jq_191 : jq 191 0 := ⟨rfl, jl rfl, by decide, rfl, fun _ => jl rfl⟩
theorem jbd_191 : px_bud 191 = (0, 0) := rfl
theorem jo_191 : px_own 191 = 12 := rfl
theorem jq_192 : jq 192 0 := ⟨rfl, jl rfl, by decide, rfl, fun _ => jl rfl⟩
theorem jbd_192 : px_bud 192 = (0, 0) := rfl
theorem jo_192 : px_own 192 = 12 := rfl
theorem jq_194 : jq 194 0 := ⟨rfl, jl rfl, by decide, rfl, fun _ => jl rfl⟩
theorem jbd_194 : px_bud 194 = (0, 0) := rfl
theorem jo_194 : px_own 194 = 12 := rfl
theorem jq_195 : jq 195 0 := ⟨rfl, jl rfl, by decide, rfl, fun _ => jl rfl⟩
theorem jbd_195 : px_bud 195 = (0, 0) := rfl
theorem jo_195 : px_own 195 = 12 := rfl
theorem jq_196 : jq 196 0 := ⟨rfl, jl rfl, by decide, rfl, fun _ => jl rfl⟩
theorem jbd_196 : px_bud 196 = (0, 0) := rfl
theorem jo_196 : px_own 196 = 12 := rfl
theorem jq_198 : jq 198 0 := ⟨rfl, jl rfl, by decide, rfl, fun _ => jl rfl⟩
theorem jbd_198 : px_bud 198 = (0, 0) := rfl
theorem jo_198 : px_own 198 = 12 := rfl
theorem jq_197 : jq 197 0 := ⟨rfl, jl rfl, by decide, rfl, fun _ => jl rfl⟩
theorem jbd_197 : px_bud 197 = (0, 0) := rfl
theorem jo_197 : px_own 197 = 12 := rfl
theorem jq_200 : jq 200 1 := ⟨rfl, jl rfl, by decide, rfl, fun h => absurd h (by decide)⟩
theorem jbd_200 : px_bud 200 = (0, 0) := rfl
theorem jo_200 : px_own 200 = 12 := rfl
theorem jq_199 : jq 199 0 := ⟨rfl, jl rfl, by decide, rfl, fun _ => jl rfl⟩
theorem jbd_199 : px_bud 199 = (0, 0) := rfl
theorem jo_199 : px_own 199 = 12 := rfl
theorem jq_202 : jq 202 1 := ⟨rfl, jl rfl, by decide, rfl, fun h => absurd h (by decide)⟩
theorem jbd_202 : px_bud 202 = (0, 0) := rfl
theorem jo_202 : px_own 202 = 12 := rfl
theorem jq_201 : jq 201 1 := ⟨rfl, jl rfl, by decide, rfl, fun h => absurd h (by decide)⟩
theorem jbd_201 : px_bud 201 = (0, 0) := rfl
theorem jo_201 : px_own 201 = 12 := rfl
theorem jq_203 : jq 203 0 := ⟨rfl, jl rfl, by decide, rfl, fun _ => jl rfl⟩
theorem jbd_203 : px_bud 203 = (0, 0) := rfl
theorem jo_203 : px_own 203 = 12 := rfl
theorem jq_204 : jq 204 0 := ⟨rfl, jl rfl, by decide, rfl, fun _ => jl rfl⟩
theorem jbd_204 : px_bud 204 = (0, 0) := rfl
theorem jo_204 : px_own 204 = 12 := rfl
theorem jq_205 : jq 205 0 := ⟨rfl, jl rfl, by decide, rfl, fun _ => jl rfl⟩
theorem jbd_205 : px_bud 205 = (0, 0) := rfl
theorem jo_205 : px_own 205 = 12 := rfl
theorem jq_208 : jq 208 1 := ⟨rfl, jl rfl, by decide, rfl, fun h => absurd h (by decide)⟩
theorem jbd_208 : px_bud 208 = (0, 0) := rfl
theorem jo_208 : px_own 208 = 12 := rfl
theorem jq_207 : jq 207 0 := ⟨rfl, jl rfl, by decide, rfl, fun _ => jl rfl⟩
theorem jbd_207 : px_bud 207 = (0, 0) := rfl
theorem jo_207 : px_own 207 = 12 := rfl
theorem jq_210 : jq 210 0 := ⟨rfl, jl rfl, by decide, rfl, fun _ => jl rfl⟩
theorem jbd_210 : px_bud 210 = (0, 0) := rfl
theorem jo_210 : px_own 210 = 12 := rfl
theorem jq_209 : jq 209 0 := ⟨rfl, jl rfl, by decide, rfl, fun _ => jl rfl⟩
theorem jbd_209 : px_bud 209 = (0, 0) := rfl
theorem jo_209 : px_own 209 = 12 := rfl
theorem jq_206 : jq 206 0 := ⟨rfl, jl rfl, by decide, rfl, fun _ => jl rfl⟩
theorem jbd_206 : px_bud 206 = (0, 0) := rfl
theorem jo_206 : px_own 206 = 12 := rfl
theorem jq_211 : jq 211 0 := ⟨rfl, jl rfl, by decide, rfl, fun _ => jl rfl⟩
theorem jbd_211 : px_bud 211 = (0, 0) := rfl
theorem jo_211 : px_own 211 = 12 := rfl
theorem jq_212 : jq 212 0 := ⟨rfl, jl rfl, by decide, rfl, fun _ => jl rfl⟩
theorem jbd_212 : px_bud 212 = (0, 0) := rfl
theorem jo_212 : px_own 212 = 12 := rfl
theorem jq_193 : jq 193 0 := ⟨rfl, jl rfl, by decide, rfl, fun _ => jl rfl⟩
theorem jbd_193 : px_bud 193 = (0, 0) := rfl
theorem jo_193 : px_own 193 = 12 := rfl
theorem jq_217 : jq 217 0 := ⟨rfl, jl rfl, by decide, rfl, fun _ => jl rfl⟩
theorem jbd_217 : px_bud 217 = (0, 0) := rfl
theorem jo_217 : px_own 217 = 12 := rfl
theorem jq_218 : jq 218 0 := ⟨rfl, jl rfl, by decide, rfl, fun _ => jl rfl⟩
theorem jbd_218 : px_bud 218 = (0, 0) := rfl
theorem jo_218 : px_own 218 = 12 := rfl
theorem jq_219 : jq 219 0 := ⟨rfl, jl rfl, by decide, rfl, fun _ => jl rfl⟩
theorem jbd_219 : px_bud 219 = (0, 0) := rfl
theorem jo_219 : px_own 219 = 12 := rfl
theorem jq_221 : jq 221 0 := ⟨rfl, jl rfl, by decide, rfl, fun _ => jl rfl⟩
theorem jbd_221 : px_bud 221 = (0, 0) := rfl
theorem jo_221 : px_own 221 = 12 := rfl
theorem jq_220 : jq 220 0 := ⟨rfl, jl rfl, by decide, rfl, fun _ => jl rfl⟩
theorem jbd_220 : px_bud 220 = (0, 0) := rfl
theorem jo_220 : px_own 220 = 12 := rfl
theorem jq_216 : jq 216 0 := ⟨rfl, jl rfl, by decide, rfl, fun _ => jl rfl⟩
theorem jbd_216 : px_bud 216 = (0, 0) := rfl
theorem jo_216 : px_own 216 = 12 := rfl
theorem jq_215 : jq 215 0 := ⟨rfl, jl rfl, by decide, rfl, fun _ => jl rfl⟩
theorem jbd_215 : px_bud 215 = (0, 0) := rfl
theorem jo_215 : px_own 215 = 12 := rfl
theorem jq_214 : jq 214 0 := ⟨rfl, jl rfl, by decide, rfl, fun _ => jl rfl⟩
theorem jbd_214 : px_bud 214 = (0, 0) := rfl
theorem jo_214 : px_own 214 = 12 := rfl
theorem jq_213 : jq 213 0 := ⟨rfl, jl rfl, by decide, rfl, fun _ => jl rfl⟩
theorem jbd_213 : px_bud 213 = (0, 0) := rfl
theorem jo_213 : px_own 213 = 12 := rfl
theorem jq_224 : jq 224 0 := ⟨rfl, jl rfl, by decide, rfl, fun _ => jl rfl⟩
theorem jbd_224 : px_bud 224 = (0, 0) := rfl
theorem jo_224 : px_own 224 = 12 := rfl
theorem jq_225 : jq 225 0 := ⟨rfl, jl rfl, by decide, rfl, fun _ => jl rfl⟩
theorem jbd_225 : px_bud 225 = (0, 0) := rfl
theorem jo_225 : px_own 225 = 12 := rfl
theorem jq_223 : jq 223 0 := ⟨rfl, jl rfl, by decide, rfl, fun _ => jl rfl⟩
theorem jbd_223 : px_bud 223 = (0, 0) := rfl
theorem jo_223 : px_own 223 = 12 := rfl
theorem jq_226 : jq 226 0 := ⟨rfl, jl rfl, by decide, rfl, fun _ => jl rfl⟩
theorem jbd_226 : px_bud 226 = (0, 0) := rfl
theorem jo_226 : px_own 226 = 12 := rfl
theorem jq_230 : jq 230 0 := ⟨rfl, jl rfl, by decide, rfl, fun _ => jl rfl⟩
theorem jbd_230 : px_bud 230 = (0, 0) := rfl
theorem jo_230 : px_own 230 = 12 := rfl
theorem jq_231 : jq 231 0 := ⟨rfl, jl rfl, by decide, rfl, fun _ => jl rfl⟩
theorem jbd_231 : px_bud 231 = (0, 0) := rfl
theorem jo_231 : px_own 231 = 12 := rfl
theorem jq_229 : jq 229 0 := ⟨rfl, jl rfl, by decide, rfl, fun _ => jl rfl⟩
theorem jbd_229 : px_bud 229 = (0, 0) := rfl
theorem jo_229 : px_own 229 = 12 := rfl
theorem jq_233 : jq 233 0 := ⟨rfl, jl rfl, by decide, rfl, fun _ => jl rfl⟩
theorem jbd_233 : px_bud 233 = (0, 0) := rfl
theorem jo_233 : px_own 233 = 12 := rfl
theorem jq_232 : jq 232 0 := ⟨rfl, jl rfl, by decide, rfl, fun _ => jl rfl⟩
theorem jbd_232 : px_bud 232 = (0, 0) := rfl
theorem jo_232 : px_own 232 = 12 := rfl
theorem jq_235 : jq 235 0 := ⟨rfl, jl rfl, by decide, rfl, fun _ => jl rfl⟩
theorem jbd_235 : px_bud 235 = (0, 0) := rfl
theorem jo_235 : px_own 235 = 12 := rfl
theorem jq_241 : jq 241 1 := ⟨rfl, jl rfl, by decide, rfl, fun h => absurd h (by decide)⟩
theorem jbd_241 : px_bud 241 = (0, 0) := rfl
theorem jo_241 : px_own 241 = 12 := rfl
theorem jq_240 : jq 240 0 := ⟨rfl, jl rfl, by decide, rfl, fun _ => jl rfl⟩
theorem jbd_240 : px_bud 240 = (0, 0) := rfl
theorem jo_240 : px_own 240 = 12 := rfl
theorem jq_239 : jq 239 0 := ⟨rfl, jl rfl, by decide, rfl, fun _ => jl rfl⟩
theorem jbd_239 : px_bud 239 = (0, 0) := rfl
theorem jo_239 : px_own 239 = 12 := rfl
theorem jq_238 : jq 238 0 := ⟨rfl, jl rfl, by decide, rfl, fun _ => jl rfl⟩
theorem jbd_238 : px_bud 238 = (0, 0) := rfl
theorem jo_238 : px_own 238 = 12 := rfl
theorem jq_237 : jq 237 0 := ⟨rfl, jl rfl, by decide, rfl, fun _ => jl rfl⟩
theorem jbd_237 : px_bud 237 = (0, 0) := rfl
theorem jo_237 : px_own 237 = 12 := rfl
theorem jq_242 : jq 242 1 := ⟨rfl, jl rfl, by decide, rfl, fun h => absurd h (by decide)⟩
theorem jbd_242 : px_bud 242 = (0, 0) := rfl
theorem jo_242 : px_own 242 = 12 := rfl
theorem jq_236 : jq 236 0 := ⟨rfl, jl rfl, by decide, rfl, fun _ => jl rfl⟩
theorem jbd_236 : px_bud 236 = (0, 0) := rfl
theorem jo_236 : px_own 236 = 12 := rfl
theorem jq_234 : jq 234 0 := ⟨rfl, jl rfl, by decide, rfl, fun _ => jl rfl⟩
theorem jbd_234 : px_bud 234 = (0, 0) := rfl
theorem jo_234 : px_own 234 = 12 := rfl
theorem jq_243 : jq 243 0 := ⟨rfl, jl rfl, by decide, rfl, fun _ => jl rfl⟩
theorem jbd_243 : px_bud 243 = (0, 0) := rfl
theorem jo_243 : px_own 243 = 12 := rfl
theorem jq_228 : jq 228 0 := ⟨rfl, jl rfl, by decide, rfl, fun _ => jl rfl⟩
theorem jbd_228 : px_bud 228 = (0, 0) := rfl
theorem jo_228 : px_own 228 = 12 := rfl
theorem jq_227 : jq 227 0 := ⟨rfl, jl rfl, by decide, rfl, fun _ => jl rfl⟩
theorem jbd_227 : px_bud 227 = (0, 0) := rfl
theorem jo_227 : px_own 227 = 12 := rfl
theorem jq_222 : jq 222 0 := ⟨rfl, jl rfl, by decide, rfl, fun _ => jl rfl⟩
theorem jbd_222 : px_bud 222 = (0, 0) := rfl
theorem jo_222 : px_own 222 = 12 := rfl
theorem jq_244 : jq 244 0 := ⟨rfl, jl rfl, by decide, rfl, fun _ => jl rfl⟩
theorem jbd_244 : px_bud 244 = (0, 0) := rfl
theorem jo_244 : px_own 244 = 12 := rfl
theorem jq_245 : jq 245 0 := ⟨rfl, jl rfl, by decide, rfl, fun _ => jl rfl⟩
theorem jbd_245 : px_bud 245 = (0, 0) := rfl
theorem jo_245 : px_own 245 = 12 := rfl
theorem jq_247 : jq 247 1 := ⟨rfl, jl rfl, by decide, rfl, fun h => absurd h (by decide)⟩
theorem jbd_247 : px_bud 247 = (0, 0) := rfl
theorem jo_247 : px_own 247 = 12 := rfl
theorem jq_248 : jq 248 0 := ⟨rfl, jl rfl, by decide, rfl, fun _ => jl rfl⟩
theorem jbd_248 : px_bud 248 = (0, 0) := rfl
theorem jo_248 : px_own 248 = 12 := rfl
theorem jq_249 : jq 249 0 := ⟨rfl, jl rfl, by decide, rfl, fun _ => jl rfl⟩
theorem jbd_249 : px_bud 249 = (0, 0) := rfl
theorem jo_249 : px_own 249 = 12 := rfl
theorem jq_250 : jq 250 0 := ⟨rfl, jl rfl, by decide, rfl, fun _ => jl rfl⟩
theorem jbd_250 : px_bud 250 = (0, 0) := rfl
theorem jo_250 : px_own 250 = 12 := rfl
theorem jq_246 : jq 246 0 := ⟨rfl, jl rfl, by decide, rfl, fun _ => jl rfl⟩
theorem jbd_246 : px_bud 246 = (0, 0) := rfl
theorem jo_246 : px_own 246 = 12 := rfl
theorem jq_252 : jq 252 0 := ⟨rfl, jl rfl, by decide, rfl, fun _ => jl rfl⟩
theorem jbd_252 : px_bud 252 = (0, 0) := rfl
theorem jo_252 : px_own 252 = 12 := rfl
theorem jq_251 : jq 251 0 := ⟨rfl, jl rfl, by decide, rfl, fun _ => jl rfl⟩
theorem jbd_251 : px_bud 251 = (0, 0) := rfl
theorem jo_251 : px_own 251 = 12 := rfl
theorem jq_254 : jq 254 0 := ⟨rfl, jl rfl, by decide, rfl, fun _ => jl rfl⟩
theorem jbd_254 : px_bud 254 = (0, 0) := rfl
theorem jo_254 : px_own 254 = 12 := rfl
theorem jq_253 : jq 253 0 := ⟨rfl, jl rfl, by decide, rfl, fun _ => jl rfl⟩
theorem jbd_253 : px_bud 253 = (0, 0) := rfl
theorem jo_253 : px_own 253 = 12 := rfl
theorem jq_256 : jq 256 0 := ⟨rfl, jl rfl, by decide, rfl, fun _ => jl rfl⟩
theorem jbd_256 : px_bud 256 = (0, 0) := rfl
theorem jo_256 : px_own 256 = 12 := rfl
theorem jq_255 : jq 255 0 := ⟨rfl, jl rfl, by decide, rfl, fun _ => jl rfl⟩
theorem jbd_255 : px_bud 255 = (0, 0) := rfl
theorem jo_255 : px_own 255 = 12 := rfl
theorem jq_258 : jq 258 0 := ⟨rfl, jl rfl, by decide, rfl, fun _ => jl rfl⟩
theorem jbd_258 : px_bud 258 = (0, 0) := rfl
theorem jo_258 : px_own 258 = 12 := rfl
theorem jq_257 : jq 257 0 := ⟨rfl, jl rfl, by decide, rfl, fun _ => jl rfl⟩
theorem jbd_257 : px_bud 257 = (0, 0) := rfl
theorem jo_257 : px_own 257 = 12 := rfl
theorem jq_259 : jq 259 0 := ⟨rfl, jl rfl, by decide, rfl, fun _ => jl rfl⟩
theorem jbd_259 : px_bud 259 = (0, 0) := rfl
theorem jo_259 : px_own 259 = 12 := rfl
theorem jq_260 : jq 260 0 := ⟨rfl, jl rfl, by decide, rfl, fun _ => jl rfl⟩
theorem jbd_260 : px_bud 260 = (0, 0) := rfl
theorem jo_260 : px_own 260 = 12 := rfl
theorem jq_261 : jq 261 0 := ⟨rfl, jl rfl, by decide, rfl, fun _ => jl rfl⟩
theorem jbd_261 : px_bud 261 = (0, 0) := rfl
theorem jo_261 : px_own 261 = 12 := rfl
theorem jq_262 : jq 262 0 := ⟨rfl, jl rfl, by decide, rfl, fun _ => jl rfl⟩
theorem jbd_262 : px_bud 262 = (0, 0) := rfl
theorem jo_262 : px_own 262 = 12 := rfl
theorem jq_266 : jq 266 0 := ⟨rfl, jl rfl, by decide, rfl, fun _ => jl rfl⟩
theorem jbd_266 : px_bud 266 = (0, 0) := rfl
theorem jo_266 : px_own 266 = 12 := rfl
theorem jq_265 : jq 265 0 := ⟨rfl, jl rfl, by decide, rfl, fun _ => jl rfl⟩
theorem jbd_265 : px_bud 265 = (0, 0) := rfl
theorem jo_265 : px_own 265 = 12 := rfl
theorem jq_264 : jq 264 0 := ⟨rfl, jl rfl, by decide, rfl, fun _ => jl rfl⟩
theorem jbd_264 : px_bud 264 = (0, 0) := rfl
theorem jo_264 : px_own 264 = 12 := rfl
theorem jq_263 : jq 263 0 := ⟨rfl, jl rfl, by decide, rfl, fun _ => jl rfl⟩
theorem jbd_263 : px_bud 263 = (0, 0) := rfl
theorem jo_263 : px_own 263 = 12 := rfl
theorem jq_268 : jq 268 0 := ⟨rfl, jl rfl, by decide, rfl, fun _ => jl rfl⟩
theorem jbd_268 : px_bud 268 = (0, 0) := rfl
theorem jo_268 : px_own 268 = 12 := rfl
theorem jq_267 : jq 267 0 := ⟨rfl, jl rfl, by decide, rfl, fun _ => jl rfl⟩
theorem jbd_267 : px_bud 267 = (0, 0) := rfl
theorem jo_267 : px_own 267 = 12 := rfl
theorem jq_271 : jq 271 0 := ⟨rfl, jl rfl, by decide, rfl, fun _ => jl rfl⟩
theorem jbd_271 : px_bud 271 = (0, 0) := rfl
theorem jo_271 : px_own 271 = 12 := rfl
theorem jq_272 : jq 272 0 := ⟨rfl, jl rfl, by decide, rfl, fun _ => jl rfl⟩
theorem jbd_272 : px_bud 272 = (0, 0) := rfl
theorem jo_272 : px_own 272 = 12 := rfl
theorem jq_270 : jq 270 0 := ⟨rfl, jl rfl, by decide, rfl, fun _ => jl rfl⟩
theorem jbd_270 : px_bud 270 = (0, 0) := rfl
theorem jo_270 : px_own 270 = 12 := rfl
theorem jq_269 : jq 269 0 := ⟨rfl, jl rfl, by decide, rfl, fun _ => jl rfl⟩
theorem jbd_269 : px_bud 269 = (0, 0) := rfl
theorem jo_269 : px_own 269 = 12 := rfl
theorem jq_274 : jq 274 0 := ⟨rfl, jl rfl, by decide, rfl, fun _ => jl rfl⟩
theorem jbd_274 : px_bud 274 = (0, 0) := rfl
theorem jo_274 : px_own 274 = 12 := rfl
theorem jq_273 : jq 273 0 := ⟨rfl, jl rfl, by decide, rfl, fun _ => jl rfl⟩
theorem jbd_273 : px_bud 273 = (0, 0) := rfl
theorem jo_273 : px_own 273 = 12 := rfl
theorem jq_276 : jq 276 0 := ⟨rfl, jl rfl, by decide, rfl, fun _ => jl rfl⟩
theorem jbd_276 : px_bud 276 = (0, 0) := rfl
theorem jo_276 : px_own 276 = 12 := rfl
theorem jq_275 : jq 275 0 := ⟨rfl, jl rfl, by decide, rfl, fun _ => jl rfl⟩
theorem jbd_275 : px_bud 275 = (0, 0) := rfl
theorem jo_275 : px_own 275 = 12 := rfl
theorem jq_277 : jq 277 0 := ⟨rfl, jl rfl, by decide, rfl, fun _ => jl rfl⟩
theorem jbd_277 : px_bud 277 = (0, 0) := rfl
theorem jo_277 : px_own 277 = 12 := rfl
theorem jq_279 : jq 279 1 := ⟨rfl, jl rfl, by decide, rfl, fun h => absurd h (by decide)⟩
theorem jbd_279 : px_bud 279 = (0, 0) := rfl
theorem jo_279 : px_own 279 = 12 := rfl
theorem jq_278 : jq 278 0 := ⟨rfl, jl rfl, by decide, rfl, fun _ => jl rfl⟩
theorem jbd_278 : px_bud 278 = (0, 0) := rfl
theorem jo_278 : px_own 278 = 12 := rfl
theorem jq_282 : jq 282 0 := ⟨rfl, jl rfl, by decide, rfl, fun _ => jl rfl⟩
theorem jbd_282 : px_bud 282 = (0, 0) := rfl
theorem jo_282 : px_own 282 = 12 := rfl
theorem jq_281 : jq 281 0 := ⟨rfl, jl rfl, by decide, rfl, fun _ => jl rfl⟩
theorem jbd_281 : px_bud 281 = (0, 0) := rfl
theorem jo_281 : px_own 281 = 12 := rfl
theorem jq_280 : jq 280 0 := ⟨rfl, jl rfl, by decide, rfl, fun _ => jl rfl⟩
theorem jbd_280 : px_bud 280 = (0, 0) := rfl
theorem jo_280 : px_own 280 = 12 := rfl
theorem jq_283 : jq 283 0 := ⟨rfl, jl rfl, by decide, rfl, fun _ => jl rfl⟩
theorem jbd_283 : px_bud 283 = (0, 0) := rfl
theorem jo_283 : px_own 283 = 12 := rfl
theorem jq_285 : jq 285 0 := ⟨rfl, jl rfl, by decide, rfl, fun _ => jl rfl⟩
theorem jbd_285 : px_bud 285 = (0, 0) := rfl
theorem jo_285 : px_own 285 = 12 := rfl
theorem jq_284 : jq 284 0 := ⟨rfl, jl rfl, by decide, rfl, fun _ => jl rfl⟩
theorem jbd_284 : px_bud 284 = (0, 0) := rfl
theorem jo_284 : px_own 284 = 12 := rfl
theorem jq_286 : jq 286 0 := ⟨rfl, jl rfl, by decide, rfl, fun _ => jl rfl⟩
theorem jbd_286 : px_bud 286 = (0, 0) := rfl
theorem jo_286 : px_own 286 = 12 := rfl
theorem jq_288 : jq 288 1 := ⟨rfl, jl rfl, by decide, rfl, fun h => absurd h (by decide)⟩
theorem jbd_288 : px_bud 288 = (0, 0) := rfl
theorem jo_288 : px_own 288 = 12 := rfl
theorem jq_287 : jq 287 0 := ⟨rfl, jl rfl, by decide, rfl, fun _ => jl rfl⟩
theorem jbd_287 : px_bud 287 = (0, 0) := rfl
theorem jo_287 : px_own 287 = 12 := rfl
theorem jq_290 : jq 290 1 := ⟨rfl, jl rfl, by decide, rfl, fun h => absurd h (by decide)⟩
theorem jbd_290 : px_bud 290 = (0, 0) := rfl
theorem jo_290 : px_own 290 = 12 := rfl
theorem jq_289 : jq 289 0 := ⟨rfl, jl rfl, by decide, rfl, fun _ => jl rfl⟩
theorem jbd_289 : px_bud 289 = (0, 0) := rfl
theorem jo_289 : px_own 289 = 12 := rfl
theorem jq_291 : jq 291 0 := ⟨rfl, jl rfl, by decide, rfl, fun _ => jl rfl⟩
theorem jbd_291 : px_bud 291 = (0, 0) := rfl
theorem jo_291 : px_own 291 = 12 := rfl
theorem jq_292 : jq 292 0 := ⟨rfl, jl rfl, by decide, rfl, fun _ => jl rfl⟩
theorem jbd_292 : px_bud 292 = (0, 0) := rfl
theorem jo_292 : px_own 292 = 12 := rfl
theorem jq_294 : jq 294 1 := ⟨rfl, jl rfl, by decide, rfl, fun h => absurd h (by decide)⟩
theorem jbd_294 : px_bud 294 = (0, 0) := rfl
theorem jo_294 : px_own 294 = 12 := rfl
theorem jq_296 : jq 296 0 := ⟨rfl, jl rfl, by decide, rfl, fun _ => jl rfl⟩
theorem jbd_296 : px_bud 296 = (0, 0) := rfl
theorem jo_296 : px_own 296 = 12 := rfl
theorem jq_295 : jq 295 0 := ⟨rfl, jl rfl, by decide, rfl, fun _ => jl rfl⟩
theorem jbd_295 : px_bud 295 = (0, 0) := rfl
theorem jo_295 : px_own 295 = 12 := rfl
theorem jq_293 : jq 293 0 := ⟨rfl, jl rfl, by decide, rfl, fun _ => jl rfl⟩
theorem jbd_293 : px_bud 293 = (0, 0) := rfl
theorem jo_293 : px_own 293 = 12 := rfl
theorem jq_297 : jq 297 0 := ⟨rfl, jl rfl, by decide, rfl, fun _ => jl rfl⟩
theorem jbd_297 : px_bud 297 = (0, 0) := rfl
theorem jo_297 : px_own 297 = 12 := rfl
theorem jq_300 : jq 300 0 := ⟨rfl, jl rfl, by decide, rfl, fun _ => jl rfl⟩
theorem jbd_300 : px_bud 300 = (0, 0) := rfl
theorem jo_300 : px_own 300 = 12 := rfl
theorem jq_299 : jq 299 0 := ⟨rfl, jl rfl, by decide, rfl, fun _ => jl rfl⟩
theorem jbd_299 : px_bud 299 = (0, 0) := rfl
theorem jo_299 : px_own 299 = 12 := rfl
theorem jq_298 : jq 298 0 := ⟨rfl, jl rfl, by decide, rfl, fun _ => jl rfl⟩
theorem jbd_298 : px_bud 298 = (0, 0) := rfl
theorem jo_298 : px_own 298 = 12 := rfl
theorem jq_301 : jq 301 0 := ⟨rfl, jl rfl, by decide, rfl, fun _ => jl rfl⟩
theorem jbd_301 : px_bud 301 = (0, 0) := rfl
theorem jo_301 : px_own 301 = 12 := rfl
theorem jq_302 : jq 302 0 := ⟨rfl, jl rfl, by decide, rfl, fun _ => jl rfl⟩
theorem jbd_302 : px_bud 302 = (0, 0) := rfl
theorem jo_302 : px_own 302 = 12 := rfl
theorem jq_303 : jq 303 0 := ⟨rfl, jl rfl, by decide, rfl, fun _ => jl rfl⟩
theorem jbd_303 : px_bud 303 = (0, 0) := rfl
theorem jo_303 : px_own 303 = 12 := rfl
theorem jo_304 : px_own 304 = 13 := rfl
theorem jo_305 : px_own 305 = 13 := rfl
theorem jo_306 : px_own 306 = 13 := rfl
theorem jo_307 : px_own 307 = 13 := rfl
theorem jo_308 : px_own 308 = 13 := rfl
theorem jo_309 : px_own 309 = 13 := rfl
theorem jo_310 : px_own 310 = 13 := rfl
theorem jo_311 : px_own 311 = 13 := rfl
theorem jo_312 : px_own 312 = 13 := rfl
theorem jo_313 : px_own 313 = 13 := rfl
theorem jo_314 : px_own 314 = 13 := rfl
theorem jo_315 : px_own 315 = 13 := rfl
theorem jo_316 : px_own 316 = 13 := rfl
theorem jo_317 : px_own 317 = 13 := rfl
theorem jo_318 : px_own 318 = 13 := rfl
theorem jo_319 : px_own 319 = 13 := rfl
theorem jo_320 : px_own 320 = 13 := rfl
theorem jo_321 : px_own 321 = 13 := rfl
theorem jo_322 : px_own 322 = 13 := rfl
theorem jo_323 : px_own 323 = 13 := rfl
theorem jo_324 : px_own 324 = 13 := rfl
theorem jo_325 : px_own 325 = 13 := rfl
theorem jo_326 : px_own 326 = 13 := rfl
theorem jo_327 : px_own 327 = 13 := rfl
theorem jo_328 : px_own 328 = 13 := rfl
theorem jo_329 : px_own 329 = 13 := rfl
theorem jo_330 : px_own 330 = 13 := rfl
theorem jo_331 : px_own 331 = 13 := rfl
