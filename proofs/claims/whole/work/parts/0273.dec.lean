set_option maxRecDepth 100000 in
theorem px_d230 : px_cks prog_14_method_49_code 0 px_m230.2.2.2.2.2.1 = true := by decide +kernel
set_option maxRecDepth 100000 in
theorem px_d231 : px_cks prog_14_method_54_code 0 px_m231.2.2.2.2.2.1 = true := by decide +kernel
set_option maxRecDepth 100000 in
theorem px_d232 : px_cks prog_14_method_57_code 0 px_m232.2.2.2.2.2.1 = true := by decide +kernel
set_option maxRecDepth 100000 in
theorem px_d233 : px_cks prog_14_method_56_code 0 px_m233.2.2.2.2.2.1 = true := by decide +kernel
set_option maxRecDepth 100000 in
theorem px_d234 : px_cks prog_14_method_58_code 0 px_m234.2.2.2.2.2.1 = true := by decide +kernel
set_option maxRecDepth 100000 in
theorem px_d235 : px_cks prog_14_method_47_code 0 px_m235.2.2.2.2.2.1 = true := by decide +kernel
set_option maxRecDepth 100000 in
theorem px_d236 : px_cks prog_14_method_53_code 0 px_m236.2.2.2.2.2.1 = true := by decide +kernel
set_option maxRecDepth 100000 in
theorem px_d237 : px_cks prog_14_method_51_code 0 px_m237.2.2.2.2.2.1 = true := by decide +kernel
set_option maxRecDepth 100000 in
theorem px_d238 : px_cks prog_14_method_48_code 0 px_m238.2.2.2.2.2.1 = true := by decide +kernel
set_option maxRecDepth 100000 in
theorem px_d239 : px_cks prog_14_method_40_code 0 px_m239.2.2.2.2.2.1 = true := by decide +kernel
set_option maxRecDepth 100000 in
theorem px_d240 : px_cks prog_14_method_38_code 0 px_m240.2.2.2.2.2.1 = true := by decide +kernel
set_option maxRecDepth 100000 in
theorem px_d241 : px_cks prog_14_method_39_code 0 px_m241.2.2.2.2.2.1 = true := by decide +kernel
set_option maxRecDepth 100000 in
theorem px_d242 : px_cks prog_14_method_52_code 0 px_m242.2.2.2.2.2.1 = true := by decide +kernel
set_option maxRecDepth 100000 in
theorem px_d243 : px_cks prog_14_method_60_code 0 px_m243.2.2.2.2.2.1 = true := by decide +kernel
set_option maxRecDepth 100000 in
theorem px_d244 : px_cks prog_14_method_61_code 0 px_m244.2.2.2.2.2.1 = true := by decide +kernel
set_option maxRecDepth 100000 in
theorem px_d245 : px_cks prog_14_method_62_code 0 px_m245.2.2.2.2.2.1 = true := by decide +kernel
set_option maxRecDepth 100000 in
theorem px_d246 : px_cks prog_14_method_66_code 0 px_m246.2.2.2.2.2.1 = true := by decide +kernel
set_option maxRecDepth 100000 in
theorem px_d247 : px_cks prog_14_method_3_code 0 px_m247.2.2.2.2.2.1 = true := by decide +kernel
set_option maxRecDepth 100000 in
theorem px_d248 : px_cks prog_14_method_63_code 0 px_m248.2.2.2.2.2.1 = true := by decide +kernel
set_option maxRecDepth 100000 in
theorem px_d249 : px_cks prog_14_method_64_code 0 px_m249.2.2.2.2.2.1 = true := by decide +kernel
set_option maxRecDepth 100000 in
theorem px_d250 : px_cks prog_14_method_65_code 0 px_m250.2.2.2.2.2.1 = true := by decide +kernel
set_option maxRecDepth 100000 in
theorem px_d251 : px_cks prog_14_method_71_code 0 px_m251.2.2.2.2.2.1 = true := by decide +kernel
set_option maxRecDepth 100000 in
theorem px_d252 : px_cks prog_14_method_67_code 0 px_m252.2.2.2.2.2.1 = true := by decide +kernel
set_option maxRecDepth 100000 in
theorem px_d253 : px_cks prog_14_method_72_code 0 px_m253.2.2.2.2.2.1 = true := by decide +kernel
set_option maxRecDepth 100000 in
theorem px_d254 : px_cks prog_14_method_68_code 0 px_m254.2.2.2.2.2.1 = true := by decide +kernel
set_option maxRecDepth 100000 in
theorem px_d255 : px_cks prog_14_method_73_code 0 px_m255.2.2.2.2.2.1 = true := by decide +kernel
set_option maxRecDepth 100000 in
theorem px_d256 : px_cks prog_14_method_69_code 0 px_m256.2.2.2.2.2.1 = true := by decide +kernel
set_option maxRecDepth 100000 in
theorem px_d257 : px_cks prog_14_method_74_code 0 px_m257.2.2.2.2.2.1 = true := by decide +kernel
set_option maxRecDepth 100000 in
theorem px_d258 : px_cks prog_14_method_70_code 0 px_m258.2.2.2.2.2.1 = true := by decide +kernel
set_option maxRecDepth 100000 in
theorem px_d259 : px_cks prog_14_method_75_code 0 px_m259.2.2.2.2.2.1 = true := by decide +kernel
set_option maxRecDepth 100000 in
theorem px_d260 : px_cks prog_14_method_76_code 0 px_m260.2.2.2.2.2.1 = true := by decide +kernel
set_option maxRecDepth 100000 in
theorem px_d261 : px_cks prog_14_method_77_code 0 px_m261.2.2.2.2.2.1 = true := by decide +kernel
set_option maxRecDepth 100000 in
theorem px_d262 : px_cks prog_14_method_78_code 0 px_m262.2.2.2.2.2.1 = true := by decide +kernel
set_option maxRecDepth 100000 in
theorem px_d263 : px_cks prog_14_method_83_code 0 px_m263.2.2.2.2.2.1 = true := by decide +kernel
set_option maxRecDepth 100000 in
theorem px_d264 : px_cks prog_14_method_81_code 0 px_m264.2.2.2.2.2.1 = true := by decide +kernel
set_option maxRecDepth 100000 in
theorem px_d265 : px_cks prog_14_method_80_code 0 px_m265.2.2.2.2.2.1 = true := by decide +kernel
set_option maxRecDepth 100000 in
theorem px_d266 : px_cks prog_14_method_79_code 0 px_m266.2.2.2.2.2.1 = true := by decide +kernel
set_option maxRecDepth 100000 in
theorem px_d267 : px_cks prog_14_method_84_code 0 px_m267.2.2.2.2.2.1 = true := by decide +kernel
set_option maxRecDepth 100000 in
theorem px_d268 : px_cks prog_14_method_82_code 0 px_m268.2.2.2.2.2.1 = true := by decide +kernel
set_option maxRecDepth 100000 in
theorem px_d269 : px_cks prog_14_method_87_code 0 px_m269.2.2.2.2.2.1 = true := by decide +kernel
set_option maxRecDepth 100000 in
theorem px_d270 : px_cks prog_14_method_86_code 0 px_m270.2.2.2.2.2.1 = true := by decide +kernel
set_option maxRecDepth 100000 in
theorem px_d271 : px_cks prog_14_method_85_code 0 px_m271.2.2.2.2.2.1 = true := by decide +kernel
set_option maxRecDepth 100000 in
theorem px_d272 : px_cks prog_14_method_50_code 0 px_m272.2.2.2.2.2.1 = true := by decide +kernel
set_option maxRecDepth 100000 in
theorem px_d273 : px_cks prog_14_method_89_code 0 px_m273.2.2.2.2.2.1 = true := by decide +kernel
set_option maxRecDepth 100000 in
theorem px_d274 : px_cks prog_14_method_88_code 0 px_m274.2.2.2.2.2.1 = true := by decide +kernel
set_option maxRecDepth 100000 in
theorem px_d275 : px_cks prog_14_method_91_code 0 px_m275.2.2.2.2.2.1 = true := by decide +kernel
set_option maxRecDepth 100000 in
theorem px_d276 : px_cks prog_14_method_90_code 0 px_m276.2.2.2.2.2.1 = true := by decide +kernel
set_option maxRecDepth 100000 in
theorem px_d277 : px_cks prog_14_method_92_code 0 px_m277.2.2.2.2.2.1 = true := by decide +kernel
set_option maxRecDepth 100000 in
theorem px_d278 : px_cks prog_14_method_94_code 0 px_m278.2.2.2.2.2.1 = true := by decide +kernel
set_option maxRecDepth 100000 in
theorem px_d279 : px_cks prog_14_method_93_code 0 px_m279.2.2.2.2.2.1 = true := by decide +kernel
set_option maxRecDepth 100000 in
theorem px_d280 : px_cks prog_14_method_97_code 0 px_m280.2.2.2.2.2.1 = true := by decide +kernel
set_option maxRecDepth 100000 in
theorem px_d281 : px_cks prog_14_method_96_code 0 px_m281.2.2.2.2.2.1 = true := by decide +kernel
set_option maxRecDepth 100000 in
theorem px_d282 : px_cks prog_14_method_95_code 0 px_m282.2.2.2.2.2.1 = true := by decide +kernel
set_option maxRecDepth 100000 in
theorem px_d283 : px_cks prog_14_method_98_code 0 px_m283.2.2.2.2.2.1 = true := by decide +kernel
set_option maxRecDepth 100000 in
theorem px_d284 : px_cks prog_14_method_100_code 0 px_m284.2.2.2.2.2.1 = true := by decide +kernel
set_option maxRecDepth 100000 in
theorem px_d285_0 : px_ck prog_14_method_99_code (32 * 0) (px_m285.2.2.2.2.2.1.getD 0 []) = true := by decide +kernel
set_option maxRecDepth 100000 in
theorem px_d285_1 : px_ck prog_14_method_99_code (32 * 1) (px_m285.2.2.2.2.2.1.getD 1 []) = true := by decide +kernel
set_option maxRecDepth 100000 in
theorem px_d285_2 : px_ck prog_14_method_99_code (32 * 2) (px_m285.2.2.2.2.2.1.getD 2 []) = true := by decide +kernel
set_option maxRecDepth 100000 in
theorem px_d285_3 : px_ck prog_14_method_99_code (32 * 3) (px_m285.2.2.2.2.2.1.getD 3 []) = true := by decide +kernel
set_option maxRecDepth 100000 in
theorem px_d285_4 : px_ck prog_14_method_99_code (32 * 4) (px_m285.2.2.2.2.2.1.getD 4 []) = true := by decide +kernel
set_option maxRecDepth 100000 in
theorem px_d285_5 : px_ck prog_14_method_99_code (32 * 5) (px_m285.2.2.2.2.2.1.getD 5 []) = true := by decide +kernel
set_option maxRecDepth 100000 in
theorem px_d285_6 : px_ck prog_14_method_99_code (32 * 6) (px_m285.2.2.2.2.2.1.getD 6 []) = true := by decide +kernel
set_option maxRecDepth 100000 in
theorem px_d285_7 : px_ck prog_14_method_99_code (32 * 7) (px_m285.2.2.2.2.2.1.getD 7 []) = true := by decide +kernel
set_option maxRecDepth 100000 in
theorem px_d285_8 : px_ck prog_14_method_99_code (32 * 8) (px_m285.2.2.2.2.2.1.getD 8 []) = true := by decide +kernel
set_option maxRecDepth 100000 in
theorem px_d285_9 : px_ck prog_14_method_99_code (32 * 9) (px_m285.2.2.2.2.2.1.getD 9 []) = true := by decide +kernel
set_option maxRecDepth 100000 in
theorem px_d285_10 : px_ck prog_14_method_99_code (32 * 10) (px_m285.2.2.2.2.2.1.getD 10 []) = true := by decide +kernel
set_option maxRecDepth 100000 in
theorem px_d285_11 : px_ck prog_14_method_99_code (32 * 11) (px_m285.2.2.2.2.2.1.getD 11 []) = true := by decide +kernel
set_option maxRecDepth 100000 in
theorem px_d286 : px_cks prog_14_method_101_code 0 px_m286.2.2.2.2.2.1 = true := by decide +kernel
set_option maxRecDepth 100000 in
theorem px_d287 : px_cks prog_14_method_103_code 0 px_m287.2.2.2.2.2.1 = true := by decide +kernel
set_option maxRecDepth 100000 in
theorem px_d288 : px_cks prog_14_method_102_code 0 px_m288.2.2.2.2.2.1 = true := by decide +kernel
set_option maxRecDepth 100000 in
theorem px_d289 : px_cks prog_14_method_105_code 0 px_m289.2.2.2.2.2.1 = true := by decide +kernel
set_option maxRecDepth 100000 in
theorem px_d290 : px_cks prog_14_method_104_code 0 px_m290.2.2.2.2.2.1 = true := by decide +kernel
set_option maxRecDepth 100000 in
theorem px_d291_0 : px_ck prog_14_method_106_code (32 * 0) (px_m291.2.2.2.2.2.1.getD 0 []) = true := by decide +kernel
set_option maxRecDepth 100000 in
theorem px_d291_1 : px_ck prog_14_method_106_code (32 * 1) (px_m291.2.2.2.2.2.1.getD 1 []) = true := by decide +kernel
set_option maxRecDepth 100000 in
theorem px_d291_2 : px_ck prog_14_method_106_code (32 * 2) (px_m291.2.2.2.2.2.1.getD 2 []) = true := by decide +kernel
set_option maxRecDepth 100000 in
theorem px_d291_3 : px_ck prog_14_method_106_code (32 * 3) (px_m291.2.2.2.2.2.1.getD 3 []) = true := by decide +kernel
set_option maxRecDepth 100000 in
theorem px_d291_4 : px_ck prog_14_method_106_code (32 * 4) (px_m291.2.2.2.2.2.1.getD 4 []) = true := by decide +kernel
set_option maxRecDepth 100000 in
theorem px_d291_5 : px_ck prog_14_method_106_code (32 * 5) (px_m291.2.2.2.2.2.1.getD 5 []) = true := by decide +kernel
set_option maxRecDepth 100000 in
theorem px_d291_6 : px_ck prog_14_method_106_code (32 * 6) (px_m291.2.2.2.2.2.1.getD 6 []) = true := by decide +kernel
set_option maxRecDepth 100000 in
theorem px_d291_7 : px_ck prog_14_method_106_code (32 * 7) (px_m291.2.2.2.2.2.1.getD 7 []) = true := by decide +kernel
set_option maxRecDepth 100000 in
theorem px_d291_8 : px_ck prog_14_method_106_code (32 * 8) (px_m291.2.2.2.2.2.1.getD 8 []) = true := by decide +kernel
set_option maxRecDepth 100000 in
theorem px_d292 : px_cks prog_14_method_107_code 0 px_m292.2.2.2.2.2.1 = true := by decide +kernel
set_option maxRecDepth 100000 in
theorem px_d293 : px_cks prog_14_method_111_code 0 px_m293.2.2.2.2.2.1 = true := by decide +kernel
set_option maxRecDepth 100000 in
theorem px_d294 : px_cks prog_14_method_110_code 0 px_m294.2.2.2.2.2.1 = true := by decide +kernel
set_option maxRecDepth 100000 in
theorem px_d295 : px_cks prog_14_method_109_code 0 px_m295.2.2.2.2.2.1 = true := by decide +kernel
set_option maxRecDepth 100000 in
theorem px_d296 : px_cks prog_14_method_108_code 0 px_m296.2.2.2.2.2.1 = true := by decide +kernel
set_option maxRecDepth 100000 in
theorem px_d297 : px_cks prog_14_method_112_code 0 px_m297.2.2.2.2.2.1 = true := by decide +kernel
set_option maxRecDepth 100000 in
theorem px_d298 : px_cks prog_14_method_115_code 0 px_m298.2.2.2.2.2.1 = true := by decide +kernel
set_option maxRecDepth 100000 in
theorem px_d299 : px_cks prog_14_method_114_code 0 px_m299.2.2.2.2.2.1 = true := by decide +kernel
set_option maxRecDepth 100000 in
theorem px_d300 : px_cks prog_14_method_113_code 0 px_m300.2.2.2.2.2.1 = true := by decide +kernel
set_option maxRecDepth 100000 in
theorem px_d301 : px_cks prog_14_method_116_code 0 px_m301.2.2.2.2.2.1 = true := by decide +kernel
set_option maxRecDepth 100000 in
theorem px_d302 : px_cks prog_14_method_117_code 0 px_m302.2.2.2.2.2.1 = true := by decide +kernel
set_option maxRecDepth 100000 in
theorem px_d303 : px_cks prog_14_method_118_code 0 px_m303.2.2.2.2.2.1 = true := by decide +kernel
set_option maxRecDepth 100000 in
theorem px_d304 : px_cks method_3_code 0 px_m304.2.2.2.2.2.1 = true := by decide +kernel
set_option maxRecDepth 100000 in
theorem px_d305 : px_cks method_4_code 0 px_m305.2.2.2.2.2.1 = true := by decide +kernel
set_option maxRecDepth 100000 in
theorem px_d306 : px_cks method_5_code 0 px_m306.2.2.2.2.2.1 = true := by decide +kernel
set_option maxRecDepth 100000 in
theorem px_d307 : px_cks method_6_code 0 px_m307.2.2.2.2.2.1 = true := by decide +kernel
set_option maxRecDepth 100000 in
theorem px_d308 : px_cks method_7_code 0 px_m308.2.2.2.2.2.1 = true := by decide +kernel
set_option maxRecDepth 100000 in
theorem px_d309 : px_cks method_8_code 0 px_m309.2.2.2.2.2.1 = true := by decide +kernel
set_option maxRecDepth 100000 in
theorem px_d310 : px_cks method_9_code 0 px_m310.2.2.2.2.2.1 = true := by decide +kernel
set_option maxRecDepth 100000 in
theorem px_d311 : px_cks method_10_code 0 px_m311.2.2.2.2.2.1 = true := by decide +kernel
set_option maxRecDepth 100000 in
theorem px_d312 : px_cks method_11_code 0 px_m312.2.2.2.2.2.1 = true := by decide +kernel
set_option maxRecDepth 100000 in
theorem px_d313 : px_cks method_12_code 0 px_m313.2.2.2.2.2.1 = true := by decide +kernel
set_option maxRecDepth 100000 in
theorem px_d314 : px_cks method_13_code 0 px_m314.2.2.2.2.2.1 = true := by decide +kernel
set_option maxRecDepth 100000 in
theorem px_d315 : px_cks method_14_code 0 px_m315.2.2.2.2.2.1 = true := by decide +kernel
set_option maxRecDepth 100000 in
theorem px_d316 : px_cks method_15_code 0 px_m316.2.2.2.2.2.1 = true := by decide +kernel
set_option maxRecDepth 100000 in
theorem px_d317 : px_cks method_16_code 0 px_m317.2.2.2.2.2.1 = true := by decide +kernel
set_option maxRecDepth 100000 in
theorem px_d318 : px_cks method_17_code 0 px_m318.2.2.2.2.2.1 = true := by decide +kernel
set_option maxRecDepth 100000 in
theorem px_d319 : px_cks method_18_code 0 px_m319.2.2.2.2.2.1 = true := by decide +kernel
set_option maxRecDepth 100000 in
theorem px_d320 : px_cks method_19_code 0 px_m320.2.2.2.2.2.1 = true := by decide +kernel
set_option maxRecDepth 100000 in
theorem px_d321 : px_cks method_20_code 0 px_m321.2.2.2.2.2.1 = true := by decide +kernel
set_option maxRecDepth 100000 in
theorem px_d322 : px_cks method_21_code 0 px_m322.2.2.2.2.2.1 = true := by decide +kernel
set_option maxRecDepth 100000 in
theorem px_d323 : px_cks method_22_code 0 px_m323.2.2.2.2.2.1 = true := by decide +kernel
set_option maxRecDepth 100000 in
theorem px_d324 : px_cks method_23_code 0 px_m324.2.2.2.2.2.1 = true := by decide +kernel
set_option maxRecDepth 100000 in
theorem px_d325 : px_cks method_24_code 0 px_m325.2.2.2.2.2.1 = true := by decide +kernel
set_option maxRecDepth 100000 in
theorem px_d326 : px_cks method_25_code 0 px_m326.2.2.2.2.2.1 = true := by decide +kernel
set_option maxRecDepth 100000 in
theorem px_d327 : px_cks method_26_code 0 px_m327.2.2.2.2.2.1 = true := by decide +kernel
set_option maxRecDepth 100000 in
theorem px_d328 : px_cks method_27_code 0 px_m328.2.2.2.2.2.1 = true := by decide +kernel
set_option maxRecDepth 100000 in
theorem px_d329 : px_cks method_28_code 0 px_m329.2.2.2.2.2.1 = true := by decide +kernel
set_option maxRecDepth 100000 in
theorem px_d330 : px_cks method_29_code 0 px_m330.2.2.2.2.2.1 = true := by decide +kernel
set_option maxRecDepth 100000 in
theorem px_d331 : px_cks method_30_code 0 px_m331.2.2.2.2.2.1 = true := by decide +kernel
set_option maxRecDepth 100000 in
theorem px_d333 : px_cks prog_20_method_49_code 0 px_m333.2.2.2.2.2.1 = true := by decide +kernel
set_option maxRecDepth 100000 in
theorem px_d334 : px_cks prog_30_method_103_code 0 px_m334.2.2.2.2.2.1 = true := by decide +kernel
set_option maxRecDepth 100000 in
theorem px_d335 : px_cks prog_21_method_65_code 0 px_m335.2.2.2.2.2.1 = true := by decide +kernel
set_option maxRecDepth 100000 in
theorem px_d336 : px_cks prog_21_method_69_code 0 px_m336.2.2.2.2.2.1 = true := by decide +kernel
set_option maxRecDepth 100000 in
theorem px_d337 : px_cks prog_21_method_59_code 0 px_m337.2.2.2.2.2.1 = true := by decide +kernel
