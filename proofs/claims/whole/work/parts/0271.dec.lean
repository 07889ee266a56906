set_option maxRecDepth 100000 in
theorem px_d0 : px_cks prog_2_method_1_code 0 px_m0.2.2.2.2.2.1 = true := by decide +kernel
set_option maxRecDepth 100000 in
theorem px_d1 : px_cks prog_2_method_2_code 0 px_m1.2.2.2.2.2.1 = true := by decide +kernel
set_option maxRecDepth 100000 in
theorem px_d2 : px_cks prog_2_method_4_code 0 px_m2.2.2.2.2.2.1 = true := by decide +kernel
set_option maxRecDepth 100000 in
theorem px_d3 : px_cks prog_2_method_3_code 0 px_m3.2.2.2.2.2.1 = true := by decide +kernel
set_option maxRecDepth 100000 in
theorem px_d4 : px_cks prog_2_method_5_code 0 px_m4.2.2.2.2.2.1 = true := by decide +kernel
set_option maxRecDepth 100000 in
theorem px_d5 : px_cks prog_2_method_6_code 0 px_m5.2.2.2.2.2.1 = true := by decide +kernel
set_option maxRecDepth 100000 in
theorem px_d6 : px_cks prog_2_method_7_code 0 px_m6.2.2.2.2.2.1 = true := by decide +kernel
set_option maxRecDepth 100000 in
theorem px_d7 : px_cks prog_2_method_9_code 0 px_m7.2.2.2.2.2.1 = true := by decide +kernel
set_option maxRecDepth 100000 in
theorem px_d8 : px_cks prog_2_method_8_code 0 px_m8.2.2.2.2.2.1 = true := by decide +kernel
set_option maxRecDepth 100000 in
theorem px_d9 : px_cks prog_3_method_1_code 0 px_m9.2.2.2.2.2.1 = true := by decide +kernel
set_option maxRecDepth 100000 in
theorem px_d10 : px_cks prog_3_method_12_code 0 px_m10.2.2.2.2.2.1 = true := by decide +kernel
set_option maxRecDepth 100000 in
theorem px_d11 : px_cks prog_3_method_3_code 0 px_m11.2.2.2.2.2.1 = true := by decide +kernel
set_option maxRecDepth 100000 in
theorem px_d12 : px_cks prog_3_method_4_code 0 px_m12.2.2.2.2.2.1 = true := by decide +kernel
set_option maxRecDepth 100000 in
theorem px_d13 : px_cks prog_3_method_5_code 0 px_m13.2.2.2.2.2.1 = true := by decide +kernel
set_option maxRecDepth 100000 in
theorem px_d14 : px_cks prog_3_method_6_code 0 px_m14.2.2.2.2.2.1 = true := by decide +kernel
set_option maxRecDepth 100000 in
theorem px_d15 : px_cks prog_3_method_7_code 0 px_m15.2.2.2.2.2.1 = true := by decide +kernel
set_option maxRecDepth 100000 in
theorem px_d16 : px_cks prog_3_method_10_code 0 px_m16.2.2.2.2.2.1 = true := by decide +kernel
set_option maxRecDepth 100000 in
theorem px_d17 : px_cks prog_3_method_8_code 0 px_m17.2.2.2.2.2.1 = true := by decide +kernel
set_option maxRecDepth 100000 in
theorem px_d18 : px_cks prog_3_method_9_code 0 px_m18.2.2.2.2.2.1 = true := by decide +kernel
set_option maxRecDepth 100000 in
theorem px_d19 : px_cks prog_3_method_2_code 0 px_m19.2.2.2.2.2.1 = true := by decide +kernel
set_option maxRecDepth 100000 in
theorem px_d20 : px_cks prog_3_method_11_code 0 px_m20.2.2.2.2.2.1 = true := by decide +kernel
set_option maxRecDepth 100000 in
theorem px_d21 : px_cks prog_3_method_13_code 0 px_m21.2.2.2.2.2.1 = true := by decide +kernel
set_option maxRecDepth 100000 in
theorem px_d22 : px_cks prog_4_method_1_code 0 px_m22.2.2.2.2.2.1 = true := by decide +kernel
set_option maxRecDepth 100000 in
theorem px_d23 : px_cks prog_4_method_11_code 0 px_m23.2.2.2.2.2.1 = true := by decide +kernel
set_option maxRecDepth 100000 in
theorem px_d24 : px_cks prog_4_method_12_code 0 px_m24.2.2.2.2.2.1 = true := by decide +kernel
set_option maxRecDepth 100000 in
theorem px_d25 : px_cks prog_4_method_2_code 0 px_m25.2.2.2.2.2.1 = true := by decide +kernel
set_option maxRecDepth 100000 in
theorem px_d26 : px_cks prog_4_method_4_code 0 px_m26.2.2.2.2.2.1 = true := by decide +kernel
set_option maxRecDepth 100000 in
theorem px_d27 : px_cks prog_4_method_6_code 0 px_m27.2.2.2.2.2.1 = true := by decide +kernel
set_option maxRecDepth 100000 in
theorem px_d28 : px_cks prog_4_method_7_code 0 px_m28.2.2.2.2.2.1 = true := by decide +kernel
set_option maxRecDepth 100000 in
theorem px_d29 : px_cks prog_4_method_8_code 0 px_m29.2.2.2.2.2.1 = true := by decide +kernel
set_option maxRecDepth 100000 in
theorem px_d30 : px_cks prog_4_method_5_code 0 px_m30.2.2.2.2.2.1 = true := by decide +kernel
set_option maxRecDepth 100000 in
theorem px_d31 : px_cks prog_4_method_9_code 0 px_m31.2.2.2.2.2.1 = true := by decide +kernel
set_option maxRecDepth 100000 in
theorem px_d32 : px_cks prog_4_method_10_code 0 px_m32.2.2.2.2.2.1 = true := by decide +kernel
set_option maxRecDepth 100000 in
theorem px_d33 : px_cks prog_4_method_3_code 0 px_m33.2.2.2.2.2.1 = true := by decide +kernel
set_option maxRecDepth 100000 in
theorem px_d34 : px_cks prog_5_method_1_code 0 px_m34.2.2.2.2.2.1 = true := by decide +kernel
set_option maxRecDepth 100000 in
theorem px_d35 : px_cks prog_5_method_6_code 0 px_m35.2.2.2.2.2.1 = true := by decide +kernel
set_option maxRecDepth 100000 in
theorem px_d36 : px_cks prog_5_method_2_code 0 px_m36.2.2.2.2.2.1 = true := by decide +kernel
set_option maxRecDepth 100000 in
theorem px_d37 : px_cks prog_5_method_4_code 0 px_m37.2.2.2.2.2.1 = true := by decide +kernel
set_option maxRecDepth 100000 in
theorem px_d38 : px_cks prog_5_method_3_code 0 px_m38.2.2.2.2.2.1 = true := by decide +kernel
set_option maxRecDepth 100000 in
theorem px_d39 : px_cks prog_5_method_5_code 0 px_m39.2.2.2.2.2.1 = true := by decide +kernel
set_option maxRecDepth 100000 in
theorem px_d40 : px_cks prog_5_method_7_code 0 px_m40.2.2.2.2.2.1 = true := by decide +kernel
set_option maxRecDepth 100000 in
theorem px_d41 : px_cks prog_5_method_8_code 0 px_m41.2.2.2.2.2.1 = true := by decide +kernel
set_option maxRecDepth 100000 in
theorem px_d42 : px_cks prog_6_method_1_code 0 px_m42.2.2.2.2.2.1 = true := by decide +kernel
set_option maxRecDepth 100000 in
theorem px_d43 : px_cks prog_6_method_2_code 0 px_m43.2.2.2.2.2.1 = true := by decide +kernel
set_option maxRecDepth 100000 in
theorem px_d44 : px_cks prog_6_method_5_code 0 px_m44.2.2.2.2.2.1 = true := by decide +kernel
set_option maxRecDepth 100000 in
theorem px_d45 : px_cks prog_6_method_3_code 0 px_m45.2.2.2.2.2.1 = true := by decide +kernel
set_option maxRecDepth 100000 in
theorem px_d46 : px_cks prog_6_method_4_code 0 px_m46.2.2.2.2.2.1 = true := by decide +kernel
set_option maxRecDepth 100000 in
theorem px_d47 : px_cks prog_6_method_6_code 0 px_m47.2.2.2.2.2.1 = true := by decide +kernel
set_option maxRecDepth 100000 in
theorem px_d48 : px_cks prog_6_method_7_code 0 px_m48.2.2.2.2.2.1 = true := by decide +kernel
set_option maxRecDepth 100000 in
theorem px_d49 : px_cks prog_7_method_1_code 0 px_m49.2.2.2.2.2.1 = true := by decide +kernel
set_option maxRecDepth 100000 in
theorem px_d50 : px_cks prog_7_method_5_code 0 px_m50.2.2.2.2.2.1 = true := by decide +kernel
set_option maxRecDepth 100000 in
theorem px_d51 : px_cks prog_7_method_6_code 0 px_m51.2.2.2.2.2.1 = true := by decide +kernel
set_option maxRecDepth 100000 in
theorem px_d52 : px_cks prog_7_method_7_code 0 px_m52.2.2.2.2.2.1 = true := by decide +kernel
set_option maxRecDepth 100000 in
theorem px_d53 : px_cks prog_7_method_2_code 0 px_m53.2.2.2.2.2.1 = true := by decide +kernel
set_option maxRecDepth 100000 in
theorem px_d54 : px_cks prog_7_method_3_code 0 px_m54.2.2.2.2.2.1 = true := by decide +kernel
set_option maxRecDepth 100000 in
theorem px_d55 : px_cks prog_7_method_4_code 0 px_m55.2.2.2.2.2.1 = true := by decide +kernel
set_option maxRecDepth 100000 in
theorem px_d56 : px_cks prog_8_method_1_code 0 px_m56.2.2.2.2.2.1 = true := by decide +kernel
set_option maxRecDepth 100000 in
theorem px_d57 : px_cks prog_8_method_13_code 0 px_m57.2.2.2.2.2.1 = true := by decide +kernel
set_option maxRecDepth 100000 in
theorem px_d58 : px_cks prog_8_method_11_code 0 px_m58.2.2.2.2.2.1 = true := by decide +kernel
set_option maxRecDepth 100000 in
theorem px_d59 : px_cks prog_8_method_8_code 0 px_m59.2.2.2.2.2.1 = true := by decide +kernel
set_option maxRecDepth 100000 in
theorem px_d60 : px_cks prog_8_method_17_code 0 px_m60.2.2.2.2.2.1 = true := by decide +kernel
set_option maxRecDepth 100000 in
theorem px_d61 : px_cks prog_8_method_14_code 0 px_m61.2.2.2.2.2.1 = true := by decide +kernel
set_option maxRecDepth 100000 in
theorem px_d62 : px_cks prog_8_method_30_code 0 px_m62.2.2.2.2.2.1 = true := by decide +kernel
set_option maxRecDepth 100000 in
theorem px_d63 : px_cks prog_8_method_5_code 0 px_m63.2.2.2.2.2.1 = true := by decide +kernel
set_option maxRecDepth 100000 in
theorem px_d64 : px_cks prog_8_method_26_code 0 px_m64.2.2.2.2.2.1 = true := by decide +kernel
set_option maxRecDepth 100000 in
theorem px_d65 : px_cks prog_8_method_6_code 0 px_m65.2.2.2.2.2.1 = true := by decide +kernel
set_option maxRecDepth 100000 in
theorem px_d66 : px_cks prog_8_method_7_code 0 px_m66.2.2.2.2.2.1 = true := by decide +kernel
set_option maxRecDepth 100000 in
theorem px_d67 : px_cks prog_8_method_22_code 0 px_m67.2.2.2.2.2.1 = true := by decide +kernel
set_option maxRecDepth 100000 in
theorem px_d68 : px_cks prog_8_method_9_code 0 px_m68.2.2.2.2.2.1 = true := by decide +kernel
set_option maxRecDepth 100000 in
theorem px_d69 : px_cks prog_8_method_4_code 0 px_m69.2.2.2.2.2.1 = true := by decide +kernel
set_option maxRecDepth 100000 in
theorem px_d70 : px_cks prog_8_method_24_code 0 px_m70.2.2.2.2.2.1 = true := by decide +kernel
set_option maxRecDepth 100000 in
theorem px_d71 : px_cks prog_8_method_27_code 0 px_m71.2.2.2.2.2.1 = true := by decide +kernel
set_option maxRecDepth 100000 in
theorem px_d72 : px_cks prog_8_method_23_code 0 px_m72.2.2.2.2.2.1 = true := by decide +kernel
set_option maxRecDepth 100000 in
theorem px_d73 : px_cks prog_8_method_32_code 0 px_m73.2.2.2.2.2.1 = true := by decide +kernel
set_option maxRecDepth 100000 in
theorem px_d74 : px_cks prog_8_method_2_code 0 px_m74.2.2.2.2.2.1 = true := by decide +kernel
set_option maxRecDepth 100000 in
theorem px_d75 : px_cks prog_8_method_33_code 0 px_m75.2.2.2.2.2.1 = true := by decide +kernel
set_option maxRecDepth 100000 in
theorem px_d76 : px_cks prog_8_method_34_code 0 px_m76.2.2.2.2.2.1 = true := by decide +kernel
set_option maxRecDepth 100000 in
theorem px_d77 : px_cks prog_8_method_35_code 0 px_m77.2.2.2.2.2.1 = true := by decide +kernel
set_option maxRecDepth 100000 in
theorem px_d78 : px_cks prog_8_method_29_code 0 px_m78.2.2.2.2.2.1 = true := by decide +kernel
set_option maxRecDepth 100000 in
theorem px_d79 : px_cks prog_8_method_36_code 0 px_m79.2.2.2.2.2.1 = true := by decide +kernel
set_option maxRecDepth 100000 in
theorem px_d80 : px_cks prog_8_method_38_code 0 px_m80.2.2.2.2.2.1 = true := by decide +kernel
set_option maxRecDepth 100000 in
theorem px_d81 : px_cks prog_8_method_39_code 0 px_m81.2.2.2.2.2.1 = true := by decide +kernel
set_option maxRecDepth 100000 in
theorem px_d82 : px_cks prog_8_method_40_code 0 px_m82.2.2.2.2.2.1 = true := by decide +kernel
set_option maxRecDepth 100000 in
theorem px_d83 : px_cks prog_8_method_41_code 0 px_m83.2.2.2.2.2.1 = true := by decide +kernel
set_option maxRecDepth 100000 in
theorem px_d84 : px_cks prog_8_method_42_code 0 px_m84.2.2.2.2.2.1 = true := by decide +kernel
set_option maxRecDepth 100000 in
theorem px_d85 : px_cks prog_8_method_15_code 0 px_m85.2.2.2.2.2.1 = true := by decide +kernel
set_option maxRecDepth 100000 in
theorem px_d86 : px_cks prog_8_method_12_code 0 px_m86.2.2.2.2.2.1 = true := by decide +kernel
set_option maxRecDepth 100000 in
theorem px_d87 : px_cks prog_8_method_19_code 0 px_m87.2.2.2.2.2.1 = true := by decide +kernel
set_option maxRecDepth 100000 in
theorem px_d88 : px_cks prog_8_method_18_code 0 px_m88.2.2.2.2.2.1 = true := by decide +kernel
set_option maxRecDepth 100000 in
theorem px_d89 : px_cks prog_8_method_20_code 0 px_m89.2.2.2.2.2.1 = true := by decide +kernel
set_option maxRecDepth 100000 in
theorem px_d90 : px_cks prog_8_method_16_code 0 px_m90.2.2.2.2.2.1 = true := by decide +kernel
set_option maxRecDepth 100000 in
theorem px_d91 : px_cks prog_8_method_10_code 0 px_m91.2.2.2.2.2.1 = true := by decide +kernel
set_option maxRecDepth 100000 in
theorem px_d92 : px_cks prog_8_method_28_code 0 px_m92.2.2.2.2.2.1 = true := by decide +kernel
set_option maxRecDepth 100000 in
theorem px_d93 : px_cks prog_8_method_25_code 0 px_m93.2.2.2.2.2.1 = true := by decide +kernel
set_option maxRecDepth 100000 in
theorem px_d94 : px_cks prog_8_method_31_code 0 px_m94.2.2.2.2.2.1 = true := by decide +kernel
set_option maxRecDepth 100000 in
theorem px_d95 : px_cks prog_8_method_21_code 0 px_m95.2.2.2.2.2.1 = true := by decide +kernel
set_option maxRecDepth 100000 in
theorem px_d96 : px_cks prog_8_method_3_code 0 px_m96.2.2.2.2.2.1 = true := by decide +kernel
set_option maxRecDepth 100000 in
theorem px_d97 : px_cks prog_8_method_37_code 0 px_m97.2.2.2.2.2.1 = true := by decide +kernel
set_option maxRecDepth 100000 in
theorem px_d98 : px_cks prog_9_method_1_code 0 px_m98.2.2.2.2.2.1 = true := by decide +kernel
set_option maxRecDepth 100000 in
theorem px_d99 : px_cks prog_9_method_2_code 0 px_m99.2.2.2.2.2.1 = true := by decide +kernel
set_option maxRecDepth 100000 in
theorem px_d100 : px_cks prog_9_method_3_code 0 px_m100.2.2.2.2.2.1 = true := by decide +kernel
set_option maxRecDepth 100000 in
theorem px_d101 : px_cks prog_9_method_4_code 0 px_m101.2.2.2.2.2.1 = true := by decide +kernel
set_option maxRecDepth 100000 in
theorem px_d102 : px_cks prog_9_method_5_code 0 px_m102.2.2.2.2.2.1 = true := by decide +kernel
set_option maxRecDepth 100000 in
theorem px_d103 : px_cks prog_9_method_7_code 0 px_m103.2.2.2.2.2.1 = true := by decide +kernel
set_option maxRecDepth 100000 in
theorem px_d104 : px_cks prog_9_method_6_code 0 px_m104.2.2.2.2.2.1 = true := by decide +kernel
set_option maxRecDepth 100000 in
theorem px_d105 : px_cks prog_9_method_8_code 0 px_m105.2.2.2.2.2.1 = true := by decide +kernel
set_option maxRecDepth 100000 in
theorem px_d106 : px_cks prog_9_method_9_code 0 px_m106.2.2.2.2.2.1 = true := by decide +kernel
set_option maxRecDepth 100000 in
theorem px_d107 : px_cks prog_9_method_10_code 0 px_m107.2.2.2.2.2.1 = true := by decide +kernel
set_option maxRecDepth 100000 in
theorem px_d108 : px_cks prog_10_method_1_code 0 px_m108.2.2.2.2.2.1 = true := by decide +kernel
set_option maxRecDepth 100000 in
theorem px_d109 : px_cks prog_10_method_3_code 0 px_m109.2.2.2.2.2.1 = true := by decide +kernel
set_option maxRecDepth 100000 in
theorem px_d110 : px_cks prog_10_method_5_code 0 px_m110.2.2.2.2.2.1 = true := by decide +kernel
set_option maxRecDepth 100000 in
theorem px_d111 : px_cks prog_10_method_4_code 0 px_m111.2.2.2.2.2.1 = true := by decide +kernel
set_option maxRecDepth 100000 in
theorem px_d112 : px_cks prog_10_method_2_code 0 px_m112.2.2.2.2.2.1 = true := by decide +kernel
set_option maxRecDepth 100000 in
theorem px_d113 : px_cks prog_11_method_1_code 0 px_m113.2.2.2.2.2.1 = true := by decide +kernel
set_option maxRecDepth 100000 in
theorem px_d114 : px_cks prog_11_method_2_code 0 px_m114.2.2.2.2.2.1 = true := by decide +kernel
set_option maxRecDepth 100000 in
theorem px_d115 : px_cks prog_11_method_3_code 0 px_m115.2.2.2.2.2.1 = true := by decide +kernel
set_option maxRecDepth 100000 in
theorem px_d116 : px_cks prog_11_method_5_code 0 px_m116.2.2.2.2.2.1 = true := by decide +kernel
set_option maxRecDepth 100000 in
theorem px_d117 : px_cks prog_11_method_10_code 0 px_m117.2.2.2.2.2.1 = true := by decide +kernel
set_option maxRecDepth 100000 in
theorem px_d118 : px_cks prog_11_method_11_code 0 px_m118.2.2.2.2.2.1 = true := by decide +kernel
set_option maxRecDepth 100000 in
theorem px_d119 : px_cks prog_11_method_12_code 0 px_m119.2.2.2.2.2.1 = true := by decide +kernel
