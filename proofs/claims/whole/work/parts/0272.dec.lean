set_option maxRecDepth 100000 in
theorem px_d120 : px_cks prog_11_method_4_code 0 px_m120.2.2.2.2.2.1 = true := by decide +kernel
set_option maxRecDepth 100000 in
theorem px_d121 : px_cks prog_11_method_9_code 0 px_m121.2.2.2.2.2.1 = true := by decide +kernel
set_option maxRecDepth 100000 in
theorem px_d122 : px_cks prog_11_method_8_code 0 px_m122.2.2.2.2.2.1 = true := by decide +kernel
set_option maxRecDepth 100000 in
theorem px_d123 : px_cks prog_11_method_7_code 0 px_m123.2.2.2.2.2.1 = true := by decide +kernel
set_option maxRecDepth 100000 in
theorem px_d124 : px_cks prog_11_method_6_code 0 px_m124.2.2.2.2.2.1 = true := by decide +kernel
set_option maxRecDepth 100000 in
theorem px_d125 : px_cks prog_12_method_1_code 0 px_m125.2.2.2.2.2.1 = true := by decide +kernel
set_option maxRecDepth 100000 in
theorem px_d126 : px_cks prog_12_method_10_code 0 px_m126.2.2.2.2.2.1 = true := by decide +kernel
set_option maxRecDepth 100000 in
theorem px_d127 : px_cks prog_12_method_2_code 0 px_m127.2.2.2.2.2.1 = true := by decide +kernel
set_option maxRecDepth 100000 in
theorem px_d128 : px_cks prog_12_method_5_code 0 px_m128.2.2.2.2.2.1 = true := by decide +kernel
set_option maxRecDepth 100000 in
theorem px_d129 : px_cks prog_12_method_4_code 0 px_m129.2.2.2.2.2.1 = true := by decide +kernel
set_option maxRecDepth 100000 in
theorem px_d130 : px_cks prog_12_method_7_code 0 px_m130.2.2.2.2.2.1 = true := by decide +kernel
set_option maxRecDepth 100000 in
theorem px_d131 : px_cks prog_12_method_3_code 0 px_m131.2.2.2.2.2.1 = true := by decide +kernel
set_option maxRecDepth 100000 in
theorem px_d132 : px_cks prog_12_method_8_code 0 px_m132.2.2.2.2.2.1 = true := by decide +kernel
set_option maxRecDepth 100000 in
theorem px_d133 : px_cks prog_12_method_9_code 0 px_m133.2.2.2.2.2.1 = true := by decide +kernel
set_option maxRecDepth 100000 in
theorem px_d134 : px_cks prog_12_method_6_code 0 px_m134.2.2.2.2.2.1 = true := by decide +kernel
set_option maxRecDepth 100000 in
theorem px_d135 : px_cks prog_12_method_11_code 0 px_m135.2.2.2.2.2.1 = true := by decide +kernel
set_option maxRecDepth 100000 in
theorem px_d136 : px_cks prog_12_method_12_code 0 px_m136.2.2.2.2.2.1 = true := by decide +kernel
set_option maxRecDepth 100000 in
theorem px_d137 : px_cks prog_12_method_13_code 0 px_m137.2.2.2.2.2.1 = true := by decide +kernel
set_option maxRecDepth 100000 in
theorem px_d138 : px_cks prog_12_method_14_code 0 px_m138.2.2.2.2.2.1 = true := by decide +kernel
set_option maxRecDepth 100000 in
theorem px_d139 : px_cks prog_12_method_15_code 0 px_m139.2.2.2.2.2.1 = true := by decide +kernel
set_option maxRecDepth 100000 in
theorem px_d140 : px_cks prog_1_method_1_code 0 px_m140.2.2.2.2.2.1 = true := by decide +kernel
set_option maxRecDepth 100000 in
theorem px_d141 : px_cks prog_1_method_2_code 0 px_m141.2.2.2.2.2.1 = true := by decide +kernel
set_option maxRecDepth 100000 in
theorem px_d142 : px_cks prog_1_method_7_code 0 px_m142.2.2.2.2.2.1 = true := by decide +kernel
set_option maxRecDepth 100000 in
theorem px_d143 : px_cks prog_1_method_8_code 0 px_m143.2.2.2.2.2.1 = true := by decide +kernel
set_option maxRecDepth 100000 in
theorem px_d144 : px_cks prog_1_method_23_code 0 px_m144.2.2.2.2.2.1 = true := by decide +kernel
set_option maxRecDepth 100000 in
theorem px_d145 : px_cks prog_1_method_27_code 0 px_m145.2.2.2.2.2.1 = true := by decide +kernel
set_option maxRecDepth 100000 in
theorem px_d146 : px_cks prog_1_method_35_code 0 px_m146.2.2.2.2.2.1 = true := by decide +kernel
set_option maxRecDepth 100000 in
theorem px_d147 : px_cks prog_1_method_36_code 0 px_m147.2.2.2.2.2.1 = true := by decide +kernel
set_option maxRecDepth 100000 in
theorem px_d148 : px_cks prog_1_method_37_code 0 px_m148.2.2.2.2.2.1 = true := by decide +kernel
set_option maxRecDepth 100000 in
theorem px_d149 : px_cks prog_1_method_38_code 0 px_m149.2.2.2.2.2.1 = true := by decide +kernel
set_option maxRecDepth 100000 in
theorem px_d150 : px_cks prog_1_method_3_code 0 px_m150.2.2.2.2.2.1 = true := by decide +kernel
set_option maxRecDepth 100000 in
theorem px_d151 : px_cks prog_1_method_45_code 0 px_m151.2.2.2.2.2.1 = true := by decide +kernel
set_option maxRecDepth 100000 in
theorem px_d152 : px_cks prog_1_method_44_code 0 px_m152.2.2.2.2.2.1 = true := by decide +kernel
set_option maxRecDepth 100000 in
theorem px_d153 : px_cks prog_1_method_39_code 0 px_m153.2.2.2.2.2.1 = true := by decide +kernel
set_option maxRecDepth 100000 in
theorem px_d154 : px_cks prog_1_method_43_code 0 px_m154.2.2.2.2.2.1 = true := by decide +kernel
set_option maxRecDepth 100000 in
theorem px_d155 : px_cks prog_1_method_4_code 0 px_m155.2.2.2.2.2.1 = true := by decide +kernel
set_option maxRecDepth 100000 in
theorem px_d156 : px_cks prog_1_method_5_code 0 px_m156.2.2.2.2.2.1 = true := by decide +kernel
set_option maxRecDepth 100000 in
theorem px_d157 : px_cks prog_1_method_6_code 0 px_m157.2.2.2.2.2.1 = true := by decide +kernel
set_option maxRecDepth 100000 in
theorem px_d158 : px_cks prog_1_method_9_code 0 px_m158.2.2.2.2.2.1 = true := by decide +kernel
set_option maxRecDepth 100000 in
theorem px_d159 : px_cks prog_1_method_10_code 0 px_m159.2.2.2.2.2.1 = true := by decide +kernel
set_option maxRecDepth 100000 in
theorem px_d160 : px_cks prog_1_method_41_code 0 px_m160.2.2.2.2.2.1 = true := by decide +kernel
set_option maxRecDepth 100000 in
theorem px_d161 : px_cks prog_1_method_11_code 0 px_m161.2.2.2.2.2.1 = true := by decide +kernel
set_option maxRecDepth 100000 in
theorem px_d162 : px_cks prog_1_method_12_code 0 px_m162.2.2.2.2.2.1 = true := by decide +kernel
set_option maxRecDepth 100000 in
theorem px_d163 : px_cks prog_1_method_13_code 0 px_m163.2.2.2.2.2.1 = true := by decide +kernel
set_option maxRecDepth 100000 in
theorem px_d164 : px_cks prog_1_method_14_code 0 px_m164.2.2.2.2.2.1 = true := by decide +kernel
set_option maxRecDepth 100000 in
theorem px_d165 : px_cks prog_1_method_42_code 0 px_m165.2.2.2.2.2.1 = true := by decide +kernel
set_option maxRecDepth 100000 in
theorem px_d166 : px_cks prog_1_method_15_code 0 px_m166.2.2.2.2.2.1 = true := by decide +kernel
set_option maxRecDepth 100000 in
theorem px_d167 : px_cks prog_1_method_16_code 0 px_m167.2.2.2.2.2.1 = true := by decide +kernel
set_option maxRecDepth 100000 in
theorem px_d168 : px_cks prog_1_method_17_code 0 px_m168.2.2.2.2.2.1 = true := by decide +kernel
set_option maxRecDepth 100000 in
theorem px_d169 : px_cks prog_1_method_18_code 0 px_m169.2.2.2.2.2.1 = true := by decide +kernel
set_option maxRecDepth 100000 in
theorem px_d170 : px_cks prog_1_method_19_code 0 px_m170.2.2.2.2.2.1 = true := by decide +kernel
set_option maxRecDepth 100000 in
theorem px_d171 : px_cks prog_1_method_20_code 0 px_m171.2.2.2.2.2.1 = true := by decide +kernel
set_option maxRecDepth 100000 in
theorem px_d172 : px_cks prog_1_method_21_code 0 px_m172.2.2.2.2.2.1 = true := by decide +kernel
set_option maxRecDepth 100000 in
theorem px_d173 : px_cks prog_1_method_22_code 0 px_m173.2.2.2.2.2.1 = true := by decide +kernel
set_option maxRecDepth 100000 in
theorem px_d174 : px_cks prog_1_method_24_code 0 px_m174.2.2.2.2.2.1 = true := by decide +kernel
set_option maxRecDepth 100000 in
theorem px_d175 : px_cks prog_1_method_25_code 0 px_m175.2.2.2.2.2.1 = true := by decide +kernel
set_option maxRecDepth 100000 in
theorem px_d176 : px_cks prog_1_method_26_code 0 px_m176.2.2.2.2.2.1 = true := by decide +kernel
set_option maxRecDepth 100000 in
theorem px_d177 : px_cks prog_1_method_28_code 0 px_m177.2.2.2.2.2.1 = true := by decide +kernel
set_option maxRecDepth 100000 in
theorem px_d178 : px_cks prog_1_method_29_code 0 px_m178.2.2.2.2.2.1 = true := by decide +kernel
set_option maxRecDepth 100000 in
theorem px_d179 : px_cks prog_1_method_30_code 0 px_m179.2.2.2.2.2.1 = true := by decide +kernel
set_option maxRecDepth 100000 in
theorem px_d180 : px_cks prog_1_method_40_code 0 px_m180.2.2.2.2.2.1 = true := by decide +kernel
set_option maxRecDepth 100000 in
theorem px_d181 : px_cks prog_1_method_31_code 0 px_m181.2.2.2.2.2.1 = true := by decide +kernel
set_option maxRecDepth 100000 in
theorem px_d182 : px_cks prog_1_method_32_code 0 px_m182.2.2.2.2.2.1 = true := by decide +kernel
set_option maxRecDepth 100000 in
theorem px_d183 : px_cks prog_1_method_33_code 0 px_m183.2.2.2.2.2.1 = true := by decide +kernel
set_option maxRecDepth 100000 in
theorem px_d184 : px_cks prog_1_method_46_code 0 px_m184.2.2.2.2.2.1 = true := by decide +kernel
set_option maxRecDepth 100000 in
theorem px_d185 : px_cks prog_1_method_34_code 0 px_m185.2.2.2.2.2.1 = true := by decide +kernel
set_option maxRecDepth 100000 in
theorem px_d186 : px_cks prog_14_method_1_code 0 px_m186.2.2.2.2.2.1 = true := by decide +kernel
set_option maxRecDepth 100000 in
theorem px_d187_0 : px_ck prog_14_method_4_code (32 * 0) (px_m187.2.2.2.2.2.1.getD 0 []) = true := by decide +kernel
set_option maxRecDepth 100000 in
theorem px_d187_1 : px_ck prog_14_method_4_code (32 * 1) (px_m187.2.2.2.2.2.1.getD 1 []) = true := by decide +kernel
set_option maxRecDepth 100000 in
theorem px_d187_2 : px_ck prog_14_method_4_code (32 * 2) (px_m187.2.2.2.2.2.1.getD 2 []) = true := by decide +kernel
set_option maxRecDepth 100000 in
theorem px_d187_3 : px_ck prog_14_method_4_code (32 * 3) (px_m187.2.2.2.2.2.1.getD 3 []) = true := by decide +kernel
set_option maxRecDepth 100000 in
theorem px_d187_4 : px_ck prog_14_method_4_code (32 * 4) (px_m187.2.2.2.2.2.1.getD 4 []) = true := by decide +kernel
set_option maxRecDepth 100000 in
theorem px_d187_5 : px_ck prog_14_method_4_code (32 * 5) (px_m187.2.2.2.2.2.1.getD 5 []) = true := by decide +kernel
set_option maxRecDepth 100000 in
theorem px_d187_6 : px_ck prog_14_method_4_code (32 * 6) (px_m187.2.2.2.2.2.1.getD 6 []) = true := by decide +kernel
set_option maxRecDepth 100000 in
theorem px_d187_7 : px_ck prog_14_method_4_code (32 * 7) (px_m187.2.2.2.2.2.1.getD 7 []) = true := by decide +kernel
set_option maxRecDepth 100000 in
theorem px_d187_8 : px_ck prog_14_method_4_code (32 * 8) (px_m187.2.2.2.2.2.1.getD 8 []) = true := by decide +kernel
set_option maxRecDepth 100000 in
theorem px_d187_9 : px_ck prog_14_method_4_code (32 * 9) (px_m187.2.2.2.2.2.1.getD 9 []) = true := by decide +kernel
set_option maxRecDepth 100000 in
theorem px_d188 : px_cks prog_14_method_21_code 0 px_m188.2.2.2.2.2.1 = true := by decide +kernel
set_option maxRecDepth 100000 in
theorem px_d189_0 : px_ck prog_14_method_22_code (32 * 0) (px_m189.2.2.2.2.2.1.getD 0 []) = true := by decide +kernel
set_option maxRecDepth 100000 in
theorem px_d189_1 : px_ck prog_14_method_22_code (32 * 1) (px_m189.2.2.2.2.2.1.getD 1 []) = true := by decide +kernel
set_option maxRecDepth 100000 in
theorem px_d189_2 : px_ck prog_14_method_22_code (32 * 2) (px_m189.2.2.2.2.2.1.getD 2 []) = true := by decide +kernel
set_option maxRecDepth 100000 in
theorem px_d189_3 : px_ck prog_14_method_22_code (32 * 3) (px_m189.2.2.2.2.2.1.getD 3 []) = true := by decide +kernel
set_option maxRecDepth 100000 in
theorem px_d189_4 : px_ck prog_14_method_22_code (32 * 4) (px_m189.2.2.2.2.2.1.getD 4 []) = true := by decide +kernel
set_option maxRecDepth 100000 in
theorem px_d189_5 : px_ck prog_14_method_22_code (32 * 5) (px_m189.2.2.2.2.2.1.getD 5 []) = true := by decide +kernel
set_option maxRecDepth 100000 in
theorem px_d189_6 : px_ck prog_14_method_22_code (32 * 6) (px_m189.2.2.2.2.2.1.getD 6 []) = true := by decide +kernel
set_option maxRecDepth 100000 in
theorem px_d189_7 : px_ck prog_14_method_22_code (32 * 7) (px_m189.2.2.2.2.2.1.getD 7 []) = true := by decide +kernel
set_option maxRecDepth 100000 in
theorem px_d189_8 : px_ck prog_14_method_22_code (32 * 8) (px_m189.2.2.2.2.2.1.getD 8 []) = true := by decide +kernel
set_option maxRecDepth 100000 in
theorem px_d190 : px_cks prog_14_method_20_code 0 px_m190.2.2.2.2.2.1 = true := by decide +kernel
set_option maxRecDepth 100000 in
theorem px_d191 : px_cks prog_14_method_5_code 0 px_m191.2.2.2.2.2.1 = true := by decide +kernel
set_option maxRecDepth 100000 in
theorem px_d192 : px_cks prog_14_method_19_code 0 px_m192.2.2.2.2.2.1 = true := by decide +kernel
set_option maxRecDepth 100000 in
theorem px_d193 : px_cks prog_14_method_28_code 0 px_m193.2.2.2.2.2.1 = true := by decide +kernel
set_option maxRecDepth 100000 in
theorem px_d194 : px_cks prog_14_method_2_code 0 px_m194.2.2.2.2.2.1 = true := by decide +kernel
set_option maxRecDepth 100000 in
theorem px_d195 : px_cks prog_14_method_17_code 0 px_m195.2.2.2.2.2.1 = true := by decide +kernel
set_option maxRecDepth 100000 in
theorem px_d196 : px_cks prog_14_method_6_code 0 px_m196.2.2.2.2.2.1 = true := by decide +kernel
set_option maxRecDepth 100000 in
theorem px_d197 : px_cks prog_14_method_16_code 0 px_m197.2.2.2.2.2.1 = true := by decide +kernel
set_option maxRecDepth 100000 in
theorem px_d198 : px_cks prog_14_method_8_code 0 px_m198.2.2.2.2.2.1 = true := by decide +kernel
set_option maxRecDepth 100000 in
theorem px_d199 : px_cks prog_14_method_11_code 0 px_m199.2.2.2.2.2.1 = true := by decide +kernel
set_option maxRecDepth 100000 in
theorem px_d200 : px_cks prog_14_method_9_code 0 px_m200.2.2.2.2.2.1 = true := by decide +kernel
set_option maxRecDepth 100000 in
theorem px_d201 : px_cks prog_14_method_25_code 0 px_m201.2.2.2.2.2.1 = true := by decide +kernel
set_option maxRecDepth 100000 in
theorem px_d202 : px_cks prog_14_method_12_code 0 px_m202.2.2.2.2.2.1 = true := by decide +kernel
set_option maxRecDepth 100000 in
theorem px_d203 : px_cks prog_14_method_7_code 0 px_m203.2.2.2.2.2.1 = true := by decide +kernel
set_option maxRecDepth 100000 in
theorem px_d204 : px_cks prog_14_method_27_code 0 px_m204.2.2.2.2.2.1 = true := by decide +kernel
set_option maxRecDepth 100000 in
theorem px_d205 : px_cks prog_14_method_13_code 0 px_m205.2.2.2.2.2.1 = true := by decide +kernel
set_option maxRecDepth 100000 in
theorem px_d206 : px_cks prog_14_method_26_code 0 px_m206.2.2.2.2.2.1 = true := by decide +kernel
set_option maxRecDepth 100000 in
theorem px_d207 : px_cks prog_14_method_14_code 0 px_m207.2.2.2.2.2.1 = true := by decide +kernel
set_option maxRecDepth 100000 in
theorem px_d208 : px_cks prog_14_method_10_code 0 px_m208.2.2.2.2.2.1 = true := by decide +kernel
set_option maxRecDepth 100000 in
theorem px_d209 : px_cks prog_14_method_24_code 0 px_m209.2.2.2.2.2.1 = true := by decide +kernel
set_option maxRecDepth 100000 in
theorem px_d210 : px_cks prog_14_method_23_code 0 px_m210.2.2.2.2.2.1 = true := by decide +kernel
set_option maxRecDepth 100000 in
theorem px_d211 : px_cks prog_14_method_15_code 0 px_m211.2.2.2.2.2.1 = true := by decide +kernel
set_option maxRecDepth 100000 in
theorem px_d212 : px_cks prog_14_method_18_code 0 px_m212.2.2.2.2.2.1 = true := by decide +kernel
set_option maxRecDepth 100000 in
theorem px_d213 : px_cks prog_14_method_37_code 0 px_m213.2.2.2.2.2.1 = true := by decide +kernel
set_option maxRecDepth 100000 in
theorem px_d214 : px_cks prog_14_method_31_code 0 px_m214.2.2.2.2.2.1 = true := by decide +kernel
set_option maxRecDepth 100000 in
theorem px_d215 : px_cks prog_14_method_32_code 0 px_m215.2.2.2.2.2.1 = true := by decide +kernel
set_option maxRecDepth 100000 in
theorem px_d216 : px_cks prog_14_method_36_code 0 px_m216.2.2.2.2.2.1 = true := by decide +kernel
set_option maxRecDepth 100000 in
theorem px_d217 : px_cks prog_14_method_30_code 0 px_m217.2.2.2.2.2.1 = true := by decide +kernel
set_option maxRecDepth 100000 in
theorem px_d218 : px_cks prog_14_method_29_code 0 px_m218.2.2.2.2.2.1 = true := by decide +kernel
set_option maxRecDepth 100000 in
theorem px_d219 : px_cks prog_14_method_33_code 0 px_m219.2.2.2.2.2.1 = true := by decide +kernel
set_option maxRecDepth 100000 in
theorem px_d220 : px_cks prog_14_method_35_code 0 px_m220.2.2.2.2.2.1 = true := by decide +kernel
set_option maxRecDepth 100000 in
theorem px_d221 : px_cks prog_14_method_34_code 0 px_m221.2.2.2.2.2.1 = true := by decide +kernel
set_option maxRecDepth 100000 in
theorem px_d222 : px_cks prog_14_method_44_code 0 px_m222.2.2.2.2.2.1 = true := by decide +kernel
set_option maxRecDepth 100000 in
theorem px_d223_0 : px_ck prog_14_method_43_code (32 * 0) (px_m223.2.2.2.2.2.1.getD 0 []) = true := by decide +kernel
set_option maxRecDepth 100000 in
theorem px_d223_1 : px_ck prog_14_method_43_code (32 * 1) (px_m223.2.2.2.2.2.1.getD 1 []) = true := by decide +kernel
set_option maxRecDepth 100000 in
theorem px_d223_2 : px_ck prog_14_method_43_code (32 * 2) (px_m223.2.2.2.2.2.1.getD 2 []) = true := by decide +kernel
set_option maxRecDepth 100000 in
theorem px_d223_3 : px_ck prog_14_method_43_code (32 * 3) (px_m223.2.2.2.2.2.1.getD 3 []) = true := by decide +kernel
set_option maxRecDepth 100000 in
theorem px_d223_4 : px_ck prog_14_method_43_code (32 * 4) (px_m223.2.2.2.2.2.1.getD 4 []) = true := by decide +kernel
set_option maxRecDepth 100000 in
theorem px_d223_5 : px_ck prog_14_method_43_code (32 * 5) (px_m223.2.2.2.2.2.1.getD 5 []) = true := by decide +kernel
set_option maxRecDepth 100000 in
theorem px_d223_6 : px_ck prog_14_method_43_code (32 * 6) (px_m223.2.2.2.2.2.1.getD 6 []) = true := by decide +kernel
set_option maxRecDepth 100000 in
theorem px_d223_7 : px_ck prog_14_method_43_code (32 * 7) (px_m223.2.2.2.2.2.1.getD 7 []) = true := by decide +kernel
set_option maxRecDepth 100000 in
theorem px_d223_8 : px_ck prog_14_method_43_code (32 * 8) (px_m223.2.2.2.2.2.1.getD 8 []) = true := by decide +kernel
set_option maxRecDepth 100000 in
theorem px_d223_9 : px_ck prog_14_method_43_code (32 * 9) (px_m223.2.2.2.2.2.1.getD 9 []) = true := by decide +kernel
set_option maxRecDepth 100000 in
theorem px_d224 : px_cks prog_14_method_41_code 0 px_m224.2.2.2.2.2.1 = true := by decide +kernel
set_option maxRecDepth 100000 in
theorem px_d225 : px_cks prog_14_method_42_code 0 px_m225.2.2.2.2.2.1 = true := by decide +kernel
set_option maxRecDepth 100000 in
theorem px_d226 : px_cks prog_14_method_46_code 0 px_m226.2.2.2.2.2.1 = true := by decide +kernel
set_option maxRecDepth 100000 in
theorem px_d227 : px_cks prog_14_method_45_code 0 px_m227.2.2.2.2.2.1 = true := by decide +kernel
set_option maxRecDepth 100000 in
theorem px_d228 : px_cks prog_14_method_59_code 0 px_m228.2.2.2.2.2.1 = true := by decide +kernel
set_option maxRecDepth 100000 in
theorem px_d229 : px_cks prog_14_method_55_code 0 px_m229.2.2.2.2.2.1 = true := by decide +kernel
