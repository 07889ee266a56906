/-! DECODING, OF ALL METHODS (written by wip/whole/gen/meth.py) -/
theorem px_ck_get {by0 : ByteArray} {i : Instr} {len : Nat} : ∀ (ch : List (Option (Instr × Nat))) (pc j : Nat), px_ck by0 pc ch = true → ch.getD j none = some (i, len) → decode by0 (pc + j) = .ok (i, len) ∧ px_good (pc + j) i len = true
  | [], pc, j, _, h => by simp at h
  | none :: r, pc, 0, _, h => by simp at h
  | none :: r, pc, j + 1, hc, h => by
    have q := px_ck_get r (pc + 1) j hc (by simpa using h)
    rw [show pc + (j + 1) = pc + 1 + j by omega]
    exact q
  | some (a, b) :: r, pc, 0, hc, h => by
    unfold px_ck at hc
    rw [Bool.and_eq_true, Bool.and_eq_true, decide_eq_true_eq] at hc
    simp at h
    obtain ⟨rfl, rfl⟩ := h
    exact hc.1
  | some (a, b) :: r, pc, j + 1, hc, h => by
    unfold px_ck at hc
    rw [Bool.and_eq_true] at hc
    have q := px_ck_get r (pc + 1) j hc.2 (by simpa using h)
    rw [show pc + (j + 1) = pc + 1 + j by omega]
    exact q
theorem px_cks_get {by0 : ByteArray} : ∀ (code : List (List (Option (Instr × Nat)))) (k a : Nat), px_cks by0 k code = true → px_ck by0 (32 * (k + a)) (code.getD a []) = true
  | [], k, a, _ => by simp [px_ck]
  | ch :: r, k, 0, h => by
    unfold px_cks at h
    rw [Bool.and_eq_true] at h
    simpa using h.1
  | ch :: r, k, a + 1, h => by
    unfold px_cks at h
    rw [Bool.and_eq_true] at h
    have q := px_cks_get r (k + 1) a h.2
    rw [show k + (a + 1) = k + 1 + a by omega]
    simpa using q
def px_DP (M : px_M) (by0 : ByteArray) : Prop := ∀ (pc : Nat) (i : Instr) (len : Nat), px_ins M pc = some (i, len) → decode by0 pc = .ok (i, len) ∧ px_good pc i len = true
theorem px_dp_of {M : px_M} {by0 : ByteArray} (h : ∀ a, px_ck by0 (32 * a) (M.2.2.2.2.2.1.getD a []) = true) : px_DP M by0 := by
  intro pc i len hi
  unfold px_ins at hi
  have q := px_ck_get _ _ _ (h (pc / 32)) hi
  rw [show 32 * (pc / 32) + pc % 32 = pc by omega] at q
  exact q
theorem px_dp_ofs {M : px_M} {by0 : ByteArray} (h : px_cks by0 0 M.2.2.2.2.2.1 = true) : px_DP M by0 := px_dp_of (fun a => by
  have q := px_cks_get _ 0 a h
  rwa [Nat.zero_add] at q)
def px_DQ (k : Nat) : Prop := px_DP (px_prog k) (px_by k)
theorem px_dq0 : px_DQ 0 := px_dp_ofs (M := px_m0) px_d0
theorem px_dq1 : px_DQ 1 := px_dp_ofs (M := px_m1) px_d1
theorem px_dq2 : px_DQ 2 := px_dp_ofs (M := px_m2) px_d2
theorem px_dq3 : px_DQ 3 := px_dp_ofs (M := px_m3) px_d3
theorem px_dq4 : px_DQ 4 := px_dp_ofs (M := px_m4) px_d4
theorem px_dq5 : px_DQ 5 := px_dp_ofs (M := px_m5) px_d5
theorem px_dq6 : px_DQ 6 := px_dp_ofs (M := px_m6) px_d6
theorem px_dq7 : px_DQ 7 := px_dp_ofs (M := px_m7) px_d7
theorem px_dq8 : px_DQ 8 := px_dp_ofs (M := px_m8) px_d8
theorem px_dq9 : px_DQ 9 := px_dp_ofs (M := px_m9) px_d9
theorem px_dq10 : px_DQ 10 := px_dp_ofs (M := px_m10) px_d10
theorem px_dq11 : px_DQ 11 := px_dp_ofs (M := px_m11) px_d11
theorem px_dq12 : px_DQ 12 := px_dp_ofs (M := px_m12) px_d12
theorem px_dq13 : px_DQ 13 := px_dp_ofs (M := px_m13) px_d13
theorem px_dq14 : px_DQ 14 := px_dp_ofs (M := px_m14) px_d14
theorem px_dq15 : px_DQ 15 := px_dp_ofs (M := px_m15) px_d15
theorem px_dq16 : px_DQ 16 := px_dp_ofs (M := px_m16) px_d16
theorem px_dq17 : px_DQ 17 := px_dp_ofs (M := px_m17) px_d17
theorem px_dq18 : px_DQ 18 := px_dp_ofs (M := px_m18) px_d18
theorem px_dq19 : px_DQ 19 := px_dp_ofs (M := px_m19) px_d19
theorem px_dq20 : px_DQ 20 := px_dp_ofs (M := px_m20) px_d20
theorem px_dq21 : px_DQ 21 := px_dp_ofs (M := px_m21) px_d21
theorem px_dq22 : px_DQ 22 := px_dp_ofs (M := px_m22) px_d22
theorem px_dq23 : px_DQ 23 := px_dp_ofs (M := px_m23) px_d23
theorem px_dq24 : px_DQ 24 := px_dp_ofs (M := px_m24) px_d24
theorem px_dq25 : px_DQ 25 := px_dp_ofs (M := px_m25) px_d25
theorem px_dq26 : px_DQ 26 := px_dp_ofs (M := px_m26) px_d26
theorem px_dq27 : px_DQ 27 := px_dp_ofs (M := px_m27) px_d27
theorem px_dq28 : px_DQ 28 := px_dp_ofs (M := px_m28) px_d28
theorem px_dq29 : px_DQ 29 := px_dp_ofs (M := px_m29) px_d29
theorem px_dq30 : px_DQ 30 := px_dp_ofs (M := px_m30) px_d30
theorem px_dq31 : px_DQ 31 := px_dp_ofs (M := px_m31) px_d31
theorem px_dq32 : px_DQ 32 := px_dp_ofs (M := px_m32) px_d32
theorem px_dq33 : px_DQ 33 := px_dp_ofs (M := px_m33) px_d33
theorem px_dq34 : px_DQ 34 := px_dp_ofs (M := px_m34) px_d34
theorem px_dq35 : px_DQ 35 := px_dp_ofs (M := px_m35) px_d35
theorem px_dq36 : px_DQ 36 := px_dp_ofs (M := px_m36) px_d36
theorem px_dq37 : px_DQ 37 := px_dp_ofs (M := px_m37) px_d37
theorem px_dq38 : px_DQ 38 := px_dp_ofs (M := px_m38) px_d38
theorem px_dq39 : px_DQ 39 := px_dp_ofs (M := px_m39) px_d39
theorem px_dq40 : px_DQ 40 := px_dp_ofs (M := px_m40) px_d40
theorem px_dq41 : px_DQ 41 := px_dp_ofs (M := px_m41) px_d41
theorem px_dq42 : px_DQ 42 := px_dp_ofs (M := px_m42) px_d42
theorem px_dq43 : px_DQ 43 := px_dp_ofs (M := px_m43) px_d43
theorem px_dq44 : px_DQ 44 := px_dp_ofs (M := px_m44) px_d44
theorem px_dq45 : px_DQ 45 := px_dp_ofs (M := px_m45) px_d45
theorem px_dq46 : px_DQ 46 := px_dp_ofs (M := px_m46) px_d46
theorem px_dq47 : px_DQ 47 := px_dp_ofs (M := px_m47) px_d47
theorem px_dq48 : px_DQ 48 := px_dp_ofs (M := px_m48) px_d48
theorem px_dq49 : px_DQ 49 := px_dp_ofs (M := px_m49) px_d49
theorem px_dq50 : px_DQ 50 := px_dp_ofs (M := px_m50) px_d50
theorem px_dq51 : px_DQ 51 := px_dp_ofs (M := px_m51) px_d51
theorem px_dq52 : px_DQ 52 := px_dp_ofs (M := px_m52) px_d52
theorem px_dq53 : px_DQ 53 := px_dp_ofs (M := px_m53) px_d53
theorem px_dq54 : px_DQ 54 := px_dp_ofs (M := px_m54) px_d54
theorem px_dq55 : px_DQ 55 := px_dp_ofs (M := px_m55) px_d55
theorem px_dq56 : px_DQ 56 := px_dp_ofs (M := px_m56) px_d56
theorem px_dq57 : px_DQ 57 := px_dp_ofs (M := px_m57) px_d57
theorem px_dq58 : px_DQ 58 := px_dp_ofs (M := px_m58) px_d58
theorem px_dq59 : px_DQ 59 := px_dp_ofs (M := px_m59) px_d59
theorem px_dq60 : px_DQ 60 := px_dp_ofs (M := px_m60) px_d60
theorem px_dq61 : px_DQ 61 := px_dp_ofs (M := px_m61) px_d61
theorem px_dq62 : px_DQ 62 := px_dp_ofs (M := px_m62) px_d62
theorem px_dq63 : px_DQ 63 := px_dp_ofs (M := px_m63) px_d63
theorem px_dq64 : px_DQ 64 := px_dp_ofs (M := px_m64) px_d64
theorem px_dq65 : px_DQ 65 := px_dp_ofs (M := px_m65) px_d65
theorem px_dq66 : px_DQ 66 := px_dp_ofs (M := px_m66) px_d66
theorem px_dq67 : px_DQ 67 := px_dp_ofs (M := px_m67) px_d67
theorem px_dq68 : px_DQ 68 := px_dp_ofs (M := px_m68) px_d68
theorem px_dq69 : px_DQ 69 := px_dp_ofs (M := px_m69) px_d69
theorem px_dq70 : px_DQ 70 := px_dp_ofs (M := px_m70) px_d70
theorem px_dq71 : px_DQ 71 := px_dp_ofs (M := px_m71) px_d71
theorem px_dq72 : px_DQ 72 := px_dp_ofs (M := px_m72) px_d72
theorem px_dq73 : px_DQ 73 := px_dp_ofs (M := px_m73) px_d73
theorem px_dq74 : px_DQ 74 := px_dp_ofs (M := px_m74) px_d74
theorem px_dq75 : px_DQ 75 := px_dp_ofs (M := px_m75) px_d75
theorem px_dq76 : px_DQ 76 := px_dp_ofs (M := px_m76) px_d76
theorem px_dq77 : px_DQ 77 := px_dp_ofs (M := px_m77) px_d77
theorem px_dq78 : px_DQ 78 := px_dp_ofs (M := px_m78) px_d78
theorem px_dq79 : px_DQ 79 := px_dp_ofs (M := px_m79) px_d79
theorem px_dq80 : px_DQ 80 := px_dp_ofs (M := px_m80) px_d80
theorem px_dq81 : px_DQ 81 := px_dp_ofs (M := px_m81) px_d81
theorem px_dq82 : px_DQ 82 := px_dp_ofs (M := px_m82) px_d82
theorem px_dq83 : px_DQ 83 := px_dp_ofs (M := px_m83) px_d83
theorem px_dq84 : px_DQ 84 := px_dp_ofs (M := px_m84) px_d84
theorem px_dq85 : px_DQ 85 := px_dp_ofs (M := px_m85) px_d85
theorem px_dq86 : px_DQ 86 := px_dp_ofs (M := px_m86) px_d86
theorem px_dq87 : px_DQ 87 := px_dp_ofs (M := px_m87) px_d87
theorem px_dq88 : px_DQ 88 := px_dp_ofs (M := px_m88) px_d88
theorem px_dq89 : px_DQ 89 := px_dp_ofs (M := px_m89) px_d89
theorem px_dq90 : px_DQ 90 := px_dp_ofs (M := px_m90) px_d90
theorem px_dq91 : px_DQ 91 := px_dp_ofs (M := px_m91) px_d91
theorem px_dq92 : px_DQ 92 := px_dp_ofs (M := px_m92) px_d92
theorem px_dq93 : px_DQ 93 := px_dp_ofs (M := px_m93) px_d93
theorem px_dq94 : px_DQ 94 := px_dp_ofs (M := px_m94) px_d94
theorem px_dq95 : px_DQ 95 := px_dp_ofs (M := px_m95) px_d95
theorem px_dq96 : px_DQ 96 := px_dp_ofs (M := px_m96) px_d96
theorem px_dq97 : px_DQ 97 := px_dp_ofs (M := px_m97) px_d97
theorem px_dq98 : px_DQ 98 := px_dp_ofs (M := px_m98) px_d98
theorem px_dq99 : px_DQ 99 := px_dp_ofs (M := px_m99) px_d99
theorem px_dq100 : px_DQ 100 := px_dp_ofs (M := px_m100) px_d100
theorem px_dq101 : px_DQ 101 := px_dp_ofs (M := px_m101) px_d101
theorem px_dq102 : px_DQ 102 := px_dp_ofs (M := px_m102) px_d102
theorem px_dq103 : px_DQ 103 := px_dp_ofs (M := px_m103) px_d103
theorem px_dq104 : px_DQ 104 := px_dp_ofs (M := px_m104) px_d104
theorem px_dq105 : px_DQ 105 := px_dp_ofs (M := px_m105) px_d105
theorem px_dq106 : px_DQ 106 := px_dp_ofs (M := px_m106) px_d106
theorem px_dq107 : px_DQ 107 := px_dp_ofs (M := px_m107) px_d107
theorem px_dq108 : px_DQ 108 := px_dp_ofs (M := px_m108) px_d108
theorem px_dq109 : px_DQ 109 := px_dp_ofs (M := px_m109) px_d109
theorem px_dq110 : px_DQ 110 := px_dp_ofs (M := px_m110) px_d110
theorem px_dq111 : px_DQ 111 := px_dp_ofs (M := px_m111) px_d111
theorem px_dq112 : px_DQ 112 := px_dp_ofs (M := px_m112) px_d112
theorem px_dq113 : px_DQ 113 := px_dp_ofs (M := px_m113) px_d113
theorem px_dq114 : px_DQ 114 := px_dp_ofs (M := px_m114) px_d114
theorem px_dq115 : px_DQ 115 := px_dp_ofs (M := px_m115) px_d115
theorem px_dq116 : px_DQ 116 := px_dp_ofs (M := px_m116) px_d116
theorem px_dq117 : px_DQ 117 := px_dp_ofs (M := px_m117) px_d117
theorem px_dq118 : px_DQ 118 := px_dp_ofs (M := px_m118) px_d118
theorem px_dq119 : px_DQ 119 := px_dp_ofs (M := px_m119) px_d119
theorem px_dq120 : px_DQ 120 := px_dp_ofs (M := px_m120) px_d120
theorem px_dq121 : px_DQ 121 := px_dp_ofs (M := px_m121) px_d121
theorem px_dq122 : px_DQ 122 := px_dp_ofs (M := px_m122) px_d122
theorem px_dq123 : px_DQ 123 := px_dp_ofs (M := px_m123) px_d123
theorem px_dq124 : px_DQ 124 := px_dp_ofs (M := px_m124) px_d124
theorem px_dq125 : px_DQ 125 := px_dp_ofs (M := px_m125) px_d125
theorem px_dq126 : px_DQ 126 := px_dp_ofs (M := px_m126) px_d126
theorem px_dq127 : px_DQ 127 := px_dp_ofs (M := px_m127) px_d127
theorem px_dq128 : px_DQ 128 := px_dp_ofs (M := px_m128) px_d128
theorem px_dq129 : px_DQ 129 := px_dp_ofs (M := px_m129) px_d129
theorem px_dq130 : px_DQ 130 := px_dp_ofs (M := px_m130) px_d130
theorem px_dq131 : px_DQ 131 := px_dp_ofs (M := px_m131) px_d131
theorem px_dq132 : px_DQ 132 := px_dp_ofs (M := px_m132) px_d132
theorem px_dq133 : px_DQ 133 := px_dp_ofs (M := px_m133) px_d133
theorem px_dq134 : px_DQ 134 := px_dp_ofs (M := px_m134) px_d134
theorem px_dq135 : px_DQ 135 := px_dp_ofs (M := px_m135) px_d135
theorem px_dq136 : px_DQ 136 := px_dp_ofs (M := px_m136) px_d136
theorem px_dq137 : px_DQ 137 := px_dp_ofs (M := px_m137) px_d137
theorem px_dq138 : px_DQ 138 := px_dp_ofs (M := px_m138) px_d138
theorem px_dq139 : px_DQ 139 := px_dp_ofs (M := px_m139) px_d139
theorem px_dq140 : px_DQ 140 := px_dp_ofs (M := px_m140) px_d140
theorem px_dq141 : px_DQ 141 := px_dp_ofs (M := px_m141) px_d141
theorem px_dq142 : px_DQ 142 := px_dp_ofs (M := px_m142) px_d142
theorem px_dq143 : px_DQ 143 := px_dp_ofs (M := px_m143) px_d143
theorem px_dq144 : px_DQ 144 := px_dp_ofs (M := px_m144) px_d144
theorem px_dq145 : px_DQ 145 := px_dp_ofs (M := px_m145) px_d145
theorem px_dq146 : px_DQ 146 := px_dp_ofs (M := px_m146) px_d146
theorem px_dq147 : px_DQ 147 := px_dp_ofs (M := px_m147) px_d147
theorem px_dq148 : px_DQ 148 := px_dp_ofs (M := px_m148) px_d148
theorem px_dq149 : px_DQ 149 := px_dp_ofs (M := px_m149) px_d149
theorem px_dq150 : px_DQ 150 := px_dp_ofs (M := px_m150) px_d150
theorem px_dq151 : px_DQ 151 := px_dp_ofs (M := px_m151) px_d151
theorem px_dq152 : px_DQ 152 := px_dp_ofs (M := px_m152) px_d152
theorem px_dq153 : px_DQ 153 := px_dp_ofs (M := px_m153) px_d153
theorem px_dq154 : px_DQ 154 := px_dp_ofs (M := px_m154) px_d154
theorem px_dq155 : px_DQ 155 := px_dp_ofs (M := px_m155) px_d155
theorem px_dq156 : px_DQ 156 := px_dp_ofs (M := px_m156) px_d156
theorem px_dq157 : px_DQ 157 := px_dp_ofs (M := px_m157) px_d157
theorem px_dq158 : px_DQ 158 := px_dp_ofs (M := px_m158) px_d158
theorem px_dq159 : px_DQ 159 := px_dp_ofs (M := px_m159) px_d159
theorem px_dq160 : px_DQ 160 := px_dp_ofs (M := px_m160) px_d160
theorem px_dq161 : px_DQ 161 := px_dp_ofs (M := px_m161) px_d161
theorem px_dq162 : px_DQ 162 := px_dp_ofs (M := px_m162) px_d162
theorem px_dq163 : px_DQ 163 := px_dp_ofs (M := px_m163) px_d163
theorem px_dq164 : px_DQ 164 := px_dp_ofs (M := px_m164) px_d164
theorem px_dq165 : px_DQ 165 := px_dp_ofs (M := px_m165) px_d165
theorem px_dq166 : px_DQ 166 := px_dp_ofs (M := px_m166) px_d166
theorem px_dq167 : px_DQ 167 := px_dp_ofs (M := px_m167) px_d167
theorem px_dq168 : px_DQ 168 := px_dp_ofs (M := px_m168) px_d168
theorem px_dq169 : px_DQ 169 := px_dp_ofs (M := px_m169) px_d169
theorem px_dq170 : px_DQ 170 := px_dp_ofs (M := px_m170) px_d170
theorem px_dq171 : px_DQ 171 := px_dp_ofs (M := px_m171) px_d171
theorem px_dq172 : px_DQ 172 := px_dp_ofs (M := px_m172) px_d172
theorem px_dq173 : px_DQ 173 := px_dp_ofs (M := px_m173) px_d173
theorem px_dq174 : px_DQ 174 := px_dp_ofs (M := px_m174) px_d174
theorem px_dq175 : px_DQ 175 := px_dp_ofs (M := px_m175) px_d175
theorem px_dq176 : px_DQ 176 := px_dp_ofs (M := px_m176) px_d176
theorem px_dq177 : px_DQ 177 := px_dp_ofs (M := px_m177) px_d177
theorem px_dq178 : px_DQ 178 := px_dp_ofs (M := px_m178) px_d178
theorem px_dq179 : px_DQ 179 := px_dp_ofs (M := px_m179) px_d179
theorem px_dq180 : px_DQ 180 := px_dp_ofs (M := px_m180) px_d180
theorem px_dq181 : px_DQ 181 := px_dp_ofs (M := px_m181) px_d181
theorem px_dq182 : px_DQ 182 := px_dp_ofs (M := px_m182) px_d182
theorem px_dq183 : px_DQ 183 := px_dp_ofs (M := px_m183) px_d183
theorem px_dq184 : px_DQ 184 := px_dp_ofs (M := px_m184) px_d184
theorem px_dq185 : px_DQ 185 := px_dp_ofs (M := px_m185) px_d185
theorem px_dq186 : px_DQ 186 := px_dp_ofs (M := px_m186) px_d186
set_option maxRecDepth 10000 in
theorem px_dq187 : px_DQ 187 := px_dp_of (M := px_m187) (fun a => by
  rcases Nat.lt_or_ge a 10 with h | h
  · revert a
    exact (lt_s (lt_s (lt_s (lt_s (lt_s (lt_s (lt_s (lt_s (lt_s (lt_s lt_0 px_d187_0) px_d187_1) px_d187_2) px_d187_3) px_d187_4) px_d187_5) px_d187_6) px_d187_7) px_d187_8) px_d187_9)
  · rw [List.getD_eq_getElem?_getD, List.getElem?_eq_none (show px_m187.2.2.2.2.2.1.length ≤ a from h)]
    rfl)
theorem px_dq188 : px_DQ 188 := px_dp_ofs (M := px_m188) px_d188
set_option maxRecDepth 10000 in
theorem px_dq189 : px_DQ 189 := px_dp_of (M := px_m189) (fun a => by
  rcases Nat.lt_or_ge a 9 with h | h
  · revert a
    exact (lt_s (lt_s (lt_s (lt_s (lt_s (lt_s (lt_s (lt_s (lt_s lt_0 px_d189_0) px_d189_1) px_d189_2) px_d189_3) px_d189_4) px_d189_5) px_d189_6) px_d189_7) px_d189_8)
  · rw [List.getD_eq_getElem?_getD, List.getElem?_eq_none (show px_m189.2.2.2.2.2.1.length ≤ a from h)]
    rfl)
theorem px_dq190 : px_DQ 190 := px_dp_ofs (M := px_m190) px_d190
theorem px_dq191 : px_DQ 191 := px_dp_ofs (M := px_m191) px_d191
theorem px_dq192 : px_DQ 192 := px_dp_ofs (M := px_m192) px_d192
theorem px_dq193 : px_DQ 193 := px_dp_ofs (M := px_m193) px_d193
theorem px_dq194 : px_DQ 194 := px_dp_ofs (M := px_m194) px_d194
theorem px_dq195 : px_DQ 195 := px_dp_ofs (M := px_m195) px_d195
theorem px_dq196 : px_DQ 196 := px_dp_ofs (M := px_m196) px_d196
theorem px_dq197 : px_DQ 197 := px_dp_ofs (M := px_m197) px_d197
theorem px_dq198 : px_DQ 198 := px_dp_ofs (M := px_m198) px_d198
theorem px_dq199 : px_DQ 199 := px_dp_ofs (M := px_m199) px_d199
theorem px_dq200 : px_DQ 200 := px_dp_ofs (M := px_m200) px_d200
theorem px_dq201 : px_DQ 201 := px_dp_ofs (M := px_m201) px_d201
theorem px_dq202 : px_DQ 202 := px_dp_ofs (M := px_m202) px_d202
theorem px_dq203 : px_DQ 203 := px_dp_ofs (M := px_m203) px_d203
theorem px_dq204 : px_DQ 204 := px_dp_ofs (M := px_m204) px_d204
theorem px_dq205 : px_DQ 205 := px_dp_ofs (M := px_m205) px_d205
theorem px_dq206 : px_DQ 206 := px_dp_ofs (M := px_m206) px_d206
theorem px_dq207 : px_DQ 207 := px_dp_ofs (M := px_m207) px_d207
theorem px_dq208 : px_DQ 208 := px_dp_ofs (M := px_m208) px_d208
theorem px_dq209 : px_DQ 209 := px_dp_ofs (M := px_m209) px_d209
theorem px_dq210 : px_DQ 210 := px_dp_ofs (M := px_m210) px_d210
theorem px_dq211 : px_DQ 211 := px_dp_ofs (M := px_m211) px_d211
theorem px_dq212 : px_DQ 212 := px_dp_ofs (M := px_m212) px_d212
theorem px_dq213 : px_DQ 213 := px_dp_ofs (M := px_m213) px_d213
theorem px_dq214 : px_DQ 214 := px_dp_ofs (M := px_m214) px_d214
theorem px_dq215 : px_DQ 215 := px_dp_ofs (M := px_m215) px_d215
theorem px_dq216 : px_DQ 216 := px_dp_ofs (M := px_m216) px_d216
theorem px_dq217 : px_DQ 217 := px_dp_ofs (M := px_m217) px_d217
theorem px_dq218 : px_DQ 218 := px_dp_ofs (M := px_m218) px_d218
theorem px_dq219 : px_DQ 219 := px_dp_ofs (M := px_m219) px_d219
theorem px_dq220 : px_DQ 220 := px_dp_ofs (M := px_m220) px_d220
theorem px_dq221 : px_DQ 221 := px_dp_ofs (M := px_m221) px_d221
theorem px_dq222 : px_DQ 222 := px_dp_ofs (M := px_m222) px_d222
set_option maxRecDepth 10000 in
theorem px_dq223 : px_DQ 223 := px_dp_of (M := px_m223) (fun a => by
  rcases Nat.lt_or_ge a 10 with h | h
  · revert a
    exact (lt_s (lt_s (lt_s (lt_s (lt_s (lt_s (lt_s (lt_s (lt_s (lt_s lt_0 px_d223_0) px_d223_1) px_d223_2) px_d223_3) px_d223_4) px_d223_5) px_d223_6) px_d223_7) px_d223_8) px_d223_9)
  · rw [List.getD_eq_getElem?_getD, List.getElem?_eq_none (show px_m223.2.2.2.2.2.1.length ≤ a from h)]
    rfl)
theorem px_dq224 : px_DQ 224 := px_dp_ofs (M := px_m224) px_d224
theorem px_dq225 : px_DQ 225 := px_dp_ofs (M := px_m225) px_d225
theorem px_dq226 : px_DQ 226 := px_dp_ofs (M := px_m226) px_d226
theorem px_dq227 : px_DQ 227 := px_dp_ofs (M := px_m227) px_d227
theorem px_dq228 : px_DQ 228 := px_dp_ofs (M := px_m228) px_d228
theorem px_dq229 : px_DQ 229 := px_dp_ofs (M := px_m229) px_d229
theorem px_dq230 : px_DQ 230 := px_dp_ofs (M := px_m230) px_d230
theorem px_dq231 : px_DQ 231 := px_dp_ofs (M := px_m231) px_d231
theorem px_dq232 : px_DQ 232 := px_dp_ofs (M := px_m232) px_d232
theorem px_dq233 : px_DQ 233 := px_dp_ofs (M := px_m233) px_d233
theorem px_dq234 : px_DQ 234 := px_dp_ofs (M := px_m234) px_d234
theorem px_dq235 : px_DQ 235 := px_dp_ofs (M := px_m235) px_d235
theorem px_dq236 : px_DQ 236 := px_dp_ofs (M := px_m236) px_d236
theorem px_dq237 : px_DQ 237 := px_dp_ofs (M := px_m237) px_d237
theorem px_dq238 : px_DQ 238 := px_dp_ofs (M := px_m238) px_d238
theorem px_dq239 : px_DQ 239 := px_dp_ofs (M := px_m239) px_d239
theorem px_dq240 : px_DQ 240 := px_dp_ofs (M := px_m240) px_d240
theorem px_dq241 : px_DQ 241 := px_dp_ofs (M := px_m241) px_d241
theorem px_dq242 : px_DQ 242 := px_dp_ofs (M := px_m242) px_d242
theorem px_dq243 : px_DQ 243 := px_dp_ofs (M := px_m243) px_d243
theorem px_dq244 : px_DQ 244 := px_dp_ofs (M := px_m244) px_d244
theorem px_dq245 : px_DQ 245 := px_dp_ofs (M := px_m245) px_d245
theorem px_dq246 : px_DQ 246 := px_dp_ofs (M := px_m246) px_d246
theorem px_dq247 : px_DQ 247 := px_dp_ofs (M := px_m247) px_d247
theorem px_dq248 : px_DQ 248 := px_dp_ofs (M := px_m248) px_d248
theorem px_dq249 : px_DQ 249 := px_dp_ofs (M := px_m249) px_d249
theorem px_dq250 : px_DQ 250 := px_dp_ofs (M := px_m250) px_d250
theorem px_dq251 : px_DQ 251 := px_dp_ofs (M := px_m251) px_d251
theorem px_dq252 : px_DQ 252 := px_dp_ofs (M := px_m252) px_d252
theorem px_dq253 : px_DQ 253 := px_dp_ofs (M := px_m253) px_d253
theorem px_dq254 : px_DQ 254 := px_dp_ofs (M := px_m254) px_d254
theorem px_dq255 : px_DQ 255 := px_dp_ofs (M := px_m255) px_d255
theorem px_dq256 : px_DQ 256 := px_dp_ofs (M := px_m256) px_d256
theorem px_dq257 : px_DQ 257 := px_dp_ofs (M := px_m257) px_d257
theorem px_dq258 : px_DQ 258 := px_dp_ofs (M := px_m258) px_d258
theorem px_dq259 : px_DQ 259 := px_dp_ofs (M := px_m259) px_d259
theorem px_dq260 : px_DQ 260 := px_dp_ofs (M := px_m260) px_d260
theorem px_dq261 : px_DQ 261 := px_dp_ofs (M := px_m261) px_d261
theorem px_dq262 : px_DQ 262 := px_dp_ofs (M := px_m262) px_d262
theorem px_dq263 : px_DQ 263 := px_dp_ofs (M := px_m263) px_d263
theorem px_dq264 : px_DQ 264 := px_dp_ofs (M := px_m264) px_d264
theorem px_dq265 : px_DQ 265 := px_dp_ofs (M := px_m265) px_d265
theorem px_dq266 : px_DQ 266 := px_dp_ofs (M := px_m266) px_d266
theorem px_dq267 : px_DQ 267 := px_dp_ofs (M := px_m267) px_d267
theorem px_dq268 : px_DQ 268 := px_dp_ofs (M := px_m268) px_d268
theorem px_dq269 : px_DQ 269 := px_dp_ofs (M := px_m269) px_d269
theorem px_dq270 : px_DQ 270 := px_dp_ofs (M := px_m270) px_d270
theorem px_dq271 : px_DQ 271 := px_dp_ofs (M := px_m271) px_d271
theorem px_dq272 : px_DQ 272 := px_dp_ofs (M := px_m272) px_d272
theorem px_dq273 : px_DQ 273 := px_dp_ofs (M := px_m273) px_d273
theorem px_dq274 : px_DQ 274 := px_dp_ofs (M := px_m274) px_d274
theorem px_dq275 : px_DQ 275 := px_dp_ofs (M := px_m275) px_d275
theorem px_dq276 : px_DQ 276 := px_dp_ofs (M := px_m276) px_d276
theorem px_dq277 : px_DQ 277 := px_dp_ofs (M := px_m277) px_d277
theorem px_dq278 : px_DQ 278 := px_dp_ofs (M := px_m278) px_d278
theorem px_dq279 : px_DQ 279 := px_dp_ofs (M := px_m279) px_d279
theorem px_dq280 : px_DQ 280 := px_dp_ofs (M := px_m280) px_d280
theorem px_dq281 : px_DQ 281 := px_dp_ofs (M := px_m281) px_d281
theorem px_dq282 : px_DQ 282 := px_dp_ofs (M := px_m282) px_d282
theorem px_dq283 : px_DQ 283 := px_dp_ofs (M := px_m283) px_d283
theorem px_dq284 : px_DQ 284 := px_dp_ofs (M := px_m284) px_d284
set_option maxRecDepth 10000 in
theorem px_dq285 : px_DQ 285 := px_dp_of (M := px_m285) (fun a => by
  rcases Nat.lt_or_ge a 12 with h | h
  · revert a
    exact (lt_s (lt_s (lt_s (lt_s (lt_s (lt_s (lt_s (lt_s (lt_s (lt_s (lt_s (lt_s lt_0 px_d285_0) px_d285_1) px_d285_2) px_d285_3) px_d285_4) px_d285_5) px_d285_6) px_d285_7) px_d285_8) px_d285_9) px_d285_10) px_d285_11)
  · rw [List.getD_eq_getElem?_getD, List.getElem?_eq_none (show px_m285.2.2.2.2.2.1.length ≤ a from h)]
    rfl)
theorem px_dq286 : px_DQ 286 := px_dp_ofs (M := px_m286) px_d286
theorem px_dq287 : px_DQ 287 := px_dp_ofs (M := px_m287) px_d287
theorem px_dq288 : px_DQ 288 := px_dp_ofs (M := px_m288) px_d288
theorem px_dq289 : px_DQ 289 := px_dp_ofs (M := px_m289) px_d289
theorem px_dq290 : px_DQ 290 := px_dp_ofs (M := px_m290) px_d290
set_option maxRecDepth 10000 in
theorem px_dq291 : px_DQ 291 := px_dp_of (M := px_m291) (fun a => by
  rcases Nat.lt_or_ge a 9 with h | h
  · revert a
    exact (lt_s (lt_s (lt_s (lt_s (lt_s (lt_s (lt_s (lt_s (lt_s lt_0 px_d291_0) px_d291_1) px_d291_2) px_d291_3) px_d291_4) px_d291_5) px_d291_6) px_d291_7) px_d291_8)
  · rw [List.getD_eq_getElem?_getD, List.getElem?_eq_none (show px_m291.2.2.2.2.2.1.length ≤ a from h)]
    rfl)
theorem px_dq292 : px_DQ 292 := px_dp_ofs (M := px_m292) px_d292
theorem px_dq293 : px_DQ 293 := px_dp_ofs (M := px_m293) px_d293
theorem px_dq294 : px_DQ 294 := px_dp_ofs (M := px_m294) px_d294
theorem px_dq295 : px_DQ 295 := px_dp_ofs (M := px_m295) px_d295
theorem px_dq296 : px_DQ 296 := px_dp_ofs (M := px_m296) px_d296
theorem px_dq297 : px_DQ 297 := px_dp_ofs (M := px_m297) px_d297
theorem px_dq298 : px_DQ 298 := px_dp_ofs (M := px_m298) px_d298
theorem px_dq299 : px_DQ 299 := px_dp_ofs (M := px_m299) px_d299
theorem px_dq300 : px_DQ 300 := px_dp_ofs (M := px_m300) px_d300
theorem px_dq301 : px_DQ 301 := px_dp_ofs (M := px_m301) px_d301
theorem px_dq302 : px_DQ 302 := px_dp_ofs (M := px_m302) px_d302
theorem px_dq303 : px_DQ 303 := px_dp_ofs (M := px_m303) px_d303
theorem px_dq304 : px_DQ 304 := px_dp_ofs (M := px_m304) px_d304
theorem px_dq305 : px_DQ 305 := px_dp_ofs (M := px_m305) px_d305
theorem px_dq306 : px_DQ 306 := px_dp_ofs (M := px_m306) px_d306
theorem px_dq307 : px_DQ 307 := px_dp_ofs (M := px_m307) px_d307
theorem px_dq308 : px_DQ 308 := px_dp_ofs (M := px_m308) px_d308
theorem px_dq309 : px_DQ 309 := px_dp_ofs (M := px_m309) px_d309
theorem px_dq310 : px_DQ 310 := px_dp_ofs (M := px_m310) px_d310
theorem px_dq311 : px_DQ 311 := px_dp_ofs (M := px_m311) px_d311
theorem px_dq312 : px_DQ 312 := px_dp_ofs (M := px_m312) px_d312
theorem px_dq313 : px_DQ 313 := px_dp_ofs (M := px_m313) px_d313
theorem px_dq314 : px_DQ 314 := px_dp_ofs (M := px_m314) px_d314
theorem px_dq315 : px_DQ 315 := px_dp_ofs (M := px_m315) px_d315
theorem px_dq316 : px_DQ 316 := px_dp_ofs (M := px_m316) px_d316
theorem px_dq317 : px_DQ 317 := px_dp_ofs (M := px_m317) px_d317
theorem px_dq318 : px_DQ 318 := px_dp_ofs (M := px_m318) px_d318
theorem px_dq319 : px_DQ 319 := px_dp_ofs (M := px_m319) px_d319
theorem px_dq320 : px_DQ 320 := px_dp_ofs (M := px_m320) px_d320
theorem px_dq321 : px_DQ 321 := px_dp_ofs (M := px_m321) px_d321
theorem px_dq322 : px_DQ 322 := px_dp_ofs (M := px_m322) px_d322
theorem px_dq323 : px_DQ 323 := px_dp_ofs (M := px_m323) px_d323
theorem px_dq324 : px_DQ 324 := px_dp_ofs (M := px_m324) px_d324
theorem px_dq325 : px_DQ 325 := px_dp_ofs (M := px_m325) px_d325
theorem px_dq326 : px_DQ 326 := px_dp_ofs (M := px_m326) px_d326
theorem px_dq327 : px_DQ 327 := px_dp_ofs (M := px_m327) px_d327
theorem px_dq328 : px_DQ 328 := px_dp_ofs (M := px_m328) px_d328
theorem px_dq329 : px_DQ 329 := px_dp_ofs (M := px_m329) px_d329
theorem px_dq330 : px_DQ 330 := px_dp_ofs (M := px_m330) px_d330
theorem px_dq331 : px_DQ 331 := px_dp_ofs (M := px_m331) px_d331
set_option maxRecDepth 10000 in
theorem px_dq332 : px_DQ 332 := px_dp_of (M := px_m332) (fun a => by
  rcases Nat.lt_or_ge a 77 with h | h
  · revert a
    exact (lt_s (lt_s (lt_s (lt_s (lt_s (lt_s (lt_s (lt_s (lt_s (lt_s (lt_s (lt_s (lt_s (lt_s (lt_s (lt_s (lt_s (lt_s (lt_s (lt_s (lt_s (lt_s (lt_s (lt_s (lt_s (lt_s (lt_s (lt_s (lt_s (lt_s (lt_s (lt_s (lt_s (lt_s (lt_s (lt_s (lt_s (lt_s (lt_s (lt_s (lt_s (lt_s (lt_s (lt_s (lt_s (lt_s (lt_s (lt_s (lt_s (lt_s (lt_s (lt_s (lt_s (lt_s (lt_s (lt_s (lt_s (lt_s (lt_s (lt_s (lt_s (lt_s (lt_s (lt_s (lt_s (lt_s (lt_s (lt_s (lt_s (lt_s (lt_s (lt_s (lt_s (lt_s (lt_s (lt_s (lt_s lt_0 px_d332_0) px_d332_1) px_d332_2) px_d332_3) px_d332_4) px_d332_5) px_d332_6) px_d332_7) px_d332_8) px_d332_9) px_d332_10) px_d332_11) px_d332_12) px_d332_13) px_d332_14) px_d332_15) px_d332_16) px_d332_17) px_d332_18) px_d332_19) px_d332_20) px_d332_21) px_d332_22) px_d332_23) px_d332_24) px_d332_25) px_d332_26) px_d332_27) px_d332_28) px_d332_29) px_d332_30) px_d332_31) px_d332_32) px_d332_33) px_d332_34) px_d332_35) px_d332_36) px_d332_37) px_d332_38) px_d332_39) px_d332_40) px_d332_41) px_d332_42) px_d332_43) px_d332_44) px_d332_45) px_d332_46) px_d332_47) px_d332_48) px_d332_49) px_d332_50) px_d332_51) px_d332_52) px_d332_53) px_d332_54) px_d332_55) px_d332_56) px_d332_57) px_d332_58) px_d332_59) px_d332_60) px_d332_61) px_d332_62) px_d332_63) px_d332_64) px_d332_65) px_d332_66) px_d332_67) px_d332_68) px_d332_69) px_d332_70) px_d332_71) px_d332_72) px_d332_73) px_d332_74) px_d332_75) px_d332_76)
  · rw [List.getD_eq_getElem?_getD, List.getElem?_eq_none (show px_m332.2.2.2.2.2.1.length ≤ a from h)]
    rfl)
theorem px_dq333 : px_DQ 333 := px_dp_ofs (M := px_m333) px_d333
theorem px_dq334 : px_DQ 334 := px_dp_ofs (M := px_m334) px_d334
theorem px_dq335 : px_DQ 335 := px_dp_ofs (M := px_m335) px_d335
theorem px_dq336 : px_DQ 336 := px_dp_ofs (M := px_m336) px_d336
theorem px_dq337 : px_DQ 337 := px_dp_ofs (M := px_m337) px_d337
theorem px_dqA26 : ∀ a, a < 26 → px_DQ a := (lt_s (lt_s (lt_s (lt_s (lt_s (lt_s (lt_s (lt_s (lt_s (lt_s (lt_s (lt_s (lt_s (lt_s (lt_s (lt_s (lt_s (lt_s (lt_s (lt_s (lt_s (lt_s (lt_s (lt_s (lt_s (lt_s (lt_0 : ∀ a, a < 0 → px_DQ a) px_dq0) px_dq1) px_dq2) px_dq3) px_dq4) px_dq5) px_dq6) px_dq7) px_dq8) px_dq9) px_dq10) px_dq11) px_dq12) px_dq13) px_dq14) px_dq15) px_dq16) px_dq17) px_dq18) px_dq19) px_dq20) px_dq21) px_dq22) px_dq23) px_dq24) px_dq25)
theorem px_dqA52 : ∀ a, a < 52 → px_DQ a := (lt_s (lt_s (lt_s (lt_s (lt_s (lt_s (lt_s (lt_s (lt_s (lt_s (lt_s (lt_s (lt_s (lt_s (lt_s (lt_s (lt_s (lt_s (lt_s (lt_s (lt_s (lt_s (lt_s (lt_s (lt_s (lt_s px_dqA26 px_dq26) px_dq27) px_dq28) px_dq29) px_dq30) px_dq31) px_dq32) px_dq33) px_dq34) px_dq35) px_dq36) px_dq37) px_dq38) px_dq39) px_dq40) px_dq41) px_dq42) px_dq43) px_dq44) px_dq45) px_dq46) px_dq47) px_dq48) px_dq49) px_dq50) px_dq51)
theorem px_dqA78 : ∀ a, a < 78 → px_DQ a := (lt_s (lt_s (lt_s (lt_s (lt_s (lt_s (lt_s (lt_s (lt_s (lt_s (lt_s (lt_s (lt_s (lt_s (lt_s (lt_s (lt_s (lt_s (lt_s (lt_s (lt_s (lt_s (lt_s (lt_s (lt_s (lt_s px_dqA52 px_dq52) px_dq53) px_dq54) px_dq55) px_dq56) px_dq57) px_dq58) px_dq59) px_dq60) px_dq61) px_dq62) px_dq63) px_dq64) px_dq65) px_dq66) px_dq67) px_dq68) px_dq69) px_dq70) px_dq71) px_dq72) px_dq73) px_dq74) px_dq75) px_dq76) px_dq77)
theorem px_dqA104 : ∀ a, a < 104 → px_DQ a := (lt_s (lt_s (lt_s (lt_s (lt_s (lt_s (lt_s (lt_s (lt_s (lt_s (lt_s (lt_s (lt_s (lt_s (lt_s (lt_s (lt_s (lt_s (lt_s (lt_s (lt_s (lt_s (lt_s (lt_s (lt_s (lt_s px_dqA78 px_dq78) px_dq79) px_dq80) px_dq81) px_dq82) px_dq83) px_dq84) px_dq85) px_dq86) px_dq87) px_dq88) px_dq89) px_dq90) px_dq91) px_dq92) px_dq93) px_dq94) px_dq95) px_dq96) px_dq97) px_dq98) px_dq99) px_dq100) px_dq101) px_dq102) px_dq103)
theorem px_dqA130 : ∀ a, a < 130 → px_DQ a := (lt_s (lt_s (lt_s (lt_s (lt_s (lt_s (lt_s (lt_s (lt_s (lt_s (lt_s (lt_s (lt_s (lt_s (lt_s (lt_s (lt_s (lt_s (lt_s (lt_s (lt_s (lt_s (lt_s (lt_s (lt_s (lt_s px_dqA104 px_dq104) px_dq105) px_dq106) px_dq107) px_dq108) px_dq109) px_dq110) px_dq111) px_dq112) px_dq113) px_dq114) px_dq115) px_dq116) px_dq117) px_dq118) px_dq119) px_dq120) px_dq121) px_dq122) px_dq123) px_dq124) px_dq125) px_dq126) px_dq127) px_dq128) px_dq129)
theorem px_dqA156 : ∀ a, a < 156 → px_DQ a := (lt_s (lt_s (lt_s (lt_s (lt_s (lt_s (lt_s (lt_s (lt_s (lt_s (lt_s (lt_s (lt_s (lt_s (lt_s (lt_s (lt_s (lt_s (lt_s (lt_s (lt_s (lt_s (lt_s (lt_s (lt_s (lt_s px_dqA130 px_dq130) px_dq131) px_dq132) px_dq133) px_dq134) px_dq135) px_dq136) px_dq137) px_dq138) px_dq139) px_dq140) px_dq141) px_dq142) px_dq143) px_dq144) px_dq145) px_dq146) px_dq147) px_dq148) px_dq149) px_dq150) px_dq151) px_dq152) px_dq153) px_dq154) px_dq155)
theorem px_dqA182 : ∀ a, a < 182 → px_DQ a := (lt_s (lt_s (lt_s (lt_s (lt_s (lt_s (lt_s (lt_s (lt_s (lt_s (lt_s (lt_s (lt_s (lt_s (lt_s (lt_s (lt_s (lt_s (lt_s (lt_s (lt_s (lt_s (lt_s (lt_s (lt_s (lt_s px_dqA156 px_dq156) px_dq157) px_dq158) px_dq159) px_dq160) px_dq161) px_dq162) px_dq163) px_dq164) px_dq165) px_dq166) px_dq167) px_dq168) px_dq169) px_dq170) px_dq171) px_dq172) px_dq173) px_dq174) px_dq175) px_dq176) px_dq177) px_dq178) px_dq179) px_dq180) px_dq181)
theorem px_dqA208 : ∀ a, a < 208 → px_DQ a := (lt_s (lt_s (lt_s (lt_s (lt_s (lt_s (lt_s (lt_s (lt_s (lt_s (lt_s (lt_s (lt_s (lt_s (lt_s (lt_s (lt_s (lt_s (lt_s (lt_s (lt_s (lt_s (lt_s (lt_s (lt_s (lt_s px_dqA182 px_dq182) px_dq183) px_dq184) px_dq185) px_dq186) px_dq187) px_dq188) px_dq189) px_dq190) px_dq191) px_dq192) px_dq193) px_dq194) px_dq195) px_dq196) px_dq197) px_dq198) px_dq199) px_dq200) px_dq201) px_dq202) px_dq203) px_dq204) px_dq205) px_dq206) px_dq207)
theorem px_dqA234 : ∀ a, a < 234 → px_DQ a := (lt_s (lt_s (lt_s (lt_s (lt_s (lt_s (lt_s (lt_s (lt_s (lt_s (lt_s (lt_s (lt_s (lt_s (lt_s (lt_s (lt_s (lt_s (lt_s (lt_s (lt_s (lt_s (lt_s (lt_s (lt_s (lt_s px_dqA208 px_dq208) px_dq209) px_dq210) px_dq211) px_dq212) px_dq213) px_dq214) px_dq215) px_dq216) px_dq217) px_dq218) px_dq219) px_dq220) px_dq221) px_dq222) px_dq223) px_dq224) px_dq225) px_dq226) px_dq227) px_dq228) px_dq229) px_dq230) px_dq231) px_dq232) px_dq233)
theorem px_dqA260 : ∀ a, a < 260 → px_DQ a := (lt_s (lt_s (lt_s (lt_s (lt_s (lt_s (lt_s (lt_s (lt_s (lt_s (lt_s (lt_s (lt_s (lt_s (lt_s (lt_s (lt_s (lt_s (lt_s (lt_s (lt_s (lt_s (lt_s (lt_s (lt_s (lt_s px_dqA234 px_dq234) px_dq235) px_dq236) px_dq237) px_dq238) px_dq239) px_dq240) px_dq241) px_dq242) px_dq243) px_dq244) px_dq245) px_dq246) px_dq247) px_dq248) px_dq249) px_dq250) px_dq251) px_dq252) px_dq253) px_dq254) px_dq255) px_dq256) px_dq257) px_dq258) px_dq259)
theorem px_dqA286 : ∀ a, a < 286 → px_DQ a := (lt_s (lt_s (lt_s (lt_s (lt_s (lt_s (lt_s (lt_s (lt_s (lt_s (lt_s (lt_s (lt_s (lt_s (lt_s (lt_s (lt_s (lt_s (lt_s (lt_s (lt_s (lt_s (lt_s (lt_s (lt_s (lt_s px_dqA260 px_dq260) px_dq261) px_dq262) px_dq263) px_dq264) px_dq265) px_dq266) px_dq267) px_dq268) px_dq269) px_dq270) px_dq271) px_dq272) px_dq273) px_dq274) px_dq275) px_dq276) px_dq277) px_dq278) px_dq279) px_dq280) px_dq281) px_dq282) px_dq283) px_dq284) px_dq285)
theorem px_dqA312 : ∀ a, a < 312 → px_DQ a := (lt_s (lt_s (lt_s (lt_s (lt_s (lt_s (lt_s (lt_s (lt_s (lt_s (lt_s (lt_s (lt_s (lt_s (lt_s (lt_s (lt_s (lt_s (lt_s (lt_s (lt_s (lt_s (lt_s (lt_s (lt_s (lt_s px_dqA286 px_dq286) px_dq287) px_dq288) px_dq289) px_dq290) px_dq291) px_dq292) px_dq293) px_dq294) px_dq295) px_dq296) px_dq297) px_dq298) px_dq299) px_dq300) px_dq301) px_dq302) px_dq303) px_dq304) px_dq305) px_dq306) px_dq307) px_dq308) px_dq309) px_dq310) px_dq311)
theorem px_dqA338 : ∀ a, a < 338 → px_DQ a := (lt_s (lt_s (lt_s (lt_s (lt_s (lt_s (lt_s (lt_s (lt_s (lt_s (lt_s (lt_s (lt_s (lt_s (lt_s (lt_s (lt_s (lt_s (lt_s (lt_s (lt_s (lt_s (lt_s (lt_s (lt_s (lt_s px_dqA312 px_dq312) px_dq313) px_dq314) px_dq315) px_dq316) px_dq317) px_dq318) px_dq319) px_dq320) px_dq321) px_dq322) px_dq323) px_dq324) px_dq325) px_dq326) px_dq327) px_dq328) px_dq329) px_dq330) px_dq331) px_dq332) px_dq333) px_dq334) px_dq335) px_dq336) px_dq337)
theorem px_dec {k : Nat} (h : k < 338) {pc : Nat} {i : Instr} {len : Nat} (hi : px_ins (px_prog k) pc = some (i, len)) : decode (px_by k) pc = .ok (i, len) ∧ px_good pc i len = true := px_dqA338 k h pc i len hi
