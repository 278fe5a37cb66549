set_option maxRecDepth 20000 in
theorem ggX6_init_X6_begins : GoodIn wsX6_init wsX6_begins := goodIn_r _ [24, 7, 40, 41, 42, 43, 44, 45, 46, 47, 48, 49, 50, 51, 52, 53, 54, 55, 56, 57, 58, 59, 60, 61, 62] (by decide +kernel) (by decide +kernel)
set_option maxRecDepth 20000 in
theorem gX6_init_X6_begins : GoodIn wsX6_init (wsV RX6 55 RX6 yX6_begins wsX6_begins) := goodIn_app (goodIn_of _ (by decide +kernel)) ggX6_init_X6_begins
set_option maxRecDepth 20000 in
theorem ggX6_init_X6_taskOf : GoodIn wsX6_init wsX6_taskOf := goodIn_r _ [28, 7, 40, 41, 42, 43, 44, 45, 46, 47, 48, 49, 50, 51, 52, 53, 54, 55, 56, 57, 58, 59, 60, 61, 62] (by decide +kernel) (by decide +kernel)
set_option maxRecDepth 20000 in
theorem gX6_init_X6_taskOf : GoodIn wsX6_init (wsV RX6 58 RX6 yX6_taskOf wsX6_taskOf) := goodIn_app (goodIn_of _ (by decide +kernel)) ggX6_init_X6_taskOf
set_option maxRecDepth 20000 in
theorem ggX6_init_X6_helperOf : GoodIn wsX6_init wsX6_helperOf := goodIn_r _ [32, 7, 40, 41, 42, 43, 44, 45, 46, 47, 48, 49, 50, 51, 52, 53, 54, 55, 56, 57, 58, 59, 60, 61, 62] (by decide +kernel) (by decide +kernel)
set_option maxRecDepth 20000 in
theorem gX6_init_X6_helperOf : GoodIn wsX6_init (wsV RX6 62 RX6 yX6_helperOf wsX6_helperOf) := goodIn_app (goodIn_of _ (by decide +kernel)) ggX6_init_X6_helperOf
set_option maxRecDepth 20000 in
theorem ggX6_init_X6_lays : GoodIn wsX6_init wsX6_lays := goodIn_r _ [36, 6, 7, 8, 37, 38, 39, 40, 41, 42, 43, 44, 45, 46, 47, 48, 49, 50, 51, 52, 53, 54, 55, 56, 57, 58, 59, 60, 61, 62] (by decide +kernel) (by decide +kernel)
set_option maxRecDepth 20000 in
theorem gX6_init_X6_lays : GoodIn wsX6_init (wsV RX6 66 RX6 yX6_lays wsX6_lays) := goodIn_app (goodIn_of _ (by decide +kernel)) ggX6_init_X6_lays
theorem dX6_init_0 : decode cX6_init 0 = .ok (.aload_n 0, 1) := by decide +kernel
theorem dX6_init_1 : decode cX6_init 1 = .ok (.invokespecial 1, 3) := by decide +kernel
theorem dX6_init_4 : decode cX6_init 4 = .ok (.aload_n 0, 1) := by decide +kernel
theorem dX6_init_5 : decode cX6_init 5 = .ok (.sipush 200, 3) := by decide +kernel
theorem dX6_init_8 : decode cX6_init 8 = .ok (.newarray .int, 2) := by decide +kernel
theorem dX6_init_10 : decode cX6_init 10 = .ok (.putfield 7, 3) := by decide +kernel
theorem dX6_init_13 : decode cX6_init 13 = .ok (.aload_n 0, 1) := by decide +kernel
theorem dX6_init_14 : decode cX6_init 14 = .ok (.bipush 51, 2) := by decide +kernel
theorem dX6_init_16 : decode cX6_init 16 = .ok (.newarray .int, 2) := by decide +kernel
theorem dX6_init_18 : decode cX6_init 18 = .ok (.putfield 13, 3) := by decide +kernel
theorem dX6_init_21 : decode cX6_init 21 = .ok (.aload_n 0, 1) := by decide +kernel
theorem dX6_init_22 : decode cX6_init 22 = .ok (.bipush 51, 2) := by decide +kernel
theorem dX6_init_24 : decode cX6_init 24 = .ok (.newarray .int, 2) := by decide +kernel
theorem dX6_init_26 : decode cX6_init 26 = .ok (.putfield 16, 3) := by decide +kernel
theorem dX6_init_29 : decode cX6_init 29 = .ok (.aload_n 0, 1) := by decide +kernel
theorem dX6_init_30 : decode cX6_init 30 = .ok (.bipush 6, 2) := by decide +kernel
theorem dX6_init_32 : decode cX6_init 32 = .ok (.newarray .int, 2) := by decide +kernel
theorem dX6_init_34 : decode cX6_init 34 = .ok (.putfield 19, 3) := by decide +kernel
theorem dX6_init_37 : decode cX6_init 37 = .ok (.aload_n 0, 1) := by decide +kernel
theorem dX6_init_38 : decode cX6_init 38 = .ok (.bipush 48, 2) := by decide +kernel
theorem dX6_init_40 : decode cX6_init 40 = .ok (.newarray .int, 2) := by decide +kernel
theorem dX6_init_42 : decode cX6_init 42 = .ok (.putfield 22, 3) := by decide +kernel
theorem dX6_init_45 : decode cX6_init 45 = .ok (.aload_n 0, 1) := by decide +kernel
theorem dX6_init_46 : decode cX6_init 46 = .ok (.bipush 12, 2) := by decide +kernel
theorem dX6_init_48 : decode cX6_init 48 = .ok (.newarray .int, 2) := by decide +kernel
theorem dX6_init_50 : decode cX6_init 50 = .ok (.putfield 25, 3) := by decide +kernel
theorem dX6_init_53 : decode cX6_init 53 = .ok (.aload_n 0, 1) := by decide +kernel
theorem dX6_init_54 : decode cX6_init 54 = .ok (.bipush 6, 2) := by decide +kernel
theorem dX6_init_56 : decode cX6_init 56 = .ok (.newarray .int, 2) := by decide +kernel
theorem dX6_init_58 : decode cX6_init 58 = .ok (.putfield 28, 3) := by decide +kernel
theorem dX6_init_61 : decode cX6_init 61 = .ok (.aload_n 0, 1) := by decide +kernel
theorem dX6_init_62 : decode cX6_init 62 = .ok (.bipush 9, 2) := by decide +kernel
theorem dX6_init_64 : decode cX6_init 64 = .ok (.newarray .int, 2) := by decide +kernel
theorem dX6_init_66 : decode cX6_init 66 = .ok (.putfield 31, 3) := by decide +kernel
theorem dX6_init_69 : decode cX6_init 69 = .ok (.aload_n 0, 1) := by decide +kernel
theorem dX6_init_70 : decode cX6_init 70 = .ok (.bipush 9, 2) := by decide +kernel
theorem dX6_init_72 : decode cX6_init 72 = .ok (.newarray .int, 2) := by decide +kernel
theorem dX6_init_74 : decode cX6_init 74 = .ok (.putfield 34, 3) := by decide +kernel
theorem dX6_init_77 : decode cX6_init 77 = .ok (.aload_n 0, 1) := by decide +kernel
theorem dX6_init_78 : decode cX6_init 78 = .ok (.bipush 9, 2) := by decide +kernel
theorem dX6_init_80 : decode cX6_init 80 = .ok (.newarray .int, 2) := by decide +kernel
theorem dX6_init_82 : decode cX6_init 82 = .ok (.putfield 37, 3) := by decide +kernel
theorem dX6_init_85 : decode cX6_init 85 = .ok (.aload_n 0, 1) := by decide +kernel
theorem dX6_init_86 : decode cX6_init 86 = .ok (.bipush 9, 2) := by decide +kernel
theorem dX6_init_88 : decode cX6_init 88 = .ok (.newarray .int, 2) := by decide +kernel
theorem dX6_init_90 : decode cX6_init 90 = .ok (.putfield 40, 3) := by decide +kernel
theorem dX6_init_93 : decode cX6_init 93 = .ok (.aload_n 0, 1) := by decide +kernel
theorem dX6_init_94 : decode cX6_init 94 = .ok (.bipush 9, 2) := by decide +kernel
theorem dX6_init_96 : decode cX6_init 96 = .ok (.newarray .int, 2) := by decide +kernel
theorem dX6_init_98 : decode cX6_init 98 = .ok (.putfield 43, 3) := by decide +kernel
theorem dX6_init_101 : decode cX6_init 101 = .ok (.aload_n 0, 1) := by decide +kernel
theorem dX6_init_102 : decode cX6_init 102 = .ok (.bipush 8, 2) := by decide +kernel
theorem dX6_init_104 : decode cX6_init 104 = .ok (.newarray .int, 2) := by decide +kernel
theorem dX6_init_106 : decode cX6_init 106 = .ok (.putfield 46, 3) := by decide +kernel
theorem dX6_init_109 : decode cX6_init 109 = .ok (.aload_n 0, 1) := by decide +kernel
theorem dX6_init_110 : decode cX6_init 110 = .ok (.bipush 8, 2) := by decide +kernel
theorem dX6_init_112 : decode cX6_init 112 = .ok (.newarray .int, 2) := by decide +kernel
theorem dX6_init_114 : decode cX6_init 114 = .ok (.putfield 49, 3) := by decide +kernel
theorem dX6_init_117 : decode cX6_init 117 = .ok (.aload_n 0, 1) := by decide +kernel
theorem dX6_init_118 : decode cX6_init 118 = .ok (.bipush 6, 2) := by decide +kernel
theorem dX6_init_120 : decode cX6_init 120 = .ok (.newarray .int, 2) := by decide +kernel
theorem dX6_init_122 : decode cX6_init 122 = .ok (.putfield 52, 3) := by decide +kernel
theorem dX6_init_125 : decode cX6_init 125 = .ok (.aload_n 0, 1) := by decide +kernel
theorem dX6_init_126 : decode cX6_init 126 = .ok (.invokevirtual 55, 3) := by decide +kernel
theorem dX6_init_129 : decode cX6_init 129 = .ok (.aload_n 0, 1) := by decide +kernel
theorem dX6_init_130 : decode cX6_init 130 = .ok (.iconst 0, 1) := by decide +kernel
theorem dX6_init_131 : decode cX6_init 131 = .ok (.iconst 3, 1) := by decide +kernel
theorem dX6_init_132 : decode cX6_init 132 = .ok (.iconst 0, 1) := by decide +kernel
theorem dX6_init_133 : decode cX6_init 133 = .ok (.iconst 1, 1) := by decide +kernel
theorem dX6_init_134 : decode cX6_init 134 = .ok (.invokevirtual 58, 3) := by decide +kernel
theorem dX6_init_137 : decode cX6_init 137 = .ok (.aload_n 0, 1) := by decide +kernel
theorem dX6_init_138 : decode cX6_init 138 = .ok (.iconst 1, 1) := by decide +kernel
theorem dX6_init_139 : decode cX6_init 139 = .ok (.iconst 5, 1) := by decide +kernel
theorem dX6_init_140 : decode cX6_init 140 = .ok (.iconst 1, 1) := by decide +kernel
theorem dX6_init_141 : decode cX6_init 141 = .ok (.iconst 2, 1) := by decide +kernel
theorem dX6_init_142 : decode cX6_init 142 = .ok (.invokevirtual 58, 3) := by decide +kernel
theorem dX6_init_145 : decode cX6_init 145 = .ok (.aload_n 0, 1) := by decide +kernel
theorem dX6_init_146 : decode cX6_init 146 = .ok (.iconst 3, 1) := by decide +kernel
theorem dX6_init_147 : decode cX6_init 147 = .ok (.iconst 4, 1) := by decide +kernel
theorem dX6_init_148 : decode cX6_init 148 = .ok (.iconst 2, 1) := by decide +kernel
theorem dX6_init_149 : decode cX6_init 149 = .ok (.iconst 3, 1) := by decide +kernel
theorem dX6_init_150 : decode cX6_init 150 = .ok (.invokevirtual 58, 3) := by decide +kernel
theorem dX6_init_153 : decode cX6_init 153 = .ok (.aload_n 0, 1) := by decide +kernel
theorem dX6_init_154 : decode cX6_init 154 = .ok (.iconst 4, 1) := by decide +kernel
theorem dX6_init_155 : decode cX6_init 155 = .ok (.iconst 2, 1) := by decide +kernel
theorem dX6_init_156 : decode cX6_init 156 = .ok (.iconst 5, 1) := by decide +kernel
theorem dX6_init_157 : decode cX6_init 157 = .ok (.iconst 3, 1) := by decide +kernel
theorem dX6_init_158 : decode cX6_init 158 = .ok (.invokevirtual 58, 3) := by decide +kernel
theorem dX6_init_161 : decode cX6_init 161 = .ok (.aload_n 0, 1) := by decide +kernel
theorem dX6_init_162 : decode cX6_init 162 = .ok (.iconst 2, 1) := by decide +kernel
theorem dX6_init_163 : decode cX6_init 163 = .ok (.bipush 9, 2) := by decide +kernel
theorem dX6_init_165 : decode cX6_init 165 = .ok (.iconst 4, 1) := by decide +kernel
theorem dX6_init_166 : decode cX6_init 166 = .ok (.iconst 5, 1) := by decide +kernel
theorem dX6_init_167 : decode cX6_init 167 = .ok (.invokevirtual 58, 3) := by decide +kernel
theorem dX6_init_170 : decode cX6_init 170 = .ok (.aload_n 0, 1) := by decide +kernel
theorem dX6_init_171 : decode cX6_init 171 = .ok (.iconst 0, 1) := by decide +kernel
theorem dX6_init_172 : decode cX6_init 172 = .ok (.bipush 6, 2) := by decide +kernel
theorem dX6_init_174 : decode cX6_init 174 = .ok (.iconst 3, 1) := by decide +kernel
theorem dX6_init_175 : decode cX6_init 175 = .ok (.iconst 4, 1) := by decide +kernel
theorem dX6_init_176 : decode cX6_init 176 = .ok (.invokevirtual 58, 3) := by decide +kernel
theorem dX6_init_179 : decode cX6_init 179 = .ok (.aload_n 0, 1) := by decide +kernel
theorem dX6_init_180 : decode cX6_init 180 = .ok (.iconst 0, 1) := by decide +kernel
theorem dX6_init_181 : decode cX6_init 181 = .ok (.iconst 3, 1) := by decide +kernel
theorem dX6_init_182 : decode cX6_init 182 = .ok (.invokevirtual 62, 3) := by decide +kernel
theorem dX6_init_185 : decode cX6_init 185 = .ok (.aload_n 0, 1) := by decide +kernel
theorem dX6_init_186 : decode cX6_init 186 = .ok (.iconst 1, 1) := by decide +kernel
theorem dX6_init_187 : decode cX6_init 187 = .ok (.iconst 4, 1) := by decide +kernel
theorem dX6_init_188 : decode cX6_init 188 = .ok (.invokevirtual 62, 3) := by decide +kernel
theorem dX6_init_191 : decode cX6_init 191 = .ok (.aload_n 0, 1) := by decide +kernel
theorem dX6_init_192 : decode cX6_init 192 = .ok (.iconst 1, 1) := by decide +kernel
theorem dX6_init_193 : decode cX6_init 193 = .ok (.bipush 6, 2) := by decide +kernel
theorem dX6_init_195 : decode cX6_init 195 = .ok (.invokevirtual 62, 3) := by decide +kernel
theorem dX6_init_198 : decode cX6_init 198 = .ok (.aload_n 0, 1) := by decide +kernel
theorem dX6_init_199 : decode cX6_init 199 = .ok (.iconst 2, 1) := by decide +kernel
theorem dX6_init_200 : decode cX6_init 200 = .ok (.iconst 5, 1) := by decide +kernel
theorem dX6_init_201 : decode cX6_init 201 = .ok (.invokevirtual 62, 3) := by decide +kernel
theorem dX6_init_204 : decode cX6_init 204 = .ok (.aload_n 0, 1) := by decide +kernel
theorem dX6_init_205 : decode cX6_init 205 = .ok (.iconst 4, 1) := by decide +kernel
theorem dX6_init_206 : decode cX6_init 206 = .ok (.iconst 2, 1) := by decide +kernel
theorem dX6_init_207 : decode cX6_init 207 = .ok (.invokevirtual 62, 3) := by decide +kernel
theorem dX6_init_210 : decode cX6_init 210 = .ok (.aload_n 0, 1) := by decide +kernel
theorem dX6_init_211 : decode cX6_init 211 = .ok (.iconst 3, 1) := by decide +kernel
theorem dX6_init_212 : decode cX6_init 212 = .ok (.bipush 7, 2) := by decide +kernel
theorem dX6_init_214 : decode cX6_init 214 = .ok (.invokevirtual 62, 3) := by decide +kernel
theorem dX6_init_217 : decode cX6_init 217 = .ok (.aload_n 0, 1) := by decide +kernel
theorem dX6_init_218 : decode cX6_init 218 = .ok (.iconst 0, 1) := by decide +kernel
theorem dX6_init_219 : decode cX6_init 219 = .ok (.iconst 1, 1) := by decide +kernel
theorem dX6_init_220 : decode cX6_init 220 = .ok (.invokevirtual 62, 3) := by decide +kernel
theorem dX6_init_223 : decode cX6_init 223 = .ok (.aload_n 0, 1) := by decide +kernel
theorem dX6_init_224 : decode cX6_init 224 = .ok (.getfield 16, 3) := by decide +kernel
theorem dX6_init_227 : decode cX6_init 227 = .ok (.iconst 4, 1) := by decide +kernel
theorem dX6_init_228 : decode cX6_init 228 = .ok (.bipush 33, 2) := by decide +kernel
theorem dX6_init_230 : decode cX6_init 230 = .ok (.iastore, 1) := by decide +kernel
theorem dX6_init_231 : decode cX6_init 231 = .ok (.aload_n 0, 1) := by decide +kernel
theorem dX6_init_232 : decode cX6_init 232 = .ok (.getfield 16, 3) := by decide +kernel
theorem dX6_init_235 : decode cX6_init 235 = .ok (.iconst 2, 1) := by decide +kernel
theorem dX6_init_236 : decode cX6_init 236 = .ok (.bipush 30, 2) := by decide +kernel
theorem dX6_init_238 : decode cX6_init 238 = .ok (.iastore, 1) := by decide +kernel
theorem dX6_init_239 : decode cX6_init 239 = .ok (.aload_n 0, 1) := by decide +kernel
theorem dX6_init_240 : decode cX6_init 240 = .ok (.getfield 16, 3) := by decide +kernel
theorem dX6_init_243 : decode cX6_init 243 = .ok (.iconst 3, 1) := by decide +kernel
theorem dX6_init_244 : decode cX6_init 244 = .ok (.bipush 28, 2) := by decide +kernel
theorem dX6_init_246 : decode cX6_init 246 = .ok (.iastore, 1) := by decide +kernel
theorem dX6_init_247 : decode cX6_init 247 = .ok (.aload_n 0, 1) := by decide +kernel
theorem dX6_init_248 : decode cX6_init 248 = .ok (.invokevirtual 66, 3) := by decide +kernel
theorem dX6_init_251 : decode cX6_init 251 = .ok (.return_, 1) := by decide +kernel
theorem dX6_in_0 : decode cX6_in 0 = .ok (.iload_n 0, 1) := by decide +kernel
theorem dX6_in_1 : decode cX6_in 1 = .ok (.iload_n 1, 1) := by decide +kernel
theorem dX6_in_2 : decode cX6_in 2 = .ok (.if_icmp .lt 12, 3) := by decide +kernel
theorem dX6_in_5 : decode cX6_in 5 = .ok (.iload_n 0, 1) := by decide +kernel
theorem dX6_in_6 : decode cX6_in 6 = .ok (.iload_n 2, 1) := by decide +kernel
theorem dX6_in_7 : decode cX6_in 7 = .ok (.if_icmp .gt 7, 3) := by decide +kernel
theorem dX6_in_10 : decode cX6_in 10 = .ok (.iconst 1, 1) := by decide +kernel
theorem dX6_in_11 : decode cX6_in 11 = .ok (.goto 4, 3) := by decide +kernel
theorem dX6_in_14 : decode cX6_in 14 = .ok (.iconst 0, 1) := by decide +kernel
theorem dX6_in_15 : decode cX6_in 15 = .ok (.ireturn, 1) := by decide +kernel
set_option maxRecDepth 20000 in
theorem ggX6_isTask_X6_in : GoodIn wsX6_isTask wsX6_in := goodIn_r _ [5] (by decide +kernel) (by decide +kernel)
set_option maxRecDepth 20000 in
theorem gX6_isTask_X6_in : GoodIn wsX6_isTask (va_wsS RX6 69 yX6_in wsX6_in) := goodIn_app (goodIn_of _ (by decide +kernel)) ggX6_isTask_X6_in
theorem dX6_isTask_0 : decode cX6_isTask 0 = .ok (.iload_n 1, 1) := by decide +kernel
theorem dX6_isTask_1 : decode cX6_isTask 1 = .ok (.iconst 0, 1) := by decide +kernel
theorem dX6_isTask_2 : decode cX6_isTask 2 = .ok (.aload_n 0, 1) := by decide +kernel
theorem dX6_isTask_3 : decode cX6_isTask 3 = .ok (.getfield 13, 3) := by decide +kernel
theorem dX6_isTask_6 : decode cX6_isTask 6 = .ok (.iconst 0, 1) := by decide +kernel
theorem dX6_isTask_7 : decode cX6_isTask 7 = .ok (.iaload, 1) := by decide +kernel
theorem dX6_isTask_8 : decode cX6_isTask 8 = .ok (.iconst 1, 1) := by decide +kernel
theorem dX6_isTask_9 : decode cX6_isTask 9 = .ok (.isub, 1) := by decide +kernel
theorem dX6_isTask_10 : decode cX6_isTask 10 = .ok (.invokestatic 69, 3) := by decide +kernel
theorem dX6_isTask_13 : decode cX6_isTask 13 = .ok (.ireturn, 1) := by decide +kernel
set_option maxRecDepth 20000 in
theorem ggX6_isHelper_X6_in : GoodIn wsX6_isHelper wsX6_in := goodIn_r _ [5] (by decide +kernel) (by decide +kernel)
set_option maxRecDepth 20000 in
theorem gX6_isHelper_X6_in : GoodIn wsX6_isHelper (va_wsS RX6 69 yX6_in wsX6_in) := goodIn_app (goodIn_of _ (by decide +kernel)) ggX6_isHelper_X6_in
theorem dX6_isHelper_0 : decode cX6_isHelper 0 = .ok (.iload_n 1, 1) := by decide +kernel
theorem dX6_isHelper_1 : decode cX6_isHelper 1 = .ok (.iconst 0, 1) := by decide +kernel
theorem dX6_isHelper_2 : decode cX6_isHelper 2 = .ok (.aload_n 0, 1) := by decide +kernel
theorem dX6_isHelper_3 : decode cX6_isHelper 3 = .ok (.getfield 13, 3) := by decide +kernel
theorem dX6_isHelper_6 : decode cX6_isHelper 6 = .ok (.iconst 1, 1) := by decide +kernel
theorem dX6_isHelper_7 : decode cX6_isHelper 7 = .ok (.iaload, 1) := by decide +kernel
theorem dX6_isHelper_8 : decode cX6_isHelper 8 = .ok (.iconst 1, 1) := by decide +kernel
theorem dX6_isHelper_9 : decode cX6_isHelper 9 = .ok (.isub, 1) := by decide +kernel
theorem dX6_isHelper_10 : decode cX6_isHelper 10 = .ok (.invokestatic 69, 3) := by decide +kernel
theorem dX6_isHelper_13 : decode cX6_isHelper 13 = .ok (.ireturn, 1) := by decide +kernel
theorem dX6_ones_0 : decode cX6_ones 0 = .ok (.iconst 0, 1) := by decide +kernel
theorem dX6_ones_1 : decode cX6_ones 1 = .ok (.istore_n 1, 1) := by decide +kernel
theorem dX6_ones_2 : decode cX6_ones 2 = .ok (.iconst 0, 1) := by decide +kernel
theorem dX6_ones_3 : decode cX6_ones 3 = .ok (.istore_n 2, 1) := by decide +kernel
theorem dX6_ones_4 : decode cX6_ones 4 = .ok (.iload_n 2, 1) := by decide +kernel
theorem dX6_ones_5 : decode cX6_ones 5 = .ok (.bipush 8, 2) := by decide +kernel
theorem dX6_ones_7 : decode cX6_ones 7 = .ok (.if_icmp .ge 17, 3) := by decide +kernel
theorem dX6_ones_10 : decode cX6_ones 10 = .ok (.iload_n 1, 1) := by decide +kernel
theorem dX6_ones_11 : decode cX6_ones 11 = .ok (.iload_n 0, 1) := by decide +kernel
theorem dX6_ones_12 : decode cX6_ones 12 = .ok (.iload_n 2, 1) := by decide +kernel
theorem dX6_ones_13 : decode cX6_ones 13 = .ok (.ishr, 1) := by decide +kernel
theorem dX6_ones_14 : decode cX6_ones 14 = .ok (.iconst 1, 1) := by decide +kernel
theorem dX6_ones_15 : decode cX6_ones 15 = .ok (.iand, 1) := by decide +kernel
theorem dX6_ones_16 : decode cX6_ones 16 = .ok (.iadd, 1) := by decide +kernel
theorem dX6_ones_17 : decode cX6_ones 17 = .ok (.istore_n 1, 1) := by decide +kernel
theorem dX6_ones_18 : decode cX6_ones 18 = .ok (.iinc 2 1, 3) := by decide +kernel
theorem dX6_ones_21 : decode cX6_ones 21 = .ok (.goto (-17), 3) := by decide +kernel
theorem dX6_ones_24 : decode cX6_ones 24 = .ok (.iload_n 1, 1) := by decide +kernel
theorem dX6_ones_25 : decode cX6_ones 25 = .ok (.ireturn, 1) := by decide +kernel
set_option maxRecDepth 20000 in
theorem ggX6_write_X6_in : GoodIn wsX6_write wsX6_in := goodIn_r _ [6] (by decide +kernel) (by decide +kernel)
set_option maxRecDepth 20000 in
theorem gX6_write_X6_in : GoodIn wsX6_write (va_wsS RX6 69 yX6_in wsX6_in) := goodIn_app (goodIn_of _ (by decide +kernel)) ggX6_write_X6_in
theorem dX6_write_0 : decode cX6_write 0 = .ok (.iload_n 1, 1) := by decide +kernel
theorem dX6_write_1 : decode cX6_write 1 = .ok (.bipush 32, 2) := by decide +kernel
theorem dX6_write_3 : decode cX6_write 3 = .ok (.bipush 126, 2) := by decide +kernel
theorem dX6_write_5 : decode cX6_write 5 = .ok (.invokestatic 69, 3) := by decide +kernel
theorem dX6_write_8 : decode cX6_write 8 = .ok (.ifCond .ne 5, 3) := by decide +kernel
theorem dX6_write_11 : decode cX6_write 11 = .ok (.iconst (-1), 1) := by decide +kernel
theorem dX6_write_12 : decode cX6_write 12 = .ok (.ireturn, 1) := by decide +kernel
theorem dX6_write_13 : decode cX6_write 13 = .ok (.aload_n 0, 1) := by decide +kernel
theorem dX6_write_14 : decode cX6_write 14 = .ok (.getfield 73, 3) := by decide +kernel
theorem dX6_write_17 : decode cX6_write 17 = .ok (.sipush 200, 3) := by decide +kernel
theorem dX6_write_20 : decode cX6_write 20 = .ok (.if_icmp .ne 6, 3) := by decide +kernel
theorem dX6_write_23 : decode cX6_write 23 = .ok (.bipush (-3), 2) := by decide +kernel
theorem dX6_write_25 : decode cX6_write 25 = .ok (.ireturn, 1) := by decide +kernel
theorem dX6_write_26 : decode cX6_write 26 = .ok (.aload_n 0, 1) := by decide +kernel
theorem dX6_write_27 : decode cX6_write 27 = .ok (.getfield 7, 3) := by decide +kernel
theorem dX6_write_30 : decode cX6_write 30 = .ok (.aload_n 0, 1) := by decide +kernel
theorem dX6_write_31 : decode cX6_write 31 = .ok (.getfield 73, 3) := by decide +kernel
theorem dX6_write_34 : decode cX6_write 34 = .ok (.iload_n 1, 1) := by decide +kernel
theorem dX6_write_35 : decode cX6_write 35 = .ok (.iastore, 1) := by decide +kernel
theorem dX6_write_36 : decode cX6_write 36 = .ok (.aload_n 0, 1) := by decide +kernel
theorem dX6_write_37 : decode cX6_write 37 = .ok (.dup, 1) := by decide +kernel
theorem dX6_write_38 : decode cX6_write 38 = .ok (.getfield 73, 3) := by decide +kernel
theorem dX6_write_41 : decode cX6_write 41 = .ok (.iconst 1, 1) := by decide +kernel
theorem dX6_write_42 : decode cX6_write 42 = .ok (.iadd, 1) := by decide +kernel
theorem dX6_write_43 : decode cX6_write 43 = .ok (.putfield 73, 3) := by decide +kernel
theorem dX6_write_46 : decode cX6_write 46 = .ok (.aload_n 0, 1) := by decide +kernel
theorem dX6_write_47 : decode cX6_write 47 = .ok (.getfield 73, 3) := by decide +kernel
theorem dX6_write_50 : decode cX6_write 50 = .ok (.ireturn, 1) := by decide +kernel
theorem dX6_wipe_0 : decode cX6_wipe 0 = .ok (.aload_n 0, 1) := by decide +kernel
theorem dX6_wipe_1 : decode cX6_wipe 1 = .ok (.getfield 73, 3) := by decide +kernel
theorem dX6_wipe_4 : decode cX6_wipe 4 = .ok (.istore_n 1, 1) := by decide +kernel
theorem dX6_wipe_5 : decode cX6_wipe 5 = .ok (.aload_n 0, 1) := by decide +kernel
theorem dX6_wipe_6 : decode cX6_wipe 6 = .ok (.iconst 0, 1) := by decide +kernel
theorem dX6_wipe_7 : decode cX6_wipe 7 = .ok (.putfield 73, 3) := by decide +kernel
theorem dX6_wipe_10 : decode cX6_wipe 10 = .ok (.iload_n 1, 1) := by decide +kernel
theorem dX6_wipe_11 : decode cX6_wipe 11 = .ok (.ireturn, 1) := by decide +kernel
theorem dX6_letterAt_0 : decode cX6_letterAt 0 = .ok (.iload_n 1, 1) := by decide +kernel
theorem dX6_letterAt_1 : decode cX6_letterAt 1 = .ok (.aload_n 0, 1) := by decide +kernel
theorem dX6_letterAt_2 : decode cX6_letterAt 2 = .ok (.getfield 73, 3) := by decide +kernel
theorem dX6_letterAt_5 : decode cX6_letterAt 5 = .ok (.if_icmp .ge 12, 3) := by decide +kernel
theorem dX6_letterAt_8 : decode cX6_letterAt 8 = .ok (.aload_n 0, 1) := by decide +kernel
theorem dX6_letterAt_9 : decode cX6_letterAt 9 = .ok (.getfield 7, 3) := by decide +kernel
theorem dX6_letterAt_12 : decode cX6_letterAt 12 = .ok (.iload_n 1, 1) := by decide +kernel
theorem dX6_letterAt_13 : decode cX6_letterAt 13 = .ok (.iaload, 1) := by decide +kernel
theorem dX6_letterAt_14 : decode cX6_letterAt 14 = .ok (.goto 4, 3) := by decide +kernel
theorem dX6_letterAt_17 : decode cX6_letterAt 17 = .ok (.iconst (-1), 1) := by decide +kernel
theorem dX6_letterAt_18 : decode cX6_letterAt 18 = .ok (.ireturn, 1) := by decide +kernel
set_option maxRecDepth 20000 in
theorem ggX6_isFigure_X6_in : GoodIn wsX6_isFigure wsX6_in := goodIn_r _ [4] (by decide +kernel) (by decide +kernel)
set_option maxRecDepth 20000 in
theorem gX6_isFigure_X6_in : GoodIn wsX6_isFigure (va_wsS RX6 69 yX6_in wsX6_in) := goodIn_app (goodIn_of _ (by decide +kernel)) ggX6_isFigure_X6_in
theorem dX6_isFigure_0 : decode cX6_isFigure 0 = .ok (.iload_n 0, 1) := by decide +kernel
theorem dX6_isFigure_1 : decode cX6_isFigure 1 = .ok (.bipush 48, 2) := by decide +kernel
theorem dX6_isFigure_3 : decode cX6_isFigure 3 = .ok (.bipush 57, 2) := by decide +kernel
theorem dX6_isFigure_5 : decode cX6_isFigure 5 = .ok (.invokestatic 69, 3) := by decide +kernel
theorem dX6_isFigure_8 : decode cX6_isFigure 8 = .ok (.ireturn, 1) := by decide +kernel
set_option maxRecDepth 20000 in
theorem ggX6_number_X6_letterAt : GoodIn wsX6_number wsX6_letterAt := goodIn_r _ [6, 7, 8, 15, 16, 17, 18, 19, 20, 21, 22, 23, 24, 25, 26, 27, 28, 29, 30, 31, 32, 33, 34, 35, 36, 37] (by decide +kernel) (by decide +kernel)
set_option maxRecDepth 20000 in
theorem gX6_number_X6_letterAt : GoodIn wsX6_number (wsV RX6 80 RX6 yX6_letterAt wsX6_letterAt) := goodIn_app (goodIn_of _ (by decide +kernel)) ggX6_number_X6_letterAt
set_option maxRecDepth 20000 in
theorem ggX6_number_X6_isFigure : GoodIn wsX6_number wsX6_isFigure := goodIn_r _ [11, 12, 13, 5, 14] (by decide +kernel) (by decide +kernel)
set_option maxRecDepth 20000 in
theorem gX6_number_X6_isFigure : GoodIn wsX6_number (va_wsS RX6 84 yX6_isFigure wsX6_isFigure) := goodIn_app (goodIn_of _ (by decide +kernel)) ggX6_number_X6_isFigure
set_option maxRecDepth 20000 in
theorem ggX6_number_X6_in : GoodIn wsX6_number wsX6_in := goodIn_r _ [14] (by decide +kernel) (by decide +kernel)
set_option maxRecDepth 20000 in
theorem gX6_number_X6_in : GoodIn wsX6_number (va_wsS RX6 69 yX6_in wsX6_in) := goodIn_app (goodIn_of _ (by decide +kernel)) ggX6_number_X6_in
theorem dX6_number_0 : decode cX6_number 0 = .ok (.aload_n 0, 1) := by decide +kernel
theorem dX6_number_1 : decode cX6_number 1 = .ok (.aload_n 0, 1) := by decide +kernel
theorem dX6_number_2 : decode cX6_number 2 = .ok (.getfield 77, 3) := by decide +kernel
theorem dX6_number_5 : decode cX6_number 5 = .ok (.invokevirtual 80, 3) := by decide +kernel
theorem dX6_number_8 : decode cX6_number 8 = .ok (.invokestatic 84, 3) := by decide +kernel
theorem dX6_number_11 : decode cX6_number 11 = .ok (.ifCond .ne 5, 3) := by decide +kernel
theorem dX6_number_14 : decode cX6_number 14 = .ok (.iconst (-1), 1) := by decide +kernel
theorem dX6_number_15 : decode cX6_number 15 = .ok (.ireturn, 1) := by decide +kernel
theorem dX6_number_16 : decode cX6_number 16 = .ok (.aload_n 0, 1) := by decide +kernel
theorem dX6_number_17 : decode cX6_number 17 = .ok (.aload_n 0, 1) := by decide +kernel
theorem dX6_number_18 : decode cX6_number 18 = .ok (.getfield 77, 3) := by decide +kernel
theorem dX6_number_21 : decode cX6_number 21 = .ok (.invokevirtual 80, 3) := by decide +kernel
theorem dX6_number_24 : decode cX6_number 24 = .ok (.bipush 48, 2) := by decide +kernel
theorem dX6_number_26 : decode cX6_number 26 = .ok (.isub, 1) := by decide +kernel
theorem dX6_number_27 : decode cX6_number 27 = .ok (.istore 4, 2) := by decide +kernel
theorem dX6_number_29 : decode cX6_number 29 = .ok (.aload_n 0, 1) := by decide +kernel
theorem dX6_number_30 : decode cX6_number 30 = .ok (.dup, 1) := by decide +kernel
theorem dX6_number_31 : decode cX6_number 31 = .ok (.getfield 77, 3) := by decide +kernel
theorem dX6_number_34 : decode cX6_number 34 = .ok (.iconst 1, 1) := by decide +kernel
theorem dX6_number_35 : decode cX6_number 35 = .ok (.iadd, 1) := by decide +kernel
theorem dX6_number_36 : decode cX6_number 36 = .ok (.putfield 77, 3) := by decide +kernel
theorem dX6_number_39 : decode cX6_number 39 = .ok (.aload_n 0, 1) := by decide +kernel
theorem dX6_number_40 : decode cX6_number 40 = .ok (.aload_n 0, 1) := by decide +kernel
theorem dX6_number_41 : decode cX6_number 41 = .ok (.getfield 77, 3) := by decide +kernel
theorem dX6_number_44 : decode cX6_number 44 = .ok (.invokevirtual 80, 3) := by decide +kernel
theorem dX6_number_47 : decode cX6_number 47 = .ok (.invokestatic 84, 3) := by decide +kernel
theorem dX6_number_50 : decode cX6_number 50 = .ok (.ifCond .eq 32, 3) := by decide +kernel
theorem dX6_number_53 : decode cX6_number 53 = .ok (.bipush 10, 2) := by decide +kernel
theorem dX6_number_55 : decode cX6_number 55 = .ok (.iload 4, 2) := by decide +kernel
theorem dX6_number_57 : decode cX6_number 57 = .ok (.imul, 1) := by decide +kernel
theorem dX6_number_58 : decode cX6_number 58 = .ok (.aload_n 0, 1) := by decide +kernel
theorem dX6_number_59 : decode cX6_number 59 = .ok (.aload_n 0, 1) := by decide +kernel
theorem dX6_number_60 : decode cX6_number 60 = .ok (.getfield 77, 3) := by decide +kernel
theorem dX6_number_63 : decode cX6_number 63 = .ok (.invokevirtual 80, 3) := by decide +kernel
theorem dX6_number_66 : decode cX6_number 66 = .ok (.iadd, 1) := by decide +kernel
theorem dX6_number_67 : decode cX6_number 67 = .ok (.bipush 48, 2) := by decide +kernel
theorem dX6_number_69 : decode cX6_number 69 = .ok (.isub, 1) := by decide +kernel
theorem dX6_number_70 : decode cX6_number 70 = .ok (.istore 4, 2) := by decide +kernel
theorem dX6_number_72 : decode cX6_number 72 = .ok (.aload_n 0, 1) := by decide +kernel
theorem dX6_number_73 : decode cX6_number 73 = .ok (.dup, 1) := by decide +kernel
theorem dX6_number_74 : decode cX6_number 74 = .ok (.getfield 77, 3) := by decide +kernel
theorem dX6_number_77 : decode cX6_number 77 = .ok (.iconst 1, 1) := by decide +kernel
theorem dX6_number_78 : decode cX6_number 78 = .ok (.iadd, 1) := by decide +kernel
theorem dX6_number_79 : decode cX6_number 79 = .ok (.putfield 77, 3) := by decide +kernel
theorem dX6_number_82 : decode cX6_number 82 = .ok (.aload_n 0, 1) := by decide +kernel
theorem dX6_number_83 : decode cX6_number 83 = .ok (.aload_n 0, 1) := by decide +kernel
theorem dX6_number_84 : decode cX6_number 84 = .ok (.getfield 77, 3) := by decide +kernel
theorem dX6_number_87 : decode cX6_number 87 = .ok (.invokevirtual 80, 3) := by decide +kernel
theorem dX6_number_90 : decode cX6_number 90 = .ok (.iload_n 3, 1) := by decide +kernel
theorem dX6_number_91 : decode cX6_number 91 = .ok (.if_icmp .ne 17, 3) := by decide +kernel
theorem dX6_number_94 : decode cX6_number 94 = .ok (.iload 4, 2) := by decide +kernel
theorem dX6_number_96 : decode cX6_number 96 = .ok (.iload_n 1, 1) := by decide +kernel
theorem dX6_number_97 : decode cX6_number 97 = .ok (.iload_n 2, 1) := by decide +kernel
theorem dX6_number_98 : decode cX6_number 98 = .ok (.invokestatic 69, 3) := by decide +kernel
theorem dX6_number_101 : decode cX6_number 101 = .ok (.ifCond .eq 7, 3) := by decide +kernel
theorem dX6_number_104 : decode cX6_number 104 = .ok (.iconst 1, 1) := by decide +kernel
theorem dX6_number_105 : decode cX6_number 105 = .ok (.goto 4, 3) := by decide +kernel
theorem dX6_number_108 : decode cX6_number 108 = .ok (.iconst 0, 1) := by decide +kernel
theorem dX6_number_109 : decode cX6_number 109 = .ok (.istore 5, 2) := by decide +kernel
theorem dX6_number_111 : decode cX6_number 111 = .ok (.aload_n 0, 1) := by decide +kernel
theorem dX6_number_112 : decode cX6_number 112 = .ok (.dup, 1) := by decide +kernel
theorem dX6_number_113 : decode cX6_number 113 = .ok (.getfield 77, 3) := by decide +kernel
theorem dX6_number_116 : decode cX6_number 116 = .ok (.iconst 1, 1) := by decide +kernel
theorem dX6_number_117 : decode cX6_number 117 = .ok (.iadd, 1) := by decide +kernel
theorem dX6_number_118 : decode cX6_number 118 = .ok (.putfield 77, 3) := by decide +kernel
theorem dX6_number_121 : decode cX6_number 121 = .ok (.iload 5, 2) := by decide +kernel
theorem dX6_number_123 : decode cX6_number 123 = .ok (.ifCond .eq 8, 3) := by decide +kernel
theorem dX6_number_126 : decode cX6_number 126 = .ok (.iload 4, 2) := by decide +kernel
theorem dX6_number_128 : decode cX6_number 128 = .ok (.goto 4, 3) := by decide +kernel
theorem dX6_number_131 : decode cX6_number 131 = .ok (.iconst (-1), 1) := by decide +kernel
theorem dX6_number_132 : decode cX6_number 132 = .ok (.ireturn, 1) := by decide +kernel
theorem dX6_begins_0 : decode cX6_begins 0 = .ok (.iconst 0, 1) := by decide +kernel
theorem dX6_begins_1 : decode cX6_begins 1 = .ok (.istore_n 1, 1) := by decide +kernel
theorem dX6_begins_2 : decode cX6_begins 2 = .ok (.iload_n 1, 1) := by decide +kernel
theorem dX6_begins_3 : decode cX6_begins 3 = .ok (.bipush 51, 2) := by decide +kernel
theorem dX6_begins_5 : decode cX6_begins 5 = .ok (.if_icmp .ge 16, 3) := by decide +kernel
theorem dX6_begins_8 : decode cX6_begins 8 = .ok (.aload_n 0, 1) := by decide +kernel
theorem dX6_begins_9 : decode cX6_begins 9 = .ok (.getfield 16, 3) := by decide +kernel
theorem dX6_begins_12 : decode cX6_begins 12 = .ok (.iload_n 1, 1) := by decide +kernel
theorem dX6_begins_13 : decode cX6_begins 13 = .ok (.iconst 0, 1) := by decide +kernel
theorem dX6_begins_14 : decode cX6_begins 14 = .ok (.iastore, 1) := by decide +kernel
theorem dX6_begins_15 : decode cX6_begins 15 = .ok (.iinc 1 1, 3) := by decide +kernel
theorem dX6_begins_18 : decode cX6_begins 18 = .ok (.goto (-16), 3) := by decide +kernel
theorem dX6_begins_21 : decode cX6_begins 21 = .ok (.aload_n 0, 1) := by decide +kernel
theorem dX6_begins_22 : decode cX6_begins 22 = .ok (.getfield 16, 3) := by decide +kernel
theorem dX6_begins_25 : decode cX6_begins 25 = .ok (.iconst 2, 1) := by decide +kernel
theorem dX6_begins_26 : decode cX6_begins 26 = .ok (.bipush 20, 2) := by decide +kernel
theorem dX6_begins_28 : decode cX6_begins 28 = .ok (.iastore, 1) := by decide +kernel
theorem dX6_begins_29 : decode cX6_begins 29 = .ok (.aload_n 0, 1) := by decide +kernel
theorem dX6_begins_30 : decode cX6_begins 30 = .ok (.getfield 16, 3) := by decide +kernel
theorem dX6_begins_33 : decode cX6_begins 33 = .ok (.iconst 3, 1) := by decide +kernel
theorem dX6_begins_34 : decode cX6_begins 34 = .ok (.bipush 30, 2) := by decide +kernel
theorem dX6_begins_36 : decode cX6_begins 36 = .ok (.iastore, 1) := by decide +kernel
theorem dX6_begins_37 : decode cX6_begins 37 = .ok (.return_, 1) := by decide +kernel
theorem dX6_taskOf_0 : decode cX6_taskOf 0 = .ok (.aload_n 0, 1) := by decide +kernel
theorem dX6_taskOf_1 : decode cX6_taskOf 1 = .ok (.getfield 16, 3) := by decide +kernel
theorem dX6_taskOf_4 : decode cX6_taskOf 4 = .ok (.iconst 0, 1) := by decide +kernel
theorem dX6_taskOf_5 : decode cX6_taskOf 5 = .ok (.iaload, 1) := by decide +kernel
theorem dX6_taskOf_6 : decode cX6_taskOf 6 = .ok (.istore 5, 2) := by decide +kernel
theorem dX6_taskOf_8 : decode cX6_taskOf 8 = .ok (.aload_n 0, 1) := by decide +kernel
theorem dX6_taskOf_9 : decode cX6_taskOf 9 = .ok (.getfield 16, 3) := by decide +kernel
theorem dX6_taskOf_12 : decode cX6_taskOf 12 = .ok (.iconst 5, 1) := by decide +kernel
theorem dX6_taskOf_13 : decode cX6_taskOf 13 = .ok (.iload 5, 2) := by decide +kernel
theorem dX6_taskOf_15 : decode cX6_taskOf 15 = .ok (.iadd, 1) := by decide +kernel
theorem dX6_taskOf_16 : decode cX6_taskOf 16 = .ok (.iload_n 1, 1) := by decide +kernel
theorem dX6_taskOf_17 : decode cX6_taskOf 17 = .ok (.iastore, 1) := by decide +kernel
theorem dX6_taskOf_18 : decode cX6_taskOf 18 = .ok (.aload_n 0, 1) := by decide +kernel
theorem dX6_taskOf_19 : decode cX6_taskOf 19 = .ok (.getfield 16, 3) := by decide +kernel
theorem dX6_taskOf_22 : decode cX6_taskOf 22 = .ok (.bipush 13, 2) := by decide +kernel
theorem dX6_taskOf_24 : decode cX6_taskOf 24 = .ok (.iload 5, 2) := by decide +kernel
theorem dX6_taskOf_26 : decode cX6_taskOf 26 = .ok (.iadd, 1) := by decide +kernel
theorem dX6_taskOf_27 : decode cX6_taskOf 27 = .ok (.iload_n 2, 1) := by decide +kernel
theorem dX6_taskOf_28 : decode cX6_taskOf 28 = .ok (.iastore, 1) := by decide +kernel
theorem dX6_taskOf_29 : decode cX6_taskOf 29 = .ok (.aload_n 0, 1) := by decide +kernel
theorem dX6_taskOf_30 : decode cX6_taskOf 30 = .ok (.getfield 16, 3) := by decide +kernel
theorem dX6_taskOf_33 : decode cX6_taskOf 33 = .ok (.bipush 21, 2) := by decide +kernel
theorem dX6_taskOf_35 : decode cX6_taskOf 35 = .ok (.iload 5, 2) := by decide +kernel
theorem dX6_taskOf_37 : decode cX6_taskOf 37 = .ok (.iadd, 1) := by decide +kernel
theorem dX6_taskOf_38 : decode cX6_taskOf 38 = .ok (.iload_n 3, 1) := by decide +kernel
theorem dX6_taskOf_39 : decode cX6_taskOf 39 = .ok (.iastore, 1) := by decide +kernel
theorem dX6_taskOf_40 : decode cX6_taskOf 40 = .ok (.aload_n 0, 1) := by decide +kernel
theorem dX6_taskOf_41 : decode cX6_taskOf 41 = .ok (.getfield 16, 3) := by decide +kernel
theorem dX6_taskOf_44 : decode cX6_taskOf 44 = .ok (.bipush 29, 2) := by decide +kernel
theorem dX6_taskOf_46 : decode cX6_taskOf 46 = .ok (.iload 5, 2) := by decide +kernel
theorem dX6_taskOf_48 : decode cX6_taskOf 48 = .ok (.iadd, 1) := by decide +kernel
theorem dX6_taskOf_49 : decode cX6_taskOf 49 = .ok (.iload 4, 2) := by decide +kernel
theorem dX6_taskOf_51 : decode cX6_taskOf 51 = .ok (.iastore, 1) := by decide +kernel
theorem dX6_taskOf_52 : decode cX6_taskOf 52 = .ok (.aload_n 0, 1) := by decide +kernel
theorem dX6_taskOf_53 : decode cX6_taskOf 53 = .ok (.getfield 16, 3) := by decide +kernel
theorem dX6_taskOf_56 : decode cX6_taskOf 56 = .ok (.iconst 0, 1) := by decide +kernel
theorem dX6_taskOf_57 : decode cX6_taskOf 57 = .ok (.dup2, 1) := by decide +kernel
theorem dX6_taskOf_58 : decode cX6_taskOf 58 = .ok (.iaload, 1) := by decide +kernel
theorem dX6_taskOf_59 : decode cX6_taskOf 59 = .ok (.iconst 1, 1) := by decide +kernel
theorem dX6_taskOf_60 : decode cX6_taskOf 60 = .ok (.iadd, 1) := by decide +kernel
theorem dX6_taskOf_61 : decode cX6_taskOf 61 = .ok (.iastore, 1) := by decide +kernel
theorem dX6_taskOf_62 : decode cX6_taskOf 62 = .ok (.return_, 1) := by decide +kernel
theorem dX6_helperOf_0 : decode cX6_helperOf 0 = .ok (.aload_n 0, 1) := by decide +kernel
theorem dX6_helperOf_1 : decode cX6_helperOf 1 = .ok (.getfield 16, 3) := by decide +kernel
theorem dX6_helperOf_4 : decode cX6_helperOf 4 = .ok (.iconst 1, 1) := by decide +kernel
theorem dX6_helperOf_5 : decode cX6_helperOf 5 = .ok (.iaload, 1) := by decide +kernel
theorem dX6_helperOf_6 : decode cX6_helperOf 6 = .ok (.istore_n 3, 1) := by decide +kernel
theorem dX6_helperOf_7 : decode cX6_helperOf 7 = .ok (.aload_n 0, 1) := by decide +kernel
theorem dX6_helperOf_8 : decode cX6_helperOf 8 = .ok (.getfield 16, 3) := by decide +kernel
theorem dX6_helperOf_11 : decode cX6_helperOf 11 = .ok (.bipush 37, 2) := by decide +kernel
theorem dX6_helperOf_13 : decode cX6_helperOf 13 = .ok (.iload_n 3, 1) := by decide +kernel
theorem dX6_helperOf_14 : decode cX6_helperOf 14 = .ok (.iadd, 1) := by decide +kernel
theorem dX6_helperOf_15 : decode cX6_helperOf 15 = .ok (.iload_n 1, 1) := by decide +kernel
theorem dX6_helperOf_16 : decode cX6_helperOf 16 = .ok (.iastore, 1) := by decide +kernel
theorem dX6_helperOf_17 : decode cX6_helperOf 17 = .ok (.aload_n 0, 1) := by decide +kernel
theorem dX6_helperOf_18 : decode cX6_helperOf 18 = .ok (.getfield 16, 3) := by decide +kernel
theorem dX6_helperOf_21 : decode cX6_helperOf 21 = .ok (.bipush 44, 2) := by decide +kernel
theorem dX6_helperOf_23 : decode cX6_helperOf 23 = .ok (.iload_n 3, 1) := by decide +kernel
theorem dX6_helperOf_24 : decode cX6_helperOf 24 = .ok (.iadd, 1) := by decide +kernel
theorem dX6_helperOf_25 : decode cX6_helperOf 25 = .ok (.iload_n 2, 1) := by decide +kernel
theorem dX6_helperOf_26 : decode cX6_helperOf 26 = .ok (.iastore, 1) := by decide +kernel
theorem dX6_helperOf_27 : decode cX6_helperOf 27 = .ok (.aload_n 0, 1) := by decide +kernel
theorem dX6_helperOf_28 : decode cX6_helperOf 28 = .ok (.getfield 16, 3) := by decide +kernel
theorem dX6_helperOf_31 : decode cX6_helperOf 31 = .ok (.iconst 1, 1) := by decide +kernel
theorem dX6_helperOf_32 : decode cX6_helperOf 32 = .ok (.dup2, 1) := by decide +kernel
theorem dX6_helperOf_33 : decode cX6_helperOf 33 = .ok (.iaload, 1) := by decide +kernel
theorem dX6_helperOf_34 : decode cX6_helperOf 34 = .ok (.iconst 1, 1) := by decide +kernel
theorem dX6_helperOf_35 : decode cX6_helperOf 35 = .ok (.iadd, 1) := by decide +kernel
theorem dX6_helperOf_36 : decode cX6_helperOf 36 = .ok (.iastore, 1) := by decide +kernel
theorem dX6_helperOf_37 : decode cX6_helperOf 37 = .ok (.return_, 1) := by decide +kernel
set_option maxRecDepth 20000 in
theorem ggX6_readsItem_X6_number : GoodIn wsX6_readsItem wsX6_number := goodIn_r _ [6, 7, 8, 9, 10, 5, 11, 12, 13, 14, 15, 16, 17, 18, 19, 28, 29, 30, 31, 32, 33, 34, 35, 36, 37, 38, 39, 40, 41, 42, 43, 44, 45, 46, 47, 48, 49, 50] (by decide +kernel) (by decide +kernel)
set_option maxRecDepth 20000 in
theorem gX6_readsItem_X6_number : GoodIn wsX6_readsItem (wsV RX6 88 RX6 yX6_number wsX6_number) := goodIn_app (goodIn_of _ (by decide +kernel)) ggX6_readsItem_X6_number
set_option maxRecDepth 20000 in
theorem ggX6_readsItem_X6_taskOf : GoodIn wsX6_readsItem wsX6_taskOf := goodIn_r _ [23, 1, 28, 29, 30, 31, 32, 33, 34, 35, 36, 37, 38, 39, 40, 41, 42, 43, 44, 45, 46, 47, 48, 49, 50] (by decide +kernel) (by decide +kernel)
set_option maxRecDepth 20000 in
theorem gX6_readsItem_X6_taskOf : GoodIn wsX6_readsItem (wsV RX6 58 RX6 yX6_taskOf wsX6_taskOf) := goodIn_app (goodIn_of _ (by decide +kernel)) ggX6_readsItem_X6_taskOf
set_option maxRecDepth 20000 in
theorem ggX6_readsItem_X6_helperOf : GoodIn wsX6_readsItem wsX6_helperOf := goodIn_r _ [27, 1, 28, 29, 30, 31, 32, 33, 34, 35, 36, 37, 38, 39, 40, 41, 42, 43, 44, 45, 46, 47, 48, 49, 50] (by decide +kernel) (by decide +kernel)
set_option maxRecDepth 20000 in
theorem gX6_readsItem_X6_helperOf : GoodIn wsX6_readsItem (wsV RX6 62 RX6 yX6_helperOf wsX6_helperOf) := goodIn_app (goodIn_of _ (by decide +kernel)) ggX6_readsItem_X6_helperOf
theorem dX6_readsItem_0 : decode cX6_readsItem 0 = .ok (.iload_n 1, 1) := by decide +kernel
theorem dX6_readsItem_1 : decode cX6_readsItem 1 = .ok (.lookupswitch 304 #[(97, 198), (99, 244), (104, 146), (108, 274), (116, 51)], 51) := by decide +kernel
theorem dX6_readsItem_52 : decode cX6_readsItem 52 = .ok (.aload_n 0, 1) := by decide +kernel
theorem dX6_readsItem_53 : decode cX6_readsItem 53 = .ok (.iconst 0, 1) := by decide +kernel
theorem dX6_readsItem_54 : decode cX6_readsItem 54 = .ok (.iconst 4, 1) := by decide +kernel
theorem dX6_readsItem_55 : decode cX6_readsItem 55 = .ok (.bipush 44, 2) := by decide +kernel
theorem dX6_readsItem_57 : decode cX6_readsItem 57 = .ok (.invokevirtual 88, 3) := by decide +kernel
theorem dX6_readsItem_60 : decode cX6_readsItem 60 = .ok (.istore_n 2, 1) := by decide +kernel
theorem dX6_readsItem_61 : decode cX6_readsItem 61 = .ok (.iload_n 2, 1) := by decide +kernel
theorem dX6_readsItem_62 : decode cX6_readsItem 62 = .ok (.ifCond .ge 7, 3) := by decide +kernel
theorem dX6_readsItem_65 : decode cX6_readsItem 65 = .ok (.iconst (-1), 1) := by decide +kernel
theorem dX6_readsItem_66 : decode cX6_readsItem 66 = .ok (.goto 12, 3) := by decide +kernel
theorem dX6_readsItem_69 : decode cX6_readsItem 69 = .ok (.aload_n 0, 1) := by decide +kernel
theorem dX6_readsItem_70 : decode cX6_readsItem 70 = .ok (.iconst 0, 1) := by decide +kernel
theorem dX6_readsItem_71 : decode cX6_readsItem 71 = .ok (.bipush 9, 2) := by decide +kernel
theorem dX6_readsItem_73 : decode cX6_readsItem 73 = .ok (.bipush 44, 2) := by decide +kernel
theorem dX6_readsItem_75 : decode cX6_readsItem 75 = .ok (.invokevirtual 88, 3) := by decide +kernel
theorem dX6_readsItem_78 : decode cX6_readsItem 78 = .ok (.istore_n 3, 1) := by decide +kernel
theorem dX6_readsItem_79 : decode cX6_readsItem 79 = .ok (.iload_n 3, 1) := by decide +kernel
theorem dX6_readsItem_80 : decode cX6_readsItem 80 = .ok (.ifCond .ge 7, 3) := by decide +kernel
theorem dX6_readsItem_83 : decode cX6_readsItem 83 = .ok (.iconst (-1), 1) := by decide +kernel
theorem dX6_readsItem_84 : decode cX6_readsItem 84 = .ok (.goto 11, 3) := by decide +kernel
theorem dX6_readsItem_87 : decode cX6_readsItem 87 = .ok (.aload_n 0, 1) := by decide +kernel
theorem dX6_readsItem_88 : decode cX6_readsItem 88 = .ok (.iconst 0, 1) := by decide +kernel
theorem dX6_readsItem_89 : decode cX6_readsItem 89 = .ok (.iconst 5, 1) := by decide +kernel
theorem dX6_readsItem_90 : decode cX6_readsItem 90 = .ok (.bipush 44, 2) := by decide +kernel
theorem dX6_readsItem_92 : decode cX6_readsItem 92 = .ok (.invokevirtual 88, 3) := by decide +kernel
theorem dX6_readsItem_95 : decode cX6_readsItem 95 = .ok (.istore 4, 2) := by decide +kernel
theorem dX6_readsItem_97 : decode cX6_readsItem 97 = .ok (.iload 4, 2) := by decide +kernel
theorem dX6_readsItem_99 : decode cX6_readsItem 99 = .ok (.ifCond .ge 7, 3) := by decide +kernel
theorem dX6_readsItem_102 : decode cX6_readsItem 102 = .ok (.iconst (-1), 1) := by decide +kernel
theorem dX6_readsItem_103 : decode cX6_readsItem 103 = .ok (.goto 12, 3) := by decide +kernel
theorem dX6_readsItem_106 : decode cX6_readsItem 106 = .ok (.aload_n 0, 1) := by decide +kernel
theorem dX6_readsItem_107 : decode cX6_readsItem 107 = .ok (.iconst 0, 1) := by decide +kernel
theorem dX6_readsItem_108 : decode cX6_readsItem 108 = .ok (.bipush 7, 2) := by decide +kernel
theorem dX6_readsItem_110 : decode cX6_readsItem 110 = .ok (.bipush 59, 2) := by decide +kernel
theorem dX6_readsItem_112 : decode cX6_readsItem 112 = .ok (.invokevirtual 88, 3) := by decide +kernel
theorem dX6_readsItem_115 : decode cX6_readsItem 115 = .ok (.istore 5, 2) := by decide +kernel
theorem dX6_readsItem_117 : decode cX6_readsItem 117 = .ok (.iload 5, 2) := by decide +kernel
theorem dX6_readsItem_119 : decode cX6_readsItem 119 = .ok (.ifCond .lt 14, 3) := by decide +kernel
theorem dX6_readsItem_122 : decode cX6_readsItem 122 = .ok (.aload_n 0, 1) := by decide +kernel
theorem dX6_readsItem_123 : decode cX6_readsItem 123 = .ok (.getfield 16, 3) := by decide +kernel
theorem dX6_readsItem_126 : decode cX6_readsItem 126 = .ok (.iconst 0, 1) := by decide +kernel
theorem dX6_readsItem_127 : decode cX6_readsItem 127 = .ok (.iaload, 1) := by decide +kernel
theorem dX6_readsItem_128 : decode cX6_readsItem 128 = .ok (.bipush 8, 2) := by decide +kernel
theorem dX6_readsItem_130 : decode cX6_readsItem 130 = .ok (.if_icmp .ne 5, 3) := by decide +kernel
theorem dX6_readsItem_133 : decode cX6_readsItem 133 = .ok (.iconst 0, 1) := by decide +kernel
theorem dX6_readsItem_134 : decode cX6_readsItem 134 = .ok (.ireturn, 1) := by decide +kernel
theorem dX6_readsItem_135 : decode cX6_readsItem 135 = .ok (.aload_n 0, 1) := by decide +kernel
theorem dX6_readsItem_136 : decode cX6_readsItem 136 = .ok (.iload_n 2, 1) := by decide +kernel
theorem dX6_readsItem_137 : decode cX6_readsItem 137 = .ok (.iload_n 3, 1) := by decide +kernel
theorem dX6_readsItem_138 : decode cX6_readsItem 138 = .ok (.iload 4, 2) := by decide +kernel
theorem dX6_readsItem_140 : decode cX6_readsItem 140 = .ok (.iload 5, 2) := by decide +kernel
theorem dX6_readsItem_142 : decode cX6_readsItem 142 = .ok (.invokevirtual 58, 3) := by decide +kernel
theorem dX6_readsItem_145 : decode cX6_readsItem 145 = .ok (.iconst 1, 1) := by decide +kernel
theorem dX6_readsItem_146 : decode cX6_readsItem 146 = .ok (.ireturn, 1) := by decide +kernel
theorem dX6_readsItem_147 : decode cX6_readsItem 147 = .ok (.aload_n 0, 1) := by decide +kernel
theorem dX6_readsItem_148 : decode cX6_readsItem 148 = .ok (.iconst 0, 1) := by decide +kernel
theorem dX6_readsItem_149 : decode cX6_readsItem 149 = .ok (.iconst 4, 1) := by decide +kernel
theorem dX6_readsItem_150 : decode cX6_readsItem 150 = .ok (.bipush 44, 2) := by decide +kernel
theorem dX6_readsItem_152 : decode cX6_readsItem 152 = .ok (.invokevirtual 88, 3) := by decide +kernel
theorem dX6_readsItem_155 : decode cX6_readsItem 155 = .ok (.istore_n 2, 1) := by decide +kernel
theorem dX6_readsItem_156 : decode cX6_readsItem 156 = .ok (.iload_n 2, 1) := by decide +kernel
theorem dX6_readsItem_157 : decode cX6_readsItem 157 = .ok (.ifCond .ge 7, 3) := by decide +kernel
theorem dX6_readsItem_160 : decode cX6_readsItem 160 = .ok (.iconst (-1), 1) := by decide +kernel
theorem dX6_readsItem_161 : decode cX6_readsItem 161 = .ok (.goto 12, 3) := by decide +kernel
theorem dX6_readsItem_164 : decode cX6_readsItem 164 = .ok (.aload_n 0, 1) := by decide +kernel
theorem dX6_readsItem_165 : decode cX6_readsItem 165 = .ok (.iconst 0, 1) := by decide +kernel
theorem dX6_readsItem_166 : decode cX6_readsItem 166 = .ok (.bipush 20, 2) := by decide +kernel
theorem dX6_readsItem_168 : decode cX6_readsItem 168 = .ok (.bipush 59, 2) := by decide +kernel
theorem dX6_readsItem_170 : decode cX6_readsItem 170 = .ok (.invokevirtual 88, 3) := by decide +kernel
theorem dX6_readsItem_173 : decode cX6_readsItem 173 = .ok (.istore_n 3, 1) := by decide +kernel
theorem dX6_readsItem_174 : decode cX6_readsItem 174 = .ok (.iload_n 3, 1) := by decide +kernel
theorem dX6_readsItem_175 : decode cX6_readsItem 175 = .ok (.ifCond .lt 14, 3) := by decide +kernel
theorem dX6_readsItem_178 : decode cX6_readsItem 178 = .ok (.aload_n 0, 1) := by decide +kernel
theorem dX6_readsItem_179 : decode cX6_readsItem 179 = .ok (.getfield 16, 3) := by decide +kernel
theorem dX6_readsItem_182 : decode cX6_readsItem 182 = .ok (.iconst 1, 1) := by decide +kernel
theorem dX6_readsItem_183 : decode cX6_readsItem 183 = .ok (.iaload, 1) := by decide +kernel
theorem dX6_readsItem_184 : decode cX6_readsItem 184 = .ok (.bipush 7, 2) := by decide +kernel
theorem dX6_readsItem_186 : decode cX6_readsItem 186 = .ok (.if_icmp .ne 5, 3) := by decide +kernel
theorem dX6_readsItem_189 : decode cX6_readsItem 189 = .ok (.iconst 0, 1) := by decide +kernel
theorem dX6_readsItem_190 : decode cX6_readsItem 190 = .ok (.ireturn, 1) := by decide +kernel
theorem dX6_readsItem_191 : decode cX6_readsItem 191 = .ok (.aload_n 0, 1) := by decide +kernel
theorem dX6_readsItem_192 : decode cX6_readsItem 192 = .ok (.iload_n 2, 1) := by decide +kernel
theorem dX6_readsItem_193 : decode cX6_readsItem 193 = .ok (.iload_n 3, 1) := by decide +kernel
theorem dX6_readsItem_194 : decode cX6_readsItem 194 = .ok (.invokevirtual 62, 3) := by decide +kernel
theorem dX6_readsItem_197 : decode cX6_readsItem 197 = .ok (.iconst 1, 1) := by decide +kernel
theorem dX6_readsItem_198 : decode cX6_readsItem 198 = .ok (.ireturn, 1) := by decide +kernel
theorem dX6_readsItem_199 : decode cX6_readsItem 199 = .ok (.aload_n 0, 1) := by decide +kernel
theorem dX6_readsItem_200 : decode cX6_readsItem 200 = .ok (.iconst 0, 1) := by decide +kernel
theorem dX6_readsItem_201 : decode cX6_readsItem 201 = .ok (.aload_n 0, 1) := by decide +kernel
theorem dX6_readsItem_202 : decode cX6_readsItem 202 = .ok (.getfield 16, 3) := by decide +kernel
theorem dX6_readsItem_205 : decode cX6_readsItem 205 = .ok (.iconst 0, 1) := by decide +kernel
theorem dX6_readsItem_206 : decode cX6_readsItem 206 = .ok (.iaload, 1) := by decide +kernel
theorem dX6_readsItem_207 : decode cX6_readsItem 207 = .ok (.iconst 1, 1) := by decide +kernel
theorem dX6_readsItem_208 : decode cX6_readsItem 208 = .ok (.isub, 1) := by decide +kernel
theorem dX6_readsItem_209 : decode cX6_readsItem 209 = .ok (.bipush 59, 2) := by decide +kernel
theorem dX6_readsItem_211 : decode cX6_readsItem 211 = .ok (.invokevirtual 88, 3) := by decide +kernel
theorem dX6_readsItem_214 : decode cX6_readsItem 214 = .ok (.istore_n 2, 1) := by decide +kernel
theorem dX6_readsItem_215 : decode cX6_readsItem 215 = .ok (.aload_n 0, 1) := by decide +kernel
theorem dX6_readsItem_216 : decode cX6_readsItem 216 = .ok (.getfield 16, 3) := by decide +kernel
theorem dX6_readsItem_219 : decode cX6_readsItem 219 = .ok (.iconst 4, 1) := by decide +kernel
theorem dX6_readsItem_220 : decode cX6_readsItem 220 = .ok (.dup2, 1) := by decide +kernel
theorem dX6_readsItem_221 : decode cX6_readsItem 221 = .ok (.iaload, 1) := by decide +kernel
theorem dX6_readsItem_222 : decode cX6_readsItem 222 = .ok (.iload_n 2, 1) := by decide +kernel
theorem dX6_readsItem_223 : decode cX6_readsItem 223 = .ok (.ifCond .ge 7, 3) := by decide +kernel
theorem dX6_readsItem_226 : decode cX6_readsItem 226 = .ok (.iconst 0, 1) := by decide +kernel
theorem dX6_readsItem_227 : decode cX6_readsItem 227 = .ok (.goto 6, 3) := by decide +kernel
theorem dX6_readsItem_230 : decode cX6_readsItem 230 = .ok (.iconst 1, 1) := by decide +kernel
theorem dX6_readsItem_231 : decode cX6_readsItem 231 = .ok (.iload_n 2, 1) := by decide +kernel
theorem dX6_readsItem_232 : decode cX6_readsItem 232 = .ok (.ishl, 1) := by decide +kernel
theorem dX6_readsItem_233 : decode cX6_readsItem 233 = .ok (.ior, 1) := by decide +kernel
theorem dX6_readsItem_234 : decode cX6_readsItem 234 = .ok (.iastore, 1) := by decide +kernel
theorem dX6_readsItem_235 : decode cX6_readsItem 235 = .ok (.iload_n 2, 1) := by decide +kernel
theorem dX6_readsItem_236 : decode cX6_readsItem 236 = .ok (.ifCond .lt 7, 3) := by decide +kernel
theorem dX6_readsItem_239 : decode cX6_readsItem 239 = .ok (.iconst 1, 1) := by decide +kernel
theorem dX6_readsItem_240 : decode cX6_readsItem 240 = .ok (.goto 4, 3) := by decide +kernel
theorem dX6_readsItem_243 : decode cX6_readsItem 243 = .ok (.iconst 0, 1) := by decide +kernel
theorem dX6_readsItem_244 : decode cX6_readsItem 244 = .ok (.ireturn, 1) := by decide +kernel
theorem dX6_readsItem_245 : decode cX6_readsItem 245 = .ok (.aload_n 0, 1) := by decide +kernel
theorem dX6_readsItem_246 : decode cX6_readsItem 246 = .ok (.getfield 16, 3) := by decide +kernel
theorem dX6_readsItem_249 : decode cX6_readsItem 249 = .ok (.iconst 2, 1) := by decide +kernel
theorem dX6_readsItem_250 : decode cX6_readsItem 250 = .ok (.aload_n 0, 1) := by decide +kernel
theorem dX6_readsItem_251 : decode cX6_readsItem 251 = .ok (.iconst 0, 1) := by decide +kernel
theorem dX6_readsItem_252 : decode cX6_readsItem 252 = .ok (.bipush 99, 2) := by decide +kernel
theorem dX6_readsItem_254 : decode cX6_readsItem 254 = .ok (.bipush 59, 2) := by decide +kernel
theorem dX6_readsItem_256 : decode cX6_readsItem 256 = .ok (.invokevirtual 88, 3) := by decide +kernel
theorem dX6_readsItem_259 : decode cX6_readsItem 259 = .ok (.iastore, 1) := by decide +kernel
theorem dX6_readsItem_260 : decode cX6_readsItem 260 = .ok (.aload_n 0, 1) := by decide +kernel
theorem dX6_readsItem_261 : decode cX6_readsItem 261 = .ok (.getfield 16, 3) := by decide +kernel
theorem dX6_readsItem_264 : decode cX6_readsItem 264 = .ok (.iconst 2, 1) := by decide +kernel
theorem dX6_readsItem_265 : decode cX6_readsItem 265 = .ok (.iaload, 1) := by decide +kernel
theorem dX6_readsItem_266 : decode cX6_readsItem 266 = .ok (.ifCond .lt 7, 3) := by decide +kernel
theorem dX6_readsItem_269 : decode cX6_readsItem 269 = .ok (.iconst 1, 1) := by decide +kernel
theorem dX6_readsItem_270 : decode cX6_readsItem 270 = .ok (.goto 4, 3) := by decide +kernel
theorem dX6_readsItem_273 : decode cX6_readsItem 273 = .ok (.iconst 0, 1) := by decide +kernel
theorem dX6_readsItem_274 : decode cX6_readsItem 274 = .ok (.ireturn, 1) := by decide +kernel
theorem dX6_readsItem_275 : decode cX6_readsItem 275 = .ok (.aload_n 0, 1) := by decide +kernel
theorem dX6_readsItem_276 : decode cX6_readsItem 276 = .ok (.getfield 16, 3) := by decide +kernel
theorem dX6_readsItem_279 : decode cX6_readsItem 279 = .ok (.iconst 3, 1) := by decide +kernel
theorem dX6_readsItem_280 : decode cX6_readsItem 280 = .ok (.aload_n 0, 1) := by decide +kernel
theorem dX6_readsItem_281 : decode cX6_readsItem 281 = .ok (.iconst 1, 1) := by decide +kernel
theorem dX6_readsItem_282 : decode cX6_readsItem 282 = .ok (.bipush 60, 2) := by decide +kernel
theorem dX6_readsItem_284 : decode cX6_readsItem 284 = .ok (.bipush 59, 2) := by decide +kernel
theorem dX6_readsItem_286 : decode cX6_readsItem 286 = .ok (.invokevirtual 88, 3) := by decide +kernel
theorem dX6_readsItem_289 : decode cX6_readsItem 289 = .ok (.iastore, 1) := by decide +kernel
theorem dX6_readsItem_290 : decode cX6_readsItem 290 = .ok (.aload_n 0, 1) := by decide +kernel
theorem dX6_readsItem_291 : decode cX6_readsItem 291 = .ok (.getfield 16, 3) := by decide +kernel
theorem dX6_readsItem_294 : decode cX6_readsItem 294 = .ok (.iconst 3, 1) := by decide +kernel
theorem dX6_readsItem_295 : decode cX6_readsItem 295 = .ok (.iaload, 1) := by decide +kernel
theorem dX6_readsItem_296 : decode cX6_readsItem 296 = .ok (.ifCond .le 7, 3) := by decide +kernel
theorem dX6_readsItem_299 : decode cX6_readsItem 299 = .ok (.iconst 1, 1) := by decide +kernel
theorem dX6_readsItem_300 : decode cX6_readsItem 300 = .ok (.goto 4, 3) := by decide +kernel
theorem dX6_readsItem_303 : decode cX6_readsItem 303 = .ok (.iconst 0, 1) := by decide +kernel
theorem dX6_readsItem_304 : decode cX6_readsItem 304 = .ok (.ireturn, 1) := by decide +kernel
theorem dX6_readsItem_305 : decode cX6_readsItem 305 = .ok (.iconst 0, 1) := by decide +kernel
theorem dX6_readsItem_306 : decode cX6_readsItem 306 = .ok (.ireturn, 1) := by decide +kernel
set_option maxRecDepth 20000 in
theorem ggX6_readsAll_X6_begins : GoodIn wsX6_readsAll wsX6_begins := goodIn_r _ [8, 9, 36, 37, 38, 39, 40, 41, 42, 43, 44, 45, 46, 47, 48, 49, 50, 51, 52, 53, 54, 55, 56, 57, 58] (by decide +kernel) (by decide +kernel)
set_option maxRecDepth 20000 in
theorem gX6_readsAll_X6_begins : GoodIn wsX6_readsAll (wsV RX6 55 RX6 yX6_begins wsX6_begins) := goodIn_app (goodIn_of _ (by decide +kernel)) ggX6_readsAll_X6_begins
set_option maxRecDepth 20000 in
theorem ggX6_readsAll_X6_readsItem : GoodIn wsX6_readsAll wsX6_readsItem := goodIn_r _ [13, 9, 14, 15, 16, 7, 17, 1, 18, 19, 20, 21, 2, 3, 22, 23, 24, 25, 26, 27, 28, 29, 30, 31, 32, 33, 34, 35, 36, 37, 38, 39, 40, 41, 42, 43, 44, 45, 46, 47, 48, 49, 50, 51, 52, 53, 54, 55, 56, 57, 58] (by decide +kernel) (by decide +kernel)
set_option maxRecDepth 20000 in
theorem gX6_readsAll_X6_readsItem : GoodIn wsX6_readsAll (wsV RX6 92 RX6 yX6_readsItem wsX6_readsItem) := goodIn_app (goodIn_of _ (by decide +kernel)) ggX6_readsAll_X6_readsItem
theorem dX6_readsAll_0 : decode cX6_readsAll 0 = .ok (.aload_n 0, 1) := by decide +kernel
theorem dX6_readsAll_1 : decode cX6_readsAll 1 = .ok (.invokevirtual 55, 3) := by decide +kernel
theorem dX6_readsAll_4 : decode cX6_readsAll 4 = .ok (.aload_n 0, 1) := by decide +kernel
theorem dX6_readsAll_5 : decode cX6_readsAll 5 = .ok (.iconst 0, 1) := by decide +kernel
theorem dX6_readsAll_6 : decode cX6_readsAll 6 = .ok (.putfield 77, 3) := by decide +kernel
theorem dX6_readsAll_9 : decode cX6_readsAll 9 = .ok (.aload_n 0, 1) := by decide +kernel
theorem dX6_readsAll_10 : decode cX6_readsAll 10 = .ok (.getfield 77, 3) := by decide +kernel
theorem dX6_readsAll_13 : decode cX6_readsAll 13 = .ok (.aload_n 0, 1) := by decide +kernel
theorem dX6_readsAll_14 : decode cX6_readsAll 14 = .ok (.getfield 73, 3) := by decide +kernel
theorem dX6_readsAll_17 : decode cX6_readsAll 17 = .ok (.if_icmp .ge 36, 3) := by decide +kernel
theorem dX6_readsAll_20 : decode cX6_readsAll 20 = .ok (.aload_n 0, 1) := by decide +kernel
theorem dX6_readsAll_21 : decode cX6_readsAll 21 = .ok (.getfield 77, 3) := by decide +kernel
theorem dX6_readsAll_24 : decode cX6_readsAll 24 = .ok (.istore_n 1, 1) := by decide +kernel
theorem dX6_readsAll_25 : decode cX6_readsAll 25 = .ok (.aload_n 0, 1) := by decide +kernel
theorem dX6_readsAll_26 : decode cX6_readsAll 26 = .ok (.dup, 1) := by decide +kernel
theorem dX6_readsAll_27 : decode cX6_readsAll 27 = .ok (.getfield 77, 3) := by decide +kernel
theorem dX6_readsAll_30 : decode cX6_readsAll 30 = .ok (.iconst 1, 1) := by decide +kernel
theorem dX6_readsAll_31 : decode cX6_readsAll 31 = .ok (.iadd, 1) := by decide +kernel
theorem dX6_readsAll_32 : decode cX6_readsAll 32 = .ok (.putfield 77, 3) := by decide +kernel
theorem dX6_readsAll_35 : decode cX6_readsAll 35 = .ok (.aload_n 0, 1) := by decide +kernel
theorem dX6_readsAll_36 : decode cX6_readsAll 36 = .ok (.aload_n 0, 1) := by decide +kernel
theorem dX6_readsAll_37 : decode cX6_readsAll 37 = .ok (.getfield 7, 3) := by decide +kernel
theorem dX6_readsAll_40 : decode cX6_readsAll 40 = .ok (.iload_n 1, 1) := by decide +kernel
theorem dX6_readsAll_41 : decode cX6_readsAll 41 = .ok (.iaload, 1) := by decide +kernel
theorem dX6_readsAll_42 : decode cX6_readsAll 42 = .ok (.invokevirtual 92, 3) := by decide +kernel
theorem dX6_readsAll_45 : decode cX6_readsAll 45 = .ok (.ifCond .ne 5, 3) := by decide +kernel
theorem dX6_readsAll_48 : decode cX6_readsAll 48 = .ok (.iload_n 1, 1) := by decide +kernel
theorem dX6_readsAll_49 : decode cX6_readsAll 49 = .ok (.ireturn, 1) := by decide +kernel
theorem dX6_readsAll_50 : decode cX6_readsAll 50 = .ok (.goto (-41), 3) := by decide +kernel
theorem dX6_readsAll_53 : decode cX6_readsAll 53 = .ok (.bipush (-4), 2) := by decide +kernel
theorem dX6_readsAll_55 : decode cX6_readsAll 55 = .ok (.ireturn, 1) := by decide +kernel
set_option maxRecDepth 20000 in
theorem ggX6_fault_X6_readsAll : GoodIn wsX6_fault wsX6_readsAll := goodIn_r _ [5, 6, 7, 8, 9, 10, 11, 4, 12, 13, 14, 15, 16, 17, 18, 19, 20, 21, 22, 23, 24, 25, 26, 27, 28, 29, 30, 31, 32, 33, 34, 35, 36, 37, 38, 39, 40, 41, 42, 43, 44, 45, 46, 47, 48, 49, 50, 51, 52, 53, 54, 55, 56, 57, 58, 59, 60, 61, 62] (by decide +kernel) (by decide +kernel)
set_option maxRecDepth 20000 in
theorem gX6_fault_X6_readsAll : GoodIn wsX6_fault (wsV RX6 95 RX6 yX6_readsAll wsX6_readsAll) := goodIn_app (goodIn_of _ (by decide +kernel)) ggX6_fault_X6_readsAll
theorem dX6_fault_0 : decode cX6_fault 0 = .ok (.aload_n 0, 1) := by decide +kernel
theorem dX6_fault_1 : decode cX6_fault 1 = .ok (.invokevirtual 95, 3) := by decide +kernel
theorem dX6_fault_4 : decode cX6_fault 4 = .ok (.ireturn, 1) := by decide +kernel
theorem dX6_lays_0 : decode cX6_lays 0 = .ok (.iconst 0, 1) := by decide +kernel
theorem dX6_lays_1 : decode cX6_lays 1 = .ok (.istore_n 1, 1) := by decide +kernel
theorem dX6_lays_2 : decode cX6_lays 2 = .ok (.iload_n 1, 1) := by decide +kernel
theorem dX6_lays_3 : decode cX6_lays 3 = .ok (.bipush 51, 2) := by decide +kernel
theorem dX6_lays_5 : decode cX6_lays 5 = .ok (.if_icmp .ge 21, 3) := by decide +kernel
theorem dX6_lays_8 : decode cX6_lays 8 = .ok (.aload_n 0, 1) := by decide +kernel
theorem dX6_lays_9 : decode cX6_lays 9 = .ok (.getfield 13, 3) := by decide +kernel
theorem dX6_lays_12 : decode cX6_lays 12 = .ok (.iload_n 1, 1) := by decide +kernel
theorem dX6_lays_13 : decode cX6_lays 13 = .ok (.aload_n 0, 1) := by decide +kernel
theorem dX6_lays_14 : decode cX6_lays 14 = .ok (.getfield 16, 3) := by decide +kernel
theorem dX6_lays_17 : decode cX6_lays 17 = .ok (.iload_n 1, 1) := by decide +kernel
theorem dX6_lays_18 : decode cX6_lays 18 = .ok (.iaload, 1) := by decide +kernel
theorem dX6_lays_19 : decode cX6_lays 19 = .ok (.iastore, 1) := by decide +kernel
theorem dX6_lays_20 : decode cX6_lays 20 = .ok (.iinc 1 1, 3) := by decide +kernel
theorem dX6_lays_23 : decode cX6_lays 23 = .ok (.goto (-21), 3) := by decide +kernel
theorem dX6_lays_26 : decode cX6_lays 26 = .ok (.iconst 0, 1) := by decide +kernel
theorem dX6_lays_27 : decode cX6_lays 27 = .ok (.istore_n 1, 1) := by decide +kernel
theorem dX6_lays_28 : decode cX6_lays 28 = .ok (.iload_n 1, 1) := by decide +kernel
theorem dX6_lays_29 : decode cX6_lays 29 = .ok (.bipush 6, 2) := by decide +kernel
theorem dX6_lays_31 : decode cX6_lays 31 = .ok (.if_icmp .ge 16, 3) := by decide +kernel
theorem dX6_lays_34 : decode cX6_lays 34 = .ok (.aload_n 0, 1) := by decide +kernel
theorem dX6_lays_35 : decode cX6_lays 35 = .ok (.getfield 19, 3) := by decide +kernel
theorem dX6_lays_38 : decode cX6_lays 38 = .ok (.iload_n 1, 1) := by decide +kernel
theorem dX6_lays_39 : decode cX6_lays 39 = .ok (.iconst 0, 1) := by decide +kernel
theorem dX6_lays_40 : decode cX6_lays 40 = .ok (.iastore, 1) := by decide +kernel
theorem dX6_lays_41 : decode cX6_lays 41 = .ok (.iinc 1 1, 3) := by decide +kernel
theorem dX6_lays_44 : decode cX6_lays 44 = .ok (.goto (-16), 3) := by decide +kernel
theorem dX6_lays_47 : decode cX6_lays 47 = .ok (.aload_n 0, 1) := by decide +kernel
theorem dX6_lays_48 : decode cX6_lays 48 = .ok (.getfield 19, 3) := by decide +kernel
theorem dX6_lays_51 : decode cX6_lays 51 = .ok (.iconst 0, 1) := by decide +kernel
theorem dX6_lays_52 : decode cX6_lays 52 = .ok (.aload_n 0, 1) := by decide +kernel
theorem dX6_lays_53 : decode cX6_lays 53 = .ok (.getfield 13, 3) := by decide +kernel
theorem dX6_lays_56 : decode cX6_lays 56 = .ok (.iconst 4, 1) := by decide +kernel
theorem dX6_lays_57 : decode cX6_lays 57 = .ok (.iaload, 1) := by decide +kernel
theorem dX6_lays_58 : decode cX6_lays 58 = .ok (.iastore, 1) := by decide +kernel
theorem dX6_lays_59 : decode cX6_lays 59 = .ok (.aload_n 0, 1) := by decide +kernel
theorem dX6_lays_60 : decode cX6_lays 60 = .ok (.getfield 19, 3) := by decide +kernel
theorem dX6_lays_63 : decode cX6_lays 63 = .ok (.iconst 4, 1) := by decide +kernel
theorem dX6_lays_64 : decode cX6_lays 64 = .ok (.aload_n 0, 1) := by decide +kernel
theorem dX6_lays_65 : decode cX6_lays 65 = .ok (.getfield 13, 3) := by decide +kernel
theorem dX6_lays_68 : decode cX6_lays 68 = .ok (.iconst 2, 1) := by decide +kernel
theorem dX6_lays_69 : decode cX6_lays 69 = .ok (.iaload, 1) := by decide +kernel
theorem dX6_lays_70 : decode cX6_lays 70 = .ok (.iastore, 1) := by decide +kernel
theorem dX6_lays_71 : decode cX6_lays 71 = .ok (.aload_n 0, 1) := by decide +kernel
theorem dX6_lays_72 : decode cX6_lays 72 = .ok (.iconst 0, 1) := by decide +kernel
theorem dX6_lays_73 : decode cX6_lays 73 = .ok (.putfield 99, 3) := by decide +kernel
theorem dX6_lays_76 : decode cX6_lays 76 = .ok (.aload_n 0, 1) := by decide +kernel
theorem dX6_lays_77 : decode cX6_lays 77 = .ok (.iconst 0, 1) := by decide +kernel
theorem dX6_lays_78 : decode cX6_lays 78 = .ok (.putfield 102, 3) := by decide +kernel
theorem dX6_lays_81 : decode cX6_lays 81 = .ok (.aload_n 0, 1) := by decide +kernel
theorem dX6_lays_82 : decode cX6_lays 82 = .ok (.iconst 0, 1) := by decide +kernel
theorem dX6_lays_83 : decode cX6_lays 83 = .ok (.putfield 105, 3) := by decide +kernel
theorem dX6_lays_86 : decode cX6_lays 86 = .ok (.return_, 1) := by decide +kernel
set_option maxRecDepth 20000 in
theorem ggX6_lay_X6_readsAll : GoodIn wsX6_lay wsX6_readsAll := goodIn_r _ [7, 8, 9, 10, 11, 12, 13, 6, 14, 1, 15, 16, 17, 18, 19, 20, 21, 22, 23, 24, 25, 26, 27, 28, 29, 30, 31, 32, 33, 34, 35, 36, 37, 38, 39, 40, 49, 50, 51, 52, 53, 54, 55, 56, 57, 58, 59, 60, 61, 62, 63, 64, 65, 66, 67, 68, 69, 70, 71] (by decide +kernel) (by decide +kernel)
set_option maxRecDepth 20000 in
theorem gX6_lay_X6_readsAll : GoodIn wsX6_lay (wsV RX6 95 RX6 yX6_readsAll wsX6_readsAll) := goodIn_app (goodIn_of _ (by decide +kernel)) ggX6_lay_X6_readsAll
set_option maxRecDepth 20000 in
theorem ggX6_lay_X6_lays : GoodIn wsX6_lay wsX6_lays := goodIn_r _ [44, 2, 1, 45, 46, 47, 48, 49, 50, 51, 52, 53, 54, 55, 56, 57, 58, 59, 60, 61, 62, 63, 64, 65, 66, 67, 68, 69, 70, 71] (by decide +kernel) (by decide +kernel)
set_option maxRecDepth 20000 in
theorem gX6_lay_X6_lays : GoodIn wsX6_lay (wsV RX6 66 RX6 yX6_lays wsX6_lays) := goodIn_app (goodIn_of _ (by decide +kernel)) ggX6_lay_X6_lays
theorem dX6_lay_0 : decode cX6_lay 0 = .ok (.aload_n 0, 1) := by decide +kernel
theorem dX6_lay_1 : decode cX6_lay 1 = .ok (.invokevirtual 95, 3) := by decide +kernel
theorem dX6_lay_4 : decode cX6_lay 4 = .ok (.bipush (-4), 2) := by decide +kernel
theorem dX6_lay_6 : decode cX6_lay 6 = .ok (.if_icmp .ne 16, 3) := by decide +kernel
theorem dX6_lay_9 : decode cX6_lay 9 = .ok (.aload_n 0, 1) := by decide +kernel
theorem dX6_lay_10 : decode cX6_lay 10 = .ok (.getfield 16, 3) := by decide +kernel
theorem dX6_lay_13 : decode cX6_lay 13 = .ok (.iconst 0, 1) := by decide +kernel
theorem dX6_lay_14 : decode cX6_lay 14 = .ok (.iaload, 1) := by decide +kernel
theorem dX6_lay_15 : decode cX6_lay 15 = .ok (.ifCond .le 7, 3) := by decide +kernel
theorem dX6_lay_18 : decode cX6_lay 18 = .ok (.iconst 1, 1) := by decide +kernel
theorem dX6_lay_19 : decode cX6_lay 19 = .ok (.goto 4, 3) := by decide +kernel
theorem dX6_lay_22 : decode cX6_lay 22 = .ok (.iconst 0, 1) := by decide +kernel
theorem dX6_lay_23 : decode cX6_lay 23 = .ok (.istore_n 1, 1) := by decide +kernel
theorem dX6_lay_24 : decode cX6_lay 24 = .ok (.iconst 0, 1) := by decide +kernel
theorem dX6_lay_25 : decode cX6_lay 25 = .ok (.istore_n 2, 1) := by decide +kernel
theorem dX6_lay_26 : decode cX6_lay 26 = .ok (.iload_n 2, 1) := by decide +kernel
theorem dX6_lay_27 : decode cX6_lay 27 = .ok (.aload_n 0, 1) := by decide +kernel
theorem dX6_lay_28 : decode cX6_lay 28 = .ok (.getfield 16, 3) := by decide +kernel
theorem dX6_lay_31 : decode cX6_lay 31 = .ok (.iconst 0, 1) := by decide +kernel
theorem dX6_lay_32 : decode cX6_lay 32 = .ok (.iaload, 1) := by decide +kernel
theorem dX6_lay_33 : decode cX6_lay 33 = .ok (.if_icmp .ge 37, 3) := by decide +kernel
theorem dX6_lay_36 : decode cX6_lay 36 = .ok (.iload_n 1, 1) := by decide +kernel
theorem dX6_lay_37 : decode cX6_lay 37 = .ok (.ifCond .eq 33, 3) := by decide +kernel
theorem dX6_lay_40 : decode cX6_lay 40 = .ok (.aload_n 0, 1) := by decide +kernel
theorem dX6_lay_41 : decode cX6_lay 41 = .ok (.getfield 16, 3) := by decide +kernel
theorem dX6_lay_44 : decode cX6_lay 44 = .ok (.bipush 29, 2) := by decide +kernel
theorem dX6_lay_46 : decode cX6_lay 46 = .ok (.iload_n 2, 1) := by decide +kernel
theorem dX6_lay_47 : decode cX6_lay 47 = .ok (.iadd, 1) := by decide +kernel
theorem dX6_lay_48 : decode cX6_lay 48 = .ok (.iaload, 1) := by decide +kernel
theorem dX6_lay_49 : decode cX6_lay 49 = .ok (.aload_n 0, 1) := by decide +kernel
theorem dX6_lay_50 : decode cX6_lay 50 = .ok (.getfield 16, 3) := by decide +kernel
theorem dX6_lay_53 : decode cX6_lay 53 = .ok (.iconst 0, 1) := by decide +kernel
theorem dX6_lay_54 : decode cX6_lay 54 = .ok (.iaload, 1) := by decide +kernel
theorem dX6_lay_55 : decode cX6_lay 55 = .ok (.if_icmp .ge 7, 3) := by decide +kernel
theorem dX6_lay_58 : decode cX6_lay 58 = .ok (.iconst 1, 1) := by decide +kernel
theorem dX6_lay_59 : decode cX6_lay 59 = .ok (.goto 4, 3) := by decide +kernel
theorem dX6_lay_62 : decode cX6_lay 62 = .ok (.iconst 0, 1) := by decide +kernel
theorem dX6_lay_63 : decode cX6_lay 63 = .ok (.istore_n 1, 1) := by decide +kernel
theorem dX6_lay_64 : decode cX6_lay 64 = .ok (.iinc 2 1, 3) := by decide +kernel
theorem dX6_lay_67 : decode cX6_lay 67 = .ok (.goto (-41), 3) := by decide +kernel
theorem dX6_lay_70 : decode cX6_lay 70 = .ok (.iload_n 1, 1) := by decide +kernel
theorem dX6_lay_71 : decode cX6_lay 71 = .ok (.ifCond .ne 6, 3) := by decide +kernel
theorem dX6_lay_74 : decode cX6_lay 74 = .ok (.bipush (-2), 2) := by decide +kernel
theorem dX6_lay_76 : decode cX6_lay 76 = .ok (.ireturn, 1) := by decide +kernel
theorem dX6_lay_77 : decode cX6_lay 77 = .ok (.aload_n 0, 1) := by decide +kernel
theorem dX6_lay_78 : decode cX6_lay 78 = .ok (.invokevirtual 66, 3) := by decide +kernel
theorem dX6_lay_81 : decode cX6_lay 81 = .ok (.aload_n 0, 1) := by decide +kernel
theorem dX6_lay_82 : decode cX6_lay 82 = .ok (.getfield 13, 3) := by decide +kernel
theorem dX6_lay_85 : decode cX6_lay 85 = .ok (.iconst 0, 1) := by decide +kernel
theorem dX6_lay_86 : decode cX6_lay 86 = .ok (.iaload, 1) := by decide +kernel
theorem dX6_lay_87 : decode cX6_lay 87 = .ok (.ireturn, 1) := by decide +kernel
theorem dX6_lowest_0 : decode cX6_lowest 0 = .ok (.iconst 0, 1) := by decide +kernel
theorem dX6_lowest_1 : decode cX6_lowest 1 = .ok (.istore_n 3, 1) := by decide +kernel
theorem dX6_lowest_2 : decode cX6_lowest 2 = .ok (.aload_n 0, 1) := by decide +kernel
theorem dX6_lowest_3 : decode cX6_lowest 3 = .ok (.getfield 13, 3) := by decide +kernel
theorem dX6_lowest_6 : decode cX6_lowest 6 = .ok (.iconst 1, 1) := by decide +kernel
theorem dX6_lowest_7 : decode cX6_lowest 7 = .ok (.iaload, 1) := by decide +kernel
theorem dX6_lowest_8 : decode cX6_lowest 8 = .ok (.iconst 1, 1) := by decide +kernel
theorem dX6_lowest_9 : decode cX6_lowest 9 = .ok (.isub, 1) := by decide +kernel
theorem dX6_lowest_10 : decode cX6_lowest 10 = .ok (.istore 4, 2) := by decide +kernel
theorem dX6_lowest_12 : decode cX6_lowest 12 = .ok (.iload 4, 2) := by decide +kernel
theorem dX6_lowest_14 : decode cX6_lowest 14 = .ok (.ifCond .lt 46, 3) := by decide +kernel
theorem dX6_lowest_17 : decode cX6_lowest 17 = .ok (.iload_n 1, 1) := by decide +kernel
theorem dX6_lowest_18 : decode cX6_lowest 18 = .ok (.iload 4, 2) := by decide +kernel
theorem dX6_lowest_20 : decode cX6_lowest 20 = .ok (.ishr, 1) := by decide +kernel
theorem dX6_lowest_21 : decode cX6_lowest 21 = .ok (.iconst 1, 1) := by decide +kernel
theorem dX6_lowest_22 : decode cX6_lowest 22 = .ok (.iand, 1) := by decide +kernel
theorem dX6_lowest_23 : decode cX6_lowest 23 = .ok (.iconst 1, 1) := by decide +kernel
theorem dX6_lowest_24 : decode cX6_lowest 24 = .ok (.if_icmp .ne 28, 3) := by decide +kernel
theorem dX6_lowest_27 : decode cX6_lowest 27 = .ok (.iload_n 2, 1) := by decide +kernel
theorem dX6_lowest_28 : decode cX6_lowest 28 = .ok (.ifCond .lt 17, 3) := by decide +kernel
theorem dX6_lowest_31 : decode cX6_lowest 31 = .ok (.aload_n 0, 1) := by decide +kernel
theorem dX6_lowest_32 : decode cX6_lowest 32 = .ok (.getfield 13, 3) := by decide +kernel
theorem dX6_lowest_35 : decode cX6_lowest 35 = .ok (.bipush 37, 2) := by decide +kernel
theorem dX6_lowest_37 : decode cX6_lowest 37 = .ok (.iload 4, 2) := by decide +kernel
theorem dX6_lowest_39 : decode cX6_lowest 39 = .ok (.iadd, 1) := by decide +kernel
theorem dX6_lowest_40 : decode cX6_lowest 40 = .ok (.iaload, 1) := by decide +kernel
theorem dX6_lowest_41 : decode cX6_lowest 41 = .ok (.iload_n 2, 1) := by decide +kernel
theorem dX6_lowest_42 : decode cX6_lowest 42 = .ok (.if_icmp .ne 10, 3) := by decide +kernel
theorem dX6_lowest_45 : decode cX6_lowest 45 = .ok (.iconst 1, 1) := by decide +kernel
theorem dX6_lowest_46 : decode cX6_lowest 46 = .ok (.iload 4, 2) := by decide +kernel
theorem dX6_lowest_48 : decode cX6_lowest 48 = .ok (.ishl, 1) := by decide +kernel
theorem dX6_lowest_49 : decode cX6_lowest 49 = .ok (.goto 4, 3) := by decide +kernel
theorem dX6_lowest_52 : decode cX6_lowest 52 = .ok (.iload_n 3, 1) := by decide +kernel
theorem dX6_lowest_53 : decode cX6_lowest 53 = .ok (.istore_n 3, 1) := by decide +kernel
theorem dX6_lowest_54 : decode cX6_lowest 54 = .ok (.iinc 4 (-1), 3) := by decide +kernel
theorem dX6_lowest_57 : decode cX6_lowest 57 = .ok (.goto (-45), 3) := by decide +kernel
theorem dX6_lowest_60 : decode cX6_lowest 60 = .ok (.iload_n 3, 1) := by decide +kernel
theorem dX6_lowest_61 : decode cX6_lowest 61 = .ok (.ireturn, 1) := by decide +kernel
set_option maxRecDepth 20000 in
theorem ggX6_helpFor_X6_lowest : GoodIn wsX6_helpFor wsX6_lowest := goodIn_r _ [6, 1, 7, 8, 9, 10, 11, 12, 13, 14, 15, 16, 17, 18, 19, 20, 21, 22, 23, 24, 25, 26, 27, 28, 29] (by decide +kernel) (by decide +kernel)
set_option maxRecDepth 20000 in
theorem gX6_helpFor_X6_lowest : GoodIn wsX6_helpFor (wsV RX6 108 RX6 yX6_lowest wsX6_lowest) := goodIn_app (goodIn_of _ (by decide +kernel)) ggX6_helpFor_X6_lowest
theorem dX6_helpFor_0 : decode cX6_helpFor 0 = .ok (.aload_n 0, 1) := by decide +kernel
theorem dX6_helpFor_1 : decode cX6_helpFor 1 = .ok (.getfield 13, 3) := by decide +kernel
theorem dX6_helpFor_4 : decode cX6_helpFor 4 = .ok (.iconst 5, 1) := by decide +kernel
theorem dX6_helpFor_5 : decode cX6_helpFor 5 = .ok (.iload_n 1, 1) := by decide +kernel
theorem dX6_helpFor_6 : decode cX6_helpFor 6 = .ok (.iadd, 1) := by decide +kernel
theorem dX6_helpFor_7 : decode cX6_helpFor 7 = .ok (.iaload, 1) := by decide +kernel
theorem dX6_helpFor_8 : decode cX6_helpFor 8 = .ok (.istore 4, 2) := by decide +kernel
theorem dX6_helpFor_10 : decode cX6_helpFor 10 = .ok (.aload_n 0, 1) := by decide +kernel
theorem dX6_helpFor_11 : decode cX6_helpFor 11 = .ok (.getfield 13, 3) := by decide +kernel
theorem dX6_helpFor_14 : decode cX6_helpFor 14 = .ok (.bipush 21, 2) := by decide +kernel
theorem dX6_helpFor_16 : decode cX6_helpFor 16 = .ok (.iload_n 1, 1) := by decide +kernel
theorem dX6_helpFor_17 : decode cX6_helpFor 17 = .ok (.iadd, 1) := by decide +kernel
theorem dX6_helpFor_18 : decode cX6_helpFor 18 = .ok (.iaload, 1) := by decide +kernel
theorem dX6_helpFor_19 : decode cX6_helpFor 19 = .ok (.istore 5, 2) := by decide +kernel
theorem dX6_helpFor_21 : decode cX6_helpFor 21 = .ok (.iload 4, 2) := by decide +kernel
theorem dX6_helpFor_23 : decode cX6_helpFor 23 = .ok (.iconst 2, 1) := by decide +kernel
theorem dX6_helpFor_24 : decode cX6_helpFor 24 = .ok (.if_icmp .ne 5, 3) := by decide +kernel
theorem dX6_helpFor_27 : decode cX6_helpFor 27 = .ok (.iconst 0, 1) := by decide +kernel
theorem dX6_helpFor_28 : decode cX6_helpFor 28 = .ok (.ireturn, 1) := by decide +kernel
theorem dX6_helpFor_29 : decode cX6_helpFor 29 = .ok (.iload 4, 2) := by decide +kernel
theorem dX6_helpFor_31 : decode cX6_helpFor 31 = .ok (.iconst 4, 1) := by decide +kernel
theorem dX6_helpFor_32 : decode cX6_helpFor 32 = .ok (.if_icmp .ne 11, 3) := by decide +kernel
theorem dX6_helpFor_35 : decode cX6_helpFor 35 = .ok (.iload_n 3, 1) := by decide +kernel
theorem dX6_helpFor_36 : decode cX6_helpFor 36 = .ok (.bipush 10, 2) := by decide +kernel
theorem dX6_helpFor_38 : decode cX6_helpFor 38 = .ok (.if_icmp .le 5, 3) := by decide +kernel
theorem dX6_helpFor_41 : decode cX6_helpFor 41 = .ok (.iconst (-1), 1) := by decide +kernel
theorem dX6_helpFor_42 : decode cX6_helpFor 42 = .ok (.ireturn, 1) := by decide +kernel
theorem dX6_helpFor_43 : decode cX6_helpFor 43 = .ok (.iload 5, 2) := by decide +kernel
theorem dX6_helpFor_45 : decode cX6_helpFor 45 = .ok (.iconst 5, 1) := by decide +kernel
theorem dX6_helpFor_46 : decode cX6_helpFor 46 = .ok (.if_icmp .ne 7, 3) := by decide +kernel
theorem dX6_helpFor_49 : decode cX6_helpFor 49 = .ok (.iconst 0, 1) := by decide +kernel
theorem dX6_helpFor_50 : decode cX6_helpFor 50 = .ok (.goto 10, 3) := by decide +kernel
theorem dX6_helpFor_53 : decode cX6_helpFor 53 = .ok (.aload_n 0, 1) := by decide +kernel
theorem dX6_helpFor_54 : decode cX6_helpFor 54 = .ok (.iload_n 2, 1) := by decide +kernel
theorem dX6_helpFor_55 : decode cX6_helpFor 55 = .ok (.iload 5, 2) := by decide +kernel
theorem dX6_helpFor_57 : decode cX6_helpFor 57 = .ok (.invokevirtual 108, 3) := by decide +kernel
theorem dX6_helpFor_60 : decode cX6_helpFor 60 = .ok (.istore 6, 2) := by decide +kernel
theorem dX6_helpFor_62 : decode cX6_helpFor 62 = .ok (.iload 5, 2) := by decide +kernel
theorem dX6_helpFor_64 : decode cX6_helpFor 64 = .ok (.iconst 5, 1) := by decide +kernel
theorem dX6_helpFor_65 : decode cX6_helpFor 65 = .ok (.if_icmp .eq 10, 3) := by decide +kernel
theorem dX6_helpFor_68 : decode cX6_helpFor 68 = .ok (.iload 6, 2) := by decide +kernel
theorem dX6_helpFor_70 : decode cX6_helpFor 70 = .ok (.ifCond .ne 5, 3) := by decide +kernel
theorem dX6_helpFor_73 : decode cX6_helpFor 73 = .ok (.iconst (-1), 1) := by decide +kernel
theorem dX6_helpFor_74 : decode cX6_helpFor 74 = .ok (.ireturn, 1) := by decide +kernel
theorem dX6_helpFor_75 : decode cX6_helpFor 75 = .ok (.iload 4, 2) := by decide +kernel
theorem dX6_helpFor_77 : decode cX6_helpFor 77 = .ok (.iconst 3, 1) := by decide +kernel
theorem dX6_helpFor_78 : decode cX6_helpFor 78 = .ok (.if_icmp .eq 15, 3) := by decide +kernel
theorem dX6_helpFor_81 : decode cX6_helpFor 81 = .ok (.iload 4, 2) := by decide +kernel
theorem dX6_helpFor_83 : decode cX6_helpFor 83 = .ok (.iconst 1, 1) := by decide +kernel
theorem dX6_helpFor_84 : decode cX6_helpFor 84 = .ok (.if_icmp .ne 48, 3) := by decide +kernel
theorem dX6_helpFor_87 : decode cX6_helpFor 87 = .ok (.iload 5, 2) := by decide +kernel
theorem dX6_helpFor_89 : decode cX6_helpFor 89 = .ok (.iconst 5, 1) := by decide +kernel
theorem dX6_helpFor_90 : decode cX6_helpFor 90 = .ok (.if_icmp .eq 42, 3) := by decide +kernel
theorem dX6_helpFor_93 : decode cX6_helpFor 93 = .ok (.aload_n 0, 1) := by decide +kernel
theorem dX6_helpFor_94 : decode cX6_helpFor 94 = .ok (.iload_n 2, 1) := by decide +kernel
theorem dX6_helpFor_95 : decode cX6_helpFor 95 = .ok (.iload 6, 2) := by decide +kernel
theorem dX6_helpFor_97 : decode cX6_helpFor 97 = .ok (.iconst (-1), 1) := by decide +kernel
theorem dX6_helpFor_98 : decode cX6_helpFor 98 = .ok (.ixor, 1) := by decide +kernel
theorem dX6_helpFor_99 : decode cX6_helpFor 99 = .ok (.iand, 1) := by decide +kernel
theorem dX6_helpFor_100 : decode cX6_helpFor 100 = .ok (.iload 4, 2) := by decide +kernel
theorem dX6_helpFor_102 : decode cX6_helpFor 102 = .ok (.iconst 3, 1) := by decide +kernel
theorem dX6_helpFor_103 : decode cX6_helpFor 103 = .ok (.if_icmp .ne 7, 3) := by decide +kernel
theorem dX6_helpFor_106 : decode cX6_helpFor 106 = .ok (.iconst (-1), 1) := by decide +kernel
theorem dX6_helpFor_107 : decode cX6_helpFor 107 = .ok (.goto 5, 3) := by decide +kernel
theorem dX6_helpFor_110 : decode cX6_helpFor 110 = .ok (.iload 5, 2) := by decide +kernel
theorem dX6_helpFor_112 : decode cX6_helpFor 112 = .ok (.invokevirtual 108, 3) := by decide +kernel
theorem dX6_helpFor_115 : decode cX6_helpFor 115 = .ok (.istore 7, 2) := by decide +kernel
theorem dX6_helpFor_117 : decode cX6_helpFor 117 = .ok (.iload 7, 2) := by decide +kernel
theorem dX6_helpFor_119 : decode cX6_helpFor 119 = .ok (.ifCond .ne 7, 3) := by decide +kernel
theorem dX6_helpFor_122 : decode cX6_helpFor 122 = .ok (.iconst (-1), 1) := by decide +kernel
theorem dX6_helpFor_123 : decode cX6_helpFor 123 = .ok (.goto 8, 3) := by decide +kernel
theorem dX6_helpFor_126 : decode cX6_helpFor 126 = .ok (.iload 6, 2) := by decide +kernel
theorem dX6_helpFor_128 : decode cX6_helpFor 128 = .ok (.iload 7, 2) := by decide +kernel
theorem dX6_helpFor_130 : decode cX6_helpFor 130 = .ok (.ior, 1) := by decide +kernel
theorem dX6_helpFor_131 : decode cX6_helpFor 131 = .ok (.ireturn, 1) := by decide +kernel
theorem dX6_helpFor_132 : decode cX6_helpFor 132 = .ok (.iload 6, 2) := by decide +kernel
theorem dX6_helpFor_134 : decode cX6_helpFor 134 = .ok (.ireturn, 1) := by decide +kernel
theorem dX6_isLost_0 : decode cX6_isLost 0 = .ok (.aload_n 0, 1) := by decide +kernel
theorem dX6_isLost_1 : decode cX6_isLost 1 = .ok (.getfield 19, 3) := by decide +kernel
theorem dX6_isLost_4 : decode cX6_isLost 4 = .ok (.iconst 5, 1) := by decide +kernel
theorem dX6_isLost_5 : decode cX6_isLost 5 = .ok (.iaload, 1) := by decide +kernel
theorem dX6_isLost_6 : decode cX6_isLost 6 = .ok (.aload_n 0, 1) := by decide +kernel
theorem dX6_isLost_7 : decode cX6_isLost 7 = .ok (.getfield 13, 3) := by decide +kernel
theorem dX6_isLost_10 : decode cX6_isLost 10 = .ok (.iconst 3, 1) := by decide +kernel
theorem dX6_isLost_11 : decode cX6_isLost 11 = .ok (.iaload, 1) := by decide +kernel
theorem dX6_isLost_12 : decode cX6_isLost 12 = .ok (.if_icmp .le 7, 3) := by decide +kernel
theorem dX6_isLost_15 : decode cX6_isLost 15 = .ok (.iconst 1, 1) := by decide +kernel
theorem dX6_isLost_16 : decode cX6_isLost 16 = .ok (.goto 4, 3) := by decide +kernel
theorem dX6_isLost_19 : decode cX6_isLost 19 = .ok (.iconst 0, 1) := by decide +kernel
theorem dX6_isLost_20 : decode cX6_isLost 20 = .ok (.ireturn, 1) := by decide +kernel
theorem dX6_open_0 : decode cX6_open 0 = .ok (.aload_n 0, 1) := by decide +kernel
theorem dX6_open_1 : decode cX6_open 1 = .ok (.getfield 19, 3) := by decide +kernel
theorem dX6_open_4 : decode cX6_open 4 = .ok (.iconst 0, 1) := by decide +kernel
theorem dX6_open_5 : decode cX6_open 5 = .ok (.iaload, 1) := by decide +kernel
theorem dX6_open_6 : decode cX6_open 6 = .ok (.aload_n 0, 1) := by decide +kernel
theorem dX6_open_7 : decode cX6_open 7 = .ok (.getfield 19, 3) := by decide +kernel
theorem dX6_open_10 : decode cX6_open 10 = .ok (.iconst 1, 1) := by decide +kernel
theorem dX6_open_11 : decode cX6_open 11 = .ok (.iaload, 1) := by decide +kernel
theorem dX6_open_12 : decode cX6_open 12 = .ok (.iconst (-1), 1) := by decide +kernel
theorem dX6_open_13 : decode cX6_open 13 = .ok (.ixor, 1) := by decide +kernel
theorem dX6_open_14 : decode cX6_open 14 = .ok (.iand, 1) := by decide +kernel
theorem dX6_open_15 : decode cX6_open 15 = .ok (.ireturn, 1) := by decide +kernel
set_option maxRecDepth 20000 in
theorem ggX6_helpNow_X6_isLost : GoodIn wsX6_helpNow wsX6_isLost := goodIn_r _ [6, 1, 7, 20, 21, 22, 23, 24, 25, 26, 27, 28, 29, 30, 31, 32, 33, 34, 35, 36, 37, 38, 39, 40, 41, 42] (by decide +kernel) (by decide +kernel)
set_option maxRecDepth 20000 in
theorem gX6_helpNow_X6_isLost : GoodIn wsX6_helpNow (wsV RX6 112 RX6 yX6_isLost wsX6_isLost) := goodIn_app (goodIn_of _ (by decide +kernel)) ggX6_helpNow_X6_isLost
set_option maxRecDepth 20000 in
theorem ggX6_helpNow_X6_open : GoodIn wsX6_helpNow wsX6_open := goodIn_r _ [11, 1, 20, 21, 22, 23, 24, 25, 26, 27, 28, 29, 30, 31, 32, 33, 34, 35, 36, 37, 38, 39, 40, 41, 42] (by decide +kernel) (by decide +kernel)
set_option maxRecDepth 20000 in
theorem gX6_helpNow_X6_open : GoodIn wsX6_helpNow (wsV RX6 116 RX6 yX6_open wsX6_open) := goodIn_app (goodIn_of _ (by decide +kernel)) ggX6_helpNow_X6_open
set_option maxRecDepth 20000 in
theorem ggX6_helpNow_X6_helpFor : GoodIn wsX6_helpNow wsX6_helpFor := goodIn_r _ [15, 7, 16, 17, 18, 5, 19, 20, 21, 22, 23, 24, 25, 26, 27, 28, 29, 30, 31, 32, 33, 34, 35, 36, 37, 38, 39, 40, 41, 42] (by decide +kernel) (by decide +kernel)
set_option maxRecDepth 20000 in
theorem gX6_helpNow_X6_helpFor : GoodIn wsX6_helpNow (wsV RX6 119 RX6 yX6_helpFor wsX6_helpFor) := goodIn_app (goodIn_of _ (by decide +kernel)) ggX6_helpNow_X6_helpFor
theorem dX6_helpNow_0 : decode cX6_helpNow 0 = .ok (.aload_n 0, 1) := by decide +kernel
theorem dX6_helpNow_1 : decode cX6_helpNow 1 = .ok (.invokevirtual 112, 3) := by decide +kernel
theorem dX6_helpNow_4 : decode cX6_helpNow 4 = .ok (.ifCond .ne 14, 3) := by decide +kernel
theorem dX6_helpNow_7 : decode cX6_helpNow 7 = .ok (.aload_n 0, 1) := by decide +kernel
theorem dX6_helpNow_8 : decode cX6_helpNow 8 = .ok (.invokevirtual 116, 3) := by decide +kernel
theorem dX6_helpNow_11 : decode cX6_helpNow 11 = .ok (.iload_n 1, 1) := by decide +kernel
theorem dX6_helpNow_12 : decode cX6_helpNow 12 = .ok (.ishr, 1) := by decide +kernel
theorem dX6_helpNow_13 : decode cX6_helpNow 13 = .ok (.iconst 1, 1) := by decide +kernel
theorem dX6_helpNow_14 : decode cX6_helpNow 14 = .ok (.iand, 1) := by decide +kernel
theorem dX6_helpNow_15 : decode cX6_helpNow 15 = .ok (.ifCond .ne 7, 3) := by decide +kernel
theorem dX6_helpNow_18 : decode cX6_helpNow 18 = .ok (.iconst (-1), 1) := by decide +kernel
theorem dX6_helpNow_19 : decode cX6_helpNow 19 = .ok (.goto 29, 3) := by decide +kernel
theorem dX6_helpNow_22 : decode cX6_helpNow 22 = .ok (.aload_n 0, 1) := by decide +kernel
theorem dX6_helpNow_23 : decode cX6_helpNow 23 = .ok (.iload_n 1, 1) := by decide +kernel
theorem dX6_helpNow_24 : decode cX6_helpNow 24 = .ok (.aload_n 0, 1) := by decide +kernel
theorem dX6_helpNow_25 : decode cX6_helpNow 25 = .ok (.getfield 19, 3) := by decide +kernel
theorem dX6_helpNow_28 : decode cX6_helpNow 28 = .ok (.iconst 2, 1) := by decide +kernel
theorem dX6_helpNow_29 : decode cX6_helpNow 29 = .ok (.iaload, 1) := by decide +kernel
theorem dX6_helpNow_30 : decode cX6_helpNow 30 = .ok (.aload_n 0, 1) := by decide +kernel
theorem dX6_helpNow_31 : decode cX6_helpNow 31 = .ok (.getfield 19, 3) := by decide +kernel
theorem dX6_helpNow_34 : decode cX6_helpNow 34 = .ok (.iconst 3, 1) := by decide +kernel
theorem dX6_helpNow_35 : decode cX6_helpNow 35 = .ok (.iaload, 1) := by decide +kernel
theorem dX6_helpNow_36 : decode cX6_helpNow 36 = .ok (.iconst (-1), 1) := by decide +kernel
theorem dX6_helpNow_37 : decode cX6_helpNow 37 = .ok (.ixor, 1) := by decide +kernel
theorem dX6_helpNow_38 : decode cX6_helpNow 38 = .ok (.iand, 1) := by decide +kernel
theorem dX6_helpNow_39 : decode cX6_helpNow 39 = .ok (.aload_n 0, 1) := by decide +kernel
theorem dX6_helpNow_40 : decode cX6_helpNow 40 = .ok (.getfield 19, 3) := by decide +kernel
theorem dX6_helpNow_43 : decode cX6_helpNow 43 = .ok (.iconst 5, 1) := by decide +kernel
theorem dX6_helpNow_44 : decode cX6_helpNow 44 = .ok (.iaload, 1) := by decide +kernel
theorem dX6_helpNow_45 : decode cX6_helpNow 45 = .ok (.invokevirtual 119, 3) := by decide +kernel
theorem dX6_helpNow_48 : decode cX6_helpNow 48 = .ok (.ireturn, 1) := by decide +kernel
set_option maxRecDepth 20000 in
theorem ggX6_task_X6_isTask : GoodIn wsX6_task wsX6_isTask := goodIn_r _ [7, 1, 8, 9, 6, 10, 31, 32, 33, 34, 35, 36, 37, 38, 39, 40, 41, 42, 43, 44, 45, 46, 47, 48, 49, 50, 51, 52, 53] (by decide +kernel) (by decide +kernel)
set_option maxRecDepth 20000 in
theorem gX6_task_X6_isTask : GoodIn wsX6_task (wsV RX6 122 RX6 yX6_isTask wsX6_isTask) := goodIn_app (goodIn_of _ (by decide +kernel)) ggX6_task_X6_isTask
set_option maxRecDepth 20000 in
theorem ggX6_task_X6_helpNow : GoodIn wsX6_task wsX6_helpNow := goodIn_r _ [14, 2, 15, 16, 17, 6, 18, 1, 19, 20, 21, 22, 23, 24, 25, 26, 27, 28, 29, 30, 31, 32, 33, 34, 35, 36, 37, 38, 39, 40, 41, 42, 43, 44, 45, 46, 47, 48, 49, 50, 51, 52, 53] (by decide +kernel) (by decide +kernel)
set_option maxRecDepth 20000 in
theorem gX6_task_X6_helpNow : GoodIn wsX6_task (wsV RX6 125 RX6 yX6_helpNow wsX6_helpNow) := goodIn_app (goodIn_of _ (by decide +kernel)) ggX6_task_X6_helpNow
theorem dX6_task_0 : decode cX6_task 0 = .ok (.aload_n 0, 1) := by decide +kernel
theorem dX6_task_1 : decode cX6_task 1 = .ok (.iload_n 1, 1) := by decide +kernel
theorem dX6_task_2 : decode cX6_task 2 = .ok (.invokevirtual 122, 3) := by decide +kernel
theorem dX6_task_5 : decode cX6_task 5 = .ok (.ifCond .ne 5, 3) := by decide +kernel
theorem dX6_task_8 : decode cX6_task 8 = .ok (.iconst (-1), 1) := by decide +kernel
theorem dX6_task_9 : decode cX6_task 9 = .ok (.ireturn, 1) := by decide +kernel
theorem dX6_task_10 : decode cX6_task 10 = .ok (.iload_n 2, 1) := by decide +kernel
theorem dX6_task_11 : decode cX6_task 11 = .ok (.tableswitch 116 0 6 #[41, 50, 60, 70, 80, 91, 102], 41) := by decide +kernel
theorem dX6_task_52 : decode cX6_task 52 = .ok (.aload_n 0, 1) := by decide +kernel
theorem dX6_task_53 : decode cX6_task 53 = .ok (.getfield 13, 3) := by decide +kernel
theorem dX6_task_56 : decode cX6_task 56 = .ok (.iconst 5, 1) := by decide +kernel
theorem dX6_task_57 : decode cX6_task 57 = .ok (.iload_n 1, 1) := by decide +kernel
theorem dX6_task_58 : decode cX6_task 58 = .ok (.iadd, 1) := by decide +kernel
theorem dX6_task_59 : decode cX6_task 59 = .ok (.iaload, 1) := by decide +kernel
theorem dX6_task_60 : decode cX6_task 60 = .ok (.ireturn, 1) := by decide +kernel
theorem dX6_task_61 : decode cX6_task 61 = .ok (.aload_n 0, 1) := by decide +kernel
theorem dX6_task_62 : decode cX6_task 62 = .ok (.getfield 13, 3) := by decide +kernel
theorem dX6_task_65 : decode cX6_task 65 = .ok (.bipush 13, 2) := by decide +kernel
theorem dX6_task_67 : decode cX6_task 67 = .ok (.iload_n 1, 1) := by decide +kernel
theorem dX6_task_68 : decode cX6_task 68 = .ok (.iadd, 1) := by decide +kernel
theorem dX6_task_69 : decode cX6_task 69 = .ok (.iaload, 1) := by decide +kernel
theorem dX6_task_70 : decode cX6_task 70 = .ok (.ireturn, 1) := by decide +kernel
theorem dX6_task_71 : decode cX6_task 71 = .ok (.aload_n 0, 1) := by decide +kernel
theorem dX6_task_72 : decode cX6_task 72 = .ok (.getfield 13, 3) := by decide +kernel
theorem dX6_task_75 : decode cX6_task 75 = .ok (.bipush 21, 2) := by decide +kernel
theorem dX6_task_77 : decode cX6_task 77 = .ok (.iload_n 1, 1) := by decide +kernel
theorem dX6_task_78 : decode cX6_task 78 = .ok (.iadd, 1) := by decide +kernel
theorem dX6_task_79 : decode cX6_task 79 = .ok (.iaload, 1) := by decide +kernel
theorem dX6_task_80 : decode cX6_task 80 = .ok (.ireturn, 1) := by decide +kernel
theorem dX6_task_81 : decode cX6_task 81 = .ok (.aload_n 0, 1) := by decide +kernel
theorem dX6_task_82 : decode cX6_task 82 = .ok (.getfield 13, 3) := by decide +kernel
theorem dX6_task_85 : decode cX6_task 85 = .ok (.bipush 29, 2) := by decide +kernel
theorem dX6_task_87 : decode cX6_task 87 = .ok (.iload_n 1, 1) := by decide +kernel
theorem dX6_task_88 : decode cX6_task 88 = .ok (.iadd, 1) := by decide +kernel
theorem dX6_task_89 : decode cX6_task 89 = .ok (.iaload, 1) := by decide +kernel
theorem dX6_task_90 : decode cX6_task 90 = .ok (.ireturn, 1) := by decide +kernel
theorem dX6_task_91 : decode cX6_task 91 = .ok (.aload_n 0, 1) := by decide +kernel
theorem dX6_task_92 : decode cX6_task 92 = .ok (.getfield 19, 3) := by decide +kernel
theorem dX6_task_95 : decode cX6_task 95 = .ok (.iconst 0, 1) := by decide +kernel
theorem dX6_task_96 : decode cX6_task 96 = .ok (.iaload, 1) := by decide +kernel
theorem dX6_task_97 : decode cX6_task 97 = .ok (.iload_n 1, 1) := by decide +kernel
theorem dX6_task_98 : decode cX6_task 98 = .ok (.ishr, 1) := by decide +kernel
theorem dX6_task_99 : decode cX6_task 99 = .ok (.iconst 1, 1) := by decide +kernel
theorem dX6_task_100 : decode cX6_task 100 = .ok (.iand, 1) := by decide +kernel
theorem dX6_task_101 : decode cX6_task 101 = .ok (.ireturn, 1) := by decide +kernel
theorem dX6_task_102 : decode cX6_task 102 = .ok (.aload_n 0, 1) := by decide +kernel
theorem dX6_task_103 : decode cX6_task 103 = .ok (.getfield 19, 3) := by decide +kernel
theorem dX6_task_106 : decode cX6_task 106 = .ok (.iconst 1, 1) := by decide +kernel
theorem dX6_task_107 : decode cX6_task 107 = .ok (.iaload, 1) := by decide +kernel
theorem dX6_task_108 : decode cX6_task 108 = .ok (.iload_n 1, 1) := by decide +kernel
theorem dX6_task_109 : decode cX6_task 109 = .ok (.ishr, 1) := by decide +kernel
theorem dX6_task_110 : decode cX6_task 110 = .ok (.iconst 1, 1) := by decide +kernel
theorem dX6_task_111 : decode cX6_task 111 = .ok (.iand, 1) := by decide +kernel
theorem dX6_task_112 : decode cX6_task 112 = .ok (.ireturn, 1) := by decide +kernel
theorem dX6_task_113 : decode cX6_task 113 = .ok (.aload_n 0, 1) := by decide +kernel
theorem dX6_task_114 : decode cX6_task 114 = .ok (.iload_n 1, 1) := by decide +kernel
theorem dX6_task_115 : decode cX6_task 115 = .ok (.invokevirtual 125, 3) := by decide +kernel
theorem dX6_task_118 : decode cX6_task 118 = .ok (.ifCond .ge 7, 3) := by decide +kernel
theorem dX6_task_121 : decode cX6_task 121 = .ok (.iconst 0, 1) := by decide +kernel
theorem dX6_task_122 : decode cX6_task 122 = .ok (.goto 4, 3) := by decide +kernel
theorem dX6_task_125 : decode cX6_task 125 = .ok (.iconst 1, 1) := by decide +kernel
theorem dX6_task_126 : decode cX6_task 126 = .ok (.ireturn, 1) := by decide +kernel
theorem dX6_task_127 : decode cX6_task 127 = .ok (.iconst (-1), 1) := by decide +kernel
theorem dX6_task_128 : decode cX6_task 128 = .ok (.ireturn, 1) := by decide +kernel
set_option maxRecDepth 20000 in
theorem ggX6_helper_X6_isHelper : GoodIn wsX6_helper wsX6_isHelper := goodIn_r _ [7, 1, 8, 9, 6, 10, 11, 12, 13, 14, 15, 16, 17, 18, 19, 20, 21, 22, 23, 24, 25, 26, 27, 28, 29, 30, 31, 32, 33] (by decide +kernel) (by decide +kernel)
set_option maxRecDepth 20000 in
theorem gX6_helper_X6_isHelper : GoodIn wsX6_helper (wsV RX6 128 RX6 yX6_isHelper wsX6_isHelper) := goodIn_app (goodIn_of _ (by decide +kernel)) ggX6_helper_X6_isHelper
theorem dX6_helper_0 : decode cX6_helper 0 = .ok (.aload_n 0, 1) := by decide +kernel
theorem dX6_helper_1 : decode cX6_helper 1 = .ok (.iload_n 1, 1) := by decide +kernel
theorem dX6_helper_2 : decode cX6_helper 2 = .ok (.invokevirtual 128, 3) := by decide +kernel
theorem dX6_helper_5 : decode cX6_helper 5 = .ok (.ifCond .ne 5, 3) := by decide +kernel
theorem dX6_helper_8 : decode cX6_helper 8 = .ok (.iconst (-1), 1) := by decide +kernel
theorem dX6_helper_9 : decode cX6_helper 9 = .ok (.ireturn, 1) := by decide +kernel
theorem dX6_helper_10 : decode cX6_helper 10 = .ok (.iload_n 2, 1) := by decide +kernel
theorem dX6_helper_11 : decode cX6_helper 11 = .ok (.tableswitch 71 0 3 #[29, 39, 49, 60], 29) := by decide +kernel
theorem dX6_helper_40 : decode cX6_helper 40 = .ok (.aload_n 0, 1) := by decide +kernel
theorem dX6_helper_41 : decode cX6_helper 41 = .ok (.getfield 13, 3) := by decide +kernel
theorem dX6_helper_44 : decode cX6_helper 44 = .ok (.bipush 37, 2) := by decide +kernel
theorem dX6_helper_46 : decode cX6_helper 46 = .ok (.iload_n 1, 1) := by decide +kernel
theorem dX6_helper_47 : decode cX6_helper 47 = .ok (.iadd, 1) := by decide +kernel
theorem dX6_helper_48 : decode cX6_helper 48 = .ok (.iaload, 1) := by decide +kernel
theorem dX6_helper_49 : decode cX6_helper 49 = .ok (.ireturn, 1) := by decide +kernel
theorem dX6_helper_50 : decode cX6_helper 50 = .ok (.aload_n 0, 1) := by decide +kernel
theorem dX6_helper_51 : decode cX6_helper 51 = .ok (.getfield 13, 3) := by decide +kernel
theorem dX6_helper_54 : decode cX6_helper 54 = .ok (.bipush 44, 2) := by decide +kernel
theorem dX6_helper_56 : decode cX6_helper 56 = .ok (.iload_n 1, 1) := by decide +kernel
theorem dX6_helper_57 : decode cX6_helper 57 = .ok (.iadd, 1) := by decide +kernel
theorem dX6_helper_58 : decode cX6_helper 58 = .ok (.iaload, 1) := by decide +kernel
theorem dX6_helper_59 : decode cX6_helper 59 = .ok (.ireturn, 1) := by decide +kernel
theorem dX6_helper_60 : decode cX6_helper 60 = .ok (.aload_n 0, 1) := by decide +kernel
theorem dX6_helper_61 : decode cX6_helper 61 = .ok (.getfield 19, 3) := by decide +kernel
theorem dX6_helper_64 : decode cX6_helper 64 = .ok (.iconst 2, 1) := by decide +kernel
theorem dX6_helper_65 : decode cX6_helper 65 = .ok (.iaload, 1) := by decide +kernel
theorem dX6_helper_66 : decode cX6_helper 66 = .ok (.iload_n 1, 1) := by decide +kernel
theorem dX6_helper_67 : decode cX6_helper 67 = .ok (.ishr, 1) := by decide +kernel
theorem dX6_helper_68 : decode cX6_helper 68 = .ok (.iconst 1, 1) := by decide +kernel
theorem dX6_helper_69 : decode cX6_helper 69 = .ok (.iand, 1) := by decide +kernel
theorem dX6_helper_70 : decode cX6_helper 70 = .ok (.ireturn, 1) := by decide +kernel
theorem dX6_helper_71 : decode cX6_helper 71 = .ok (.aload_n 0, 1) := by decide +kernel
theorem dX6_helper_72 : decode cX6_helper 72 = .ok (.getfield 19, 3) := by decide +kernel
theorem dX6_helper_75 : decode cX6_helper 75 = .ok (.iconst 3, 1) := by decide +kernel
theorem dX6_helper_76 : decode cX6_helper 76 = .ok (.iaload, 1) := by decide +kernel
theorem dX6_helper_77 : decode cX6_helper 77 = .ok (.iload_n 1, 1) := by decide +kernel
theorem dX6_helper_78 : decode cX6_helper 78 = .ok (.ishr, 1) := by decide +kernel
theorem dX6_helper_79 : decode cX6_helper 79 = .ok (.iconst 1, 1) := by decide +kernel
theorem dX6_helper_80 : decode cX6_helper 80 = .ok (.iand, 1) := by decide +kernel
theorem dX6_helper_81 : decode cX6_helper 81 = .ok (.ireturn, 1) := by decide +kernel
theorem dX6_helper_82 : decode cX6_helper 82 = .ok (.iconst (-1), 1) := by decide +kernel
theorem dX6_helper_83 : decode cX6_helper 83 = .ok (.ireturn, 1) := by decide +kernel
set_option maxRecDepth 20000 in
theorem ggX6_help_X6_isTask : GoodIn wsX6_help wsX6_isTask := goodIn_r _ [5, 6, 7, 8, 4, 9, 31, 32, 33, 34, 35, 36, 37, 38, 39, 40, 41, 42, 43, 44, 45, 46, 47, 48, 49, 50, 51, 52, 53] (by decide +kernel) (by decide +kernel)
set_option maxRecDepth 20000 in
theorem gX6_help_X6_isTask : GoodIn wsX6_help (wsV RX6 122 RX6 yX6_isTask wsX6_isTask) := goodIn_app (goodIn_of _ (by decide +kernel)) ggX6_help_X6_isTask
set_option maxRecDepth 20000 in
theorem ggX6_help_X6_helpNow : GoodIn wsX6_help wsX6_helpNow := goodIn_r _ [13, 14, 15, 16, 17, 4, 18, 6, 19, 20, 21, 22, 23, 24, 25, 26, 27, 28, 29, 30, 31, 32, 33, 34, 35, 36, 37, 38, 39, 40, 41, 42, 43, 44, 45, 46, 47, 48, 49, 50, 51, 52, 53] (by decide +kernel) (by decide +kernel)
set_option maxRecDepth 20000 in
theorem gX6_help_X6_helpNow : GoodIn wsX6_help (wsV RX6 125 RX6 yX6_helpNow wsX6_helpNow) := goodIn_app (goodIn_of _ (by decide +kernel)) ggX6_help_X6_helpNow
theorem dX6_help_0 : decode cX6_help 0 = .ok (.aload_n 0, 1) := by decide +kernel
theorem dX6_help_1 : decode cX6_help 1 = .ok (.iload_n 1, 1) := by decide +kernel
theorem dX6_help_2 : decode cX6_help 2 = .ok (.invokevirtual 122, 3) := by decide +kernel
theorem dX6_help_5 : decode cX6_help 5 = .ok (.ifCond .ne 5, 3) := by decide +kernel
theorem dX6_help_8 : decode cX6_help 8 = .ok (.iconst (-1), 1) := by decide +kernel
theorem dX6_help_9 : decode cX6_help 9 = .ok (.ireturn, 1) := by decide +kernel
theorem dX6_help_10 : decode cX6_help 10 = .ok (.aload_n 0, 1) := by decide +kernel
theorem dX6_help_11 : decode cX6_help 11 = .ok (.iload_n 1, 1) := by decide +kernel
theorem dX6_help_12 : decode cX6_help 12 = .ok (.invokevirtual 125, 3) := by decide +kernel
theorem dX6_help_15 : decode cX6_help 15 = .ok (.istore_n 2, 1) := by decide +kernel
theorem dX6_help_16 : decode cX6_help 16 = .ok (.iload_n 2, 1) := by decide +kernel
theorem dX6_help_17 : decode cX6_help 17 = .ok (.ifCond .ge 8, 3) := by decide +kernel
theorem dX6_help_20 : decode cX6_help 20 = .ok (.bipush (-2), 2) := by decide +kernel
theorem dX6_help_22 : decode cX6_help 22 = .ok (.goto 4, 3) := by decide +kernel
theorem dX6_help_25 : decode cX6_help 25 = .ok (.iload_n 2, 1) := by decide +kernel
theorem dX6_help_26 : decode cX6_help 26 = .ok (.ireturn, 1) := by decide +kernel
theorem dX6_keeps_0 : decode cX6_keeps 0 = .ok (.aload_n 0, 1) := by decide +kernel
theorem dX6_keeps_1 : decode cX6_keeps 1 = .ok (.getfield 99, 3) := by decide +kernel
theorem dX6_keeps_4 : decode cX6_keeps 4 = .ok (.bipush 8, 2) := by decide +kernel
theorem dX6_keeps_6 : decode cX6_keeps 6 = .ok (.if_icmp .ne 42, 3) := by decide +kernel
theorem dX6_keeps_9 : decode cX6_keeps 9 = .ok (.iconst 0, 1) := by decide +kernel
theorem dX6_keeps_10 : decode cX6_keeps 10 = .ok (.istore_n 1, 1) := by decide +kernel
theorem dX6_keeps_11 : decode cX6_keeps 11 = .ok (.iload_n 1, 1) := by decide +kernel
theorem dX6_keeps_12 : decode cX6_keeps 12 = .ok (.bipush 42, 2) := by decide +kernel
theorem dX6_keeps_14 : decode cX6_keeps 14 = .ok (.if_icmp .ge 24, 3) := by decide +kernel
theorem dX6_keeps_17 : decode cX6_keeps 17 = .ok (.aload_n 0, 1) := by decide +kernel
theorem dX6_keeps_18 : decode cX6_keeps 18 = .ok (.getfield 22, 3) := by decide +kernel
theorem dX6_keeps_21 : decode cX6_keeps 21 = .ok (.iload_n 1, 1) := by decide +kernel
theorem dX6_keeps_22 : decode cX6_keeps 22 = .ok (.aload_n 0, 1) := by decide +kernel
theorem dX6_keeps_23 : decode cX6_keeps 23 = .ok (.getfield 22, 3) := by decide +kernel
theorem dX6_keeps_26 : decode cX6_keeps 26 = .ok (.iload_n 1, 1) := by decide +kernel
theorem dX6_keeps_27 : decode cX6_keeps 27 = .ok (.bipush 6, 2) := by decide +kernel
theorem dX6_keeps_29 : decode cX6_keeps 29 = .ok (.iadd, 1) := by decide +kernel
theorem dX6_keeps_30 : decode cX6_keeps 30 = .ok (.iaload, 1) := by decide +kernel
theorem dX6_keeps_31 : decode cX6_keeps 31 = .ok (.iastore, 1) := by decide +kernel
theorem dX6_keeps_32 : decode cX6_keeps 32 = .ok (.iinc 1 1, 3) := by decide +kernel
theorem dX6_keeps_35 : decode cX6_keeps 35 = .ok (.goto (-24), 3) := by decide +kernel
theorem dX6_keeps_38 : decode cX6_keeps 38 = .ok (.aload_n 0, 1) := by decide +kernel
theorem dX6_keeps_39 : decode cX6_keeps 39 = .ok (.dup, 1) := by decide +kernel
theorem dX6_keeps_40 : decode cX6_keeps 40 = .ok (.getfield 99, 3) := by decide +kernel
theorem dX6_keeps_43 : decode cX6_keeps 43 = .ok (.iconst 1, 1) := by decide +kernel
theorem dX6_keeps_44 : decode cX6_keeps 44 = .ok (.isub, 1) := by decide +kernel
theorem dX6_keeps_45 : decode cX6_keeps 45 = .ok (.putfield 99, 3) := by decide +kernel
theorem dX6_keeps_48 : decode cX6_keeps 48 = .ok (.iconst 0, 1) := by decide +kernel
theorem dX6_keeps_49 : decode cX6_keeps 49 = .ok (.istore_n 1, 1) := by decide +kernel
theorem dX6_keeps_50 : decode cX6_keeps 50 = .ok (.iload_n 1, 1) := by decide +kernel
theorem dX6_keeps_51 : decode cX6_keeps 51 = .ok (.bipush 6, 2) := by decide +kernel
theorem dX6_keeps_53 : decode cX6_keeps 53 = .ok (.if_icmp .ge 29, 3) := by decide +kernel
theorem dX6_keeps_56 : decode cX6_keeps 56 = .ok (.aload_n 0, 1) := by decide +kernel
theorem dX6_keeps_57 : decode cX6_keeps 57 = .ok (.getfield 22, 3) := by decide +kernel
theorem dX6_keeps_60 : decode cX6_keeps 60 = .ok (.bipush 6, 2) := by decide +kernel
theorem dX6_keeps_62 : decode cX6_keeps 62 = .ok (.aload_n 0, 1) := by decide +kernel
theorem dX6_keeps_63 : decode cX6_keeps 63 = .ok (.getfield 99, 3) := by decide +kernel
theorem dX6_keeps_66 : decode cX6_keeps 66 = .ok (.imul, 1) := by decide +kernel
theorem dX6_keeps_67 : decode cX6_keeps 67 = .ok (.iload_n 1, 1) := by decide +kernel
theorem dX6_keeps_68 : decode cX6_keeps 68 = .ok (.iadd, 1) := by decide +kernel
theorem dX6_keeps_69 : decode cX6_keeps 69 = .ok (.aload_n 0, 1) := by decide +kernel
theorem dX6_keeps_70 : decode cX6_keeps 70 = .ok (.getfield 19, 3) := by decide +kernel
theorem dX6_keeps_73 : decode cX6_keeps 73 = .ok (.iload_n 1, 1) := by decide +kernel
theorem dX6_keeps_74 : decode cX6_keeps 74 = .ok (.iaload, 1) := by decide +kernel
theorem dX6_keeps_75 : decode cX6_keeps 75 = .ok (.iastore, 1) := by decide +kernel
theorem dX6_keeps_76 : decode cX6_keeps 76 = .ok (.iinc 1 1, 3) := by decide +kernel
theorem dX6_keeps_79 : decode cX6_keeps 79 = .ok (.goto (-29), 3) := by decide +kernel
theorem dX6_keeps_82 : decode cX6_keeps 82 = .ok (.aload_n 0, 1) := by decide +kernel
theorem dX6_keeps_83 : decode cX6_keeps 83 = .ok (.dup, 1) := by decide +kernel
theorem dX6_keeps_84 : decode cX6_keeps 84 = .ok (.getfield 99, 3) := by decide +kernel
theorem dX6_keeps_87 : decode cX6_keeps 87 = .ok (.iconst 1, 1) := by decide +kernel
theorem dX6_keeps_88 : decode cX6_keeps 88 = .ok (.iadd, 1) := by decide +kernel
theorem dX6_keeps_89 : decode cX6_keeps 89 = .ok (.putfield 99, 3) := by decide +kernel
theorem dX6_keeps_92 : decode cX6_keeps 92 = .ok (.return_, 1) := by decide +kernel
theorem dX6_canBefriend_0 : decode cX6_canBefriend 0 = .ok (.aload_n 0, 1) := by decide +kernel
theorem dX6_canBefriend_1 : decode cX6_canBefriend 1 = .ok (.getfield 19, 3) := by decide +kernel
theorem dX6_canBefriend_4 : decode cX6_canBefriend 4 = .ok (.iconst 2, 1) := by decide +kernel
theorem dX6_canBefriend_5 : decode cX6_canBefriend 5 = .ok (.iaload, 1) := by decide +kernel
theorem dX6_canBefriend_6 : decode cX6_canBefriend 6 = .ok (.iload_n 1, 1) := by decide +kernel
theorem dX6_canBefriend_7 : decode cX6_canBefriend 7 = .ok (.ishr, 1) := by decide +kernel
theorem dX6_canBefriend_8 : decode cX6_canBefriend 8 = .ok (.iconst 1, 1) := by decide +kernel
theorem dX6_canBefriend_9 : decode cX6_canBefriend 9 = .ok (.iand, 1) := by decide +kernel
theorem dX6_canBefriend_10 : decode cX6_canBefriend 10 = .ok (.ifCond .ne 25, 3) := by decide +kernel
theorem dX6_canBefriend_13 : decode cX6_canBefriend 13 = .ok (.aload_n 0, 1) := by decide +kernel
theorem dX6_canBefriend_14 : decode cX6_canBefriend 14 = .ok (.getfield 13, 3) := by decide +kernel
theorem dX6_canBefriend_17 : decode cX6_canBefriend 17 = .ok (.bipush 44, 2) := by decide +kernel
theorem dX6_canBefriend_19 : decode cX6_canBefriend 19 = .ok (.iload_n 1, 1) := by decide +kernel
theorem dX6_canBefriend_20 : decode cX6_canBefriend 20 = .ok (.iadd, 1) := by decide +kernel
theorem dX6_canBefriend_21 : decode cX6_canBefriend 21 = .ok (.iaload, 1) := by decide +kernel
theorem dX6_canBefriend_22 : decode cX6_canBefriend 22 = .ok (.aload_n 0, 1) := by decide +kernel
theorem dX6_canBefriend_23 : decode cX6_canBefriend 23 = .ok (.getfield 19, 3) := by decide +kernel
theorem dX6_canBefriend_26 : decode cX6_canBefriend 26 = .ok (.iconst 4, 1) := by decide +kernel
theorem dX6_canBefriend_27 : decode cX6_canBefriend 27 = .ok (.iaload, 1) := by decide +kernel
theorem dX6_canBefriend_28 : decode cX6_canBefriend 28 = .ok (.if_icmp .gt 7, 3) := by decide +kernel
theorem dX6_canBefriend_31 : decode cX6_canBefriend 31 = .ok (.iconst 1, 1) := by decide +kernel
theorem dX6_canBefriend_32 : decode cX6_canBefriend 32 = .ok (.goto 4, 3) := by decide +kernel
theorem dX6_canBefriend_35 : decode cX6_canBefriend 35 = .ok (.iconst 0, 1) := by decide +kernel
theorem dX6_canBefriend_36 : decode cX6_canBefriend 36 = .ok (.ireturn, 1) := by decide +kernel
theorem dX6_befriends_0 : decode cX6_befriends 0 = .ok (.aload_n 0, 1) := by decide +kernel
theorem dX6_befriends_1 : decode cX6_befriends 1 = .ok (.getfield 19, 3) := by decide +kernel
theorem dX6_befriends_4 : decode cX6_befriends 4 = .ok (.iconst 2, 1) := by decide +kernel
theorem dX6_befriends_5 : decode cX6_befriends 5 = .ok (.dup2, 1) := by decide +kernel
theorem dX6_befriends_6 : decode cX6_befriends 6 = .ok (.iaload, 1) := by decide +kernel
theorem dX6_befriends_7 : decode cX6_befriends 7 = .ok (.iconst 1, 1) := by decide +kernel
theorem dX6_befriends_8 : decode cX6_befriends 8 = .ok (.iload_n 1, 1) := by decide +kernel
theorem dX6_befriends_9 : decode cX6_befriends 9 = .ok (.ishl, 1) := by decide +kernel
theorem dX6_befriends_10 : decode cX6_befriends 10 = .ok (.ior, 1) := by decide +kernel
theorem dX6_befriends_11 : decode cX6_befriends 11 = .ok (.iastore, 1) := by decide +kernel
theorem dX6_befriends_12 : decode cX6_befriends 12 = .ok (.aload_n 0, 1) := by decide +kernel
theorem dX6_befriends_13 : decode cX6_befriends 13 = .ok (.getfield 19, 3) := by decide +kernel
theorem dX6_befriends_16 : decode cX6_befriends 16 = .ok (.iconst 4, 1) := by decide +kernel
theorem dX6_befriends_17 : decode cX6_befriends 17 = .ok (.dup2, 1) := by decide +kernel
theorem dX6_befriends_18 : decode cX6_befriends 18 = .ok (.iaload, 1) := by decide +kernel
theorem dX6_befriends_19 : decode cX6_befriends 19 = .ok (.aload_n 0, 1) := by decide +kernel
theorem dX6_befriends_20 : decode cX6_befriends 20 = .ok (.getfield 13, 3) := by decide +kernel
theorem dX6_befriends_23 : decode cX6_befriends 23 = .ok (.bipush 44, 2) := by decide +kernel
theorem dX6_befriends_25 : decode cX6_befriends 25 = .ok (.iload_n 1, 1) := by decide +kernel
theorem dX6_befriends_26 : decode cX6_befriends 26 = .ok (.iadd, 1) := by decide +kernel
theorem dX6_befriends_27 : decode cX6_befriends 27 = .ok (.iaload, 1) := by decide +kernel
theorem dX6_befriends_28 : decode cX6_befriends 28 = .ok (.isub, 1) := by decide +kernel
theorem dX6_befriends_29 : decode cX6_befriends 29 = .ok (.iastore, 1) := by decide +kernel
theorem dX6_befriends_30 : decode cX6_befriends 30 = .ok (.return_, 1) := by decide +kernel
set_option maxRecDepth 20000 in
theorem ggX6_befriend_X6_isHelper : GoodIn wsX6_befriend wsX6_isHelper := goodIn_r _ [6, 7, 8, 9, 5, 10, 25, 26, 27, 28, 29, 30, 31, 32, 33, 34, 35, 36, 37, 38, 39, 40, 41, 42, 43, 44, 45, 46, 47] (by decide +kernel) (by decide +kernel)
set_option maxRecDepth 20000 in
theorem gX6_befriend_X6_isHelper : GoodIn wsX6_befriend (wsV RX6 128 RX6 yX6_isHelper wsX6_isHelper) := goodIn_app (goodIn_of _ (by decide +kernel)) ggX6_befriend_X6_isHelper
set_option maxRecDepth 20000 in
theorem ggX6_befriend_X6_canBefriend : GoodIn wsX6_befriend wsX6_canBefriend := goodIn_r _ [14, 1, 7, 25, 26, 27, 28, 29, 30, 31, 32, 33, 34, 35, 36, 37, 38, 39, 40, 41, 42, 43, 44, 45, 46, 47] (by decide +kernel) (by decide +kernel)
set_option maxRecDepth 20000 in
theorem gX6_befriend_X6_canBefriend : GoodIn wsX6_befriend (wsV RX6 131 RX6 yX6_canBefriend wsX6_canBefriend) := goodIn_app (goodIn_of _ (by decide +kernel)) ggX6_befriend_X6_canBefriend
set_option maxRecDepth 20000 in
theorem ggX6_befriend_X6_keeps : GoodIn wsX6_befriend wsX6_keeps := goodIn_r _ [18, 19, 20, 1, 25, 26, 27, 28, 29, 30, 31, 32, 33, 34, 35, 36, 37, 38, 39, 40, 41, 42, 43, 44, 45, 46, 47] (by decide +kernel) (by decide +kernel)
set_option maxRecDepth 20000 in
theorem gX6_befriend_X6_keeps : GoodIn wsX6_befriend (wsV RX6 134 RX6 yX6_keeps wsX6_keeps) := goodIn_app (goodIn_of _ (by decide +kernel)) ggX6_befriend_X6_keeps
set_option maxRecDepth 20000 in
theorem ggX6_befriend_X6_befriends : GoodIn wsX6_befriend wsX6_befriends := goodIn_r _ [24, 1, 7, 25, 26, 27, 28, 29, 30, 31, 32, 33, 34, 35, 36, 37, 38, 39, 40, 41, 42, 43, 44, 45, 46, 47] (by decide +kernel) (by decide +kernel)
set_option maxRecDepth 20000 in
theorem gX6_befriend_X6_befriends : GoodIn wsX6_befriend (wsV RX6 137 RX6 yX6_befriends wsX6_befriends) := goodIn_app (goodIn_of _ (by decide +kernel)) ggX6_befriend_X6_befriends
theorem dX6_befriend_0 : decode cX6_befriend 0 = .ok (.aload_n 0, 1) := by decide +kernel
theorem dX6_befriend_1 : decode cX6_befriend 1 = .ok (.iload_n 1, 1) := by decide +kernel
theorem dX6_befriend_2 : decode cX6_befriend 2 = .ok (.invokevirtual 128, 3) := by decide +kernel
theorem dX6_befriend_5 : decode cX6_befriend 5 = .ok (.ifCond .ne 5, 3) := by decide +kernel
theorem dX6_befriend_8 : decode cX6_befriend 8 = .ok (.iconst (-1), 1) := by decide +kernel
theorem dX6_befriend_9 : decode cX6_befriend 9 = .ok (.ireturn, 1) := by decide +kernel
theorem dX6_befriend_10 : decode cX6_befriend 10 = .ok (.aload_n 0, 1) := by decide +kernel
theorem dX6_befriend_11 : decode cX6_befriend 11 = .ok (.iload_n 1, 1) := by decide +kernel
theorem dX6_befriend_12 : decode cX6_befriend 12 = .ok (.invokevirtual 131, 3) := by decide +kernel
theorem dX6_befriend_15 : decode cX6_befriend 15 = .ok (.ifCond .ne 6, 3) := by decide +kernel
theorem dX6_befriend_18 : decode cX6_befriend 18 = .ok (.bipush (-2), 2) := by decide +kernel
theorem dX6_befriend_20 : decode cX6_befriend 20 = .ok (.ireturn, 1) := by decide +kernel
theorem dX6_befriend_21 : decode cX6_befriend 21 = .ok (.aload_n 0, 1) := by decide +kernel
theorem dX6_befriend_22 : decode cX6_befriend 22 = .ok (.invokevirtual 134, 3) := by decide +kernel
theorem dX6_befriend_25 : decode cX6_befriend 25 = .ok (.aload_n 0, 1) := by decide +kernel
theorem dX6_befriend_26 : decode cX6_befriend 26 = .ok (.iload_n 1, 1) := by decide +kernel
theorem dX6_befriend_27 : decode cX6_befriend 27 = .ok (.invokevirtual 137, 3) := by decide +kernel
theorem dX6_befriend_30 : decode cX6_befriend 30 = .ok (.aload_n 0, 1) := by decide +kernel
theorem dX6_befriend_31 : decode cX6_befriend 31 = .ok (.getfield 19, 3) := by decide +kernel
theorem dX6_befriend_34 : decode cX6_befriend 34 = .ok (.iconst 4, 1) := by decide +kernel
theorem dX6_befriend_35 : decode cX6_befriend 35 = .ok (.iaload, 1) := by decide +kernel
theorem dX6_befriend_36 : decode cX6_befriend 36 = .ok (.ireturn, 1) := by decide +kernel
theorem dX6_daysOf_0 : decode cX6_daysOf 0 = .ok (.aload_n 0, 1) := by decide +kernel
theorem dX6_daysOf_1 : decode cX6_daysOf 1 = .ok (.getfield 13, 3) := by decide +kernel
theorem dX6_daysOf_4 : decode cX6_daysOf 4 = .ok (.iconst 5, 1) := by decide +kernel
theorem dX6_daysOf_5 : decode cX6_daysOf 5 = .ok (.iload_n 1, 1) := by decide +kernel
theorem dX6_daysOf_6 : decode cX6_daysOf 6 = .ok (.iadd, 1) := by decide +kernel
theorem dX6_daysOf_7 : decode cX6_daysOf 7 = .ok (.iaload, 1) := by decide +kernel
theorem dX6_daysOf_8 : decode cX6_daysOf 8 = .ok (.iconst 2, 1) := by decide +kernel
theorem dX6_daysOf_9 : decode cX6_daysOf 9 = .ok (.if_icmp .ne 7, 3) := by decide +kernel
theorem dX6_daysOf_12 : decode cX6_daysOf 12 = .ok (.iconst 0, 1) := by decide +kernel
theorem dX6_daysOf_13 : decode cX6_daysOf 13 = .ok (.goto 12, 3) := by decide +kernel
theorem dX6_daysOf_16 : decode cX6_daysOf 16 = .ok (.aload_n 0, 1) := by decide +kernel
theorem dX6_daysOf_17 : decode cX6_daysOf 17 = .ok (.getfield 13, 3) := by decide +kernel
theorem dX6_daysOf_20 : decode cX6_daysOf 20 = .ok (.bipush 13, 2) := by decide +kernel
theorem dX6_daysOf_22 : decode cX6_daysOf 22 = .ok (.iload_n 1, 1) := by decide +kernel
theorem dX6_daysOf_23 : decode cX6_daysOf 23 = .ok (.iadd, 1) := by decide +kernel
theorem dX6_daysOf_24 : decode cX6_daysOf 24 = .ok (.iaload, 1) := by decide +kernel
theorem dX6_daysOf_25 : decode cX6_daysOf 25 = .ok (.ireturn, 1) := by decide +kernel
set_option maxRecDepth 20000 in
theorem ggX6_rides_X6_helpNow : GoodIn wsX6_rides wsX6_helpNow := goodIn_r _ [7, 1, 8, 9, 10, 6, 11, 2, 12, 13, 14, 15, 16, 17, 18, 19, 20, 21, 22, 23, 28, 29, 30, 31, 32, 33, 34, 35, 36, 37, 38, 39, 40, 41, 42, 43, 44, 45, 46, 47, 48, 49, 50] (by decide +kernel) (by decide +kernel)
set_option maxRecDepth 20000 in
theorem gX6_rides_X6_helpNow : GoodIn wsX6_rides (wsV RX6 125 RX6 yX6_helpNow wsX6_helpNow) := goodIn_app (goodIn_of _ (by decide +kernel)) ggX6_rides_X6_helpNow
set_option maxRecDepth 20000 in
theorem ggX6_rides_X6_daysOf : GoodIn wsX6_rides wsX6_daysOf := goodIn_r _ [27, 2, 28, 29, 30, 31, 32, 33, 34, 35, 36, 37, 38, 39, 40, 41, 42, 43, 44, 45, 46, 47, 48, 49, 50] (by decide +kernel) (by decide +kernel)
set_option maxRecDepth 20000 in
theorem gX6_rides_X6_daysOf : GoodIn wsX6_rides (wsV RX6 141 RX6 yX6_daysOf wsX6_daysOf) := goodIn_app (goodIn_of _ (by decide +kernel)) ggX6_rides_X6_daysOf
theorem dX6_rides_0 : decode cX6_rides 0 = .ok (.aload_n 0, 1) := by decide +kernel
theorem dX6_rides_1 : decode cX6_rides 1 = .ok (.getfield 19, 3) := by decide +kernel
theorem dX6_rides_4 : decode cX6_rides 4 = .ok (.iconst 3, 1) := by decide +kernel
theorem dX6_rides_5 : decode cX6_rides 5 = .ok (.dup2, 1) := by decide +kernel
theorem dX6_rides_6 : decode cX6_rides 6 = .ok (.iaload, 1) := by decide +kernel
theorem dX6_rides_7 : decode cX6_rides 7 = .ok (.aload_n 0, 1) := by decide +kernel
theorem dX6_rides_8 : decode cX6_rides 8 = .ok (.iload_n 1, 1) := by decide +kernel
theorem dX6_rides_9 : decode cX6_rides 9 = .ok (.invokevirtual 125, 3) := by decide +kernel
theorem dX6_rides_12 : decode cX6_rides 12 = .ok (.ior, 1) := by decide +kernel
theorem dX6_rides_13 : decode cX6_rides 13 = .ok (.iastore, 1) := by decide +kernel
theorem dX6_rides_14 : decode cX6_rides 14 = .ok (.aload_n 0, 1) := by decide +kernel
theorem dX6_rides_15 : decode cX6_rides 15 = .ok (.getfield 19, 3) := by decide +kernel
theorem dX6_rides_18 : decode cX6_rides 18 = .ok (.iconst 5, 1) := by decide +kernel
theorem dX6_rides_19 : decode cX6_rides 19 = .ok (.dup2, 1) := by decide +kernel
theorem dX6_rides_20 : decode cX6_rides 20 = .ok (.iaload, 1) := by decide +kernel
theorem dX6_rides_21 : decode cX6_rides 21 = .ok (.aload_n 0, 1) := by decide +kernel
theorem dX6_rides_22 : decode cX6_rides 22 = .ok (.iload_n 1, 1) := by decide +kernel
theorem dX6_rides_23 : decode cX6_rides 23 = .ok (.invokevirtual 141, 3) := by decide +kernel
theorem dX6_rides_26 : decode cX6_rides 26 = .ok (.iadd, 1) := by decide +kernel
theorem dX6_rides_27 : decode cX6_rides 27 = .ok (.iastore, 1) := by decide +kernel
theorem dX6_rides_28 : decode cX6_rides 28 = .ok (.aload_n 0, 1) := by decide +kernel
theorem dX6_rides_29 : decode cX6_rides 29 = .ok (.getfield 19, 3) := by decide +kernel
theorem dX6_rides_32 : decode cX6_rides 32 = .ok (.iconst 1, 1) := by decide +kernel
theorem dX6_rides_33 : decode cX6_rides 33 = .ok (.dup2, 1) := by decide +kernel
theorem dX6_rides_34 : decode cX6_rides 34 = .ok (.iaload, 1) := by decide +kernel
theorem dX6_rides_35 : decode cX6_rides 35 = .ok (.iconst 1, 1) := by decide +kernel
theorem dX6_rides_36 : decode cX6_rides 36 = .ok (.iload_n 1, 1) := by decide +kernel
theorem dX6_rides_37 : decode cX6_rides 37 = .ok (.ishl, 1) := by decide +kernel
theorem dX6_rides_38 : decode cX6_rides 38 = .ok (.ior, 1) := by decide +kernel
theorem dX6_rides_39 : decode cX6_rides 39 = .ok (.iastore, 1) := by decide +kernel
theorem dX6_rides_40 : decode cX6_rides 40 = .ok (.aload_n 0, 1) := by decide +kernel
theorem dX6_rides_41 : decode cX6_rides 41 = .ok (.getfield 19, 3) := by decide +kernel
theorem dX6_rides_44 : decode cX6_rides 44 = .ok (.iconst 0, 1) := by decide +kernel
theorem dX6_rides_45 : decode cX6_rides 45 = .ok (.dup2, 1) := by decide +kernel
theorem dX6_rides_46 : decode cX6_rides 46 = .ok (.iaload, 1) := by decide +kernel
theorem dX6_rides_47 : decode cX6_rides 47 = .ok (.iconst 1, 1) := by decide +kernel
theorem dX6_rides_48 : decode cX6_rides 48 = .ok (.aload_n 0, 1) := by decide +kernel
theorem dX6_rides_49 : decode cX6_rides 49 = .ok (.getfield 13, 3) := by decide +kernel
theorem dX6_rides_52 : decode cX6_rides 52 = .ok (.bipush 29, 2) := by decide +kernel
theorem dX6_rides_54 : decode cX6_rides 54 = .ok (.iload_n 1, 1) := by decide +kernel
theorem dX6_rides_55 : decode cX6_rides 55 = .ok (.iadd, 1) := by decide +kernel
theorem dX6_rides_56 : decode cX6_rides 56 = .ok (.iaload, 1) := by decide +kernel
theorem dX6_rides_57 : decode cX6_rides 57 = .ok (.ishl, 1) := by decide +kernel
theorem dX6_rides_58 : decode cX6_rides 58 = .ok (.ior, 1) := by decide +kernel
theorem dX6_rides_59 : decode cX6_rides 59 = .ok (.iastore, 1) := by decide +kernel
theorem dX6_rides_60 : decode cX6_rides 60 = .ok (.return_, 1) := by decide +kernel
set_option maxRecDepth 20000 in
theorem ggX6_ride_X6_isTask : GoodIn wsX6_ride wsX6_isTask := goodIn_r _ [6, 7, 8, 9, 5, 10, 45, 46, 47, 48, 49, 50, 51, 52, 53, 54, 55, 56, 57, 58, 59, 60, 61, 62, 63, 64, 65, 66, 67] (by decide +kernel) (by decide +kernel)
set_option maxRecDepth 20000 in
theorem gX6_ride_X6_isTask : GoodIn wsX6_ride (wsV RX6 122 RX6 yX6_isTask wsX6_isTask) := goodIn_app (goodIn_of _ (by decide +kernel)) ggX6_ride_X6_isTask
set_option maxRecDepth 20000 in
theorem ggX6_ride_X6_helpNow : GoodIn wsX6_ride wsX6_helpNow := goodIn_r _ [14, 1, 15, 16, 17, 5, 18, 7, 19, 20, 21, 22, 23, 24, 25, 26, 27, 28, 29, 30, 45, 46, 47, 48, 49, 50, 51, 52, 53, 54, 55, 56, 57, 58, 59, 60, 61, 62, 63, 64, 65, 66, 67] (by decide +kernel) (by decide +kernel)
set_option maxRecDepth 20000 in
theorem gX6_ride_X6_helpNow : GoodIn wsX6_ride (wsV RX6 125 RX6 yX6_helpNow wsX6_helpNow) := goodIn_app (goodIn_of _ (by decide +kernel)) ggX6_ride_X6_helpNow
set_option maxRecDepth 20000 in
theorem ggX6_ride_X6_keeps : GoodIn wsX6_ride wsX6_keeps := goodIn_r _ [34, 35, 36, 1, 45, 46, 47, 48, 49, 50, 51, 52, 53, 54, 55, 56, 57, 58, 59, 60, 61, 62, 63, 64, 65, 66, 67] (by decide +kernel) (by decide +kernel)
set_option maxRecDepth 20000 in
theorem gX6_ride_X6_keeps : GoodIn wsX6_ride (wsV RX6 134 RX6 yX6_keeps wsX6_keeps) := goodIn_app (goodIn_of _ (by decide +kernel)) ggX6_ride_X6_keeps
set_option maxRecDepth 20000 in
theorem ggX6_ride_X6_rides : GoodIn wsX6_ride wsX6_rides := goodIn_r _ [40, 1, 7, 11, 12, 13, 5, 14, 15, 16, 17, 18, 19, 20, 21, 22, 23, 24, 25, 26, 27, 28, 29, 30, 41, 42, 43, 44, 45, 46, 47, 48, 49, 50, 51, 52, 53, 54, 55, 56, 57, 58, 59, 60, 61, 62, 63, 64, 65, 66, 67] (by decide +kernel) (by decide +kernel)
set_option maxRecDepth 20000 in
theorem gX6_ride_X6_rides : GoodIn wsX6_ride (wsV RX6 144 RX6 yX6_rides wsX6_rides) := goodIn_app (goodIn_of _ (by decide +kernel)) ggX6_ride_X6_rides
theorem dX6_ride_0 : decode cX6_ride 0 = .ok (.aload_n 0, 1) := by decide +kernel
theorem dX6_ride_1 : decode cX6_ride 1 = .ok (.iload_n 1, 1) := by decide +kernel
theorem dX6_ride_2 : decode cX6_ride 2 = .ok (.invokevirtual 122, 3) := by decide +kernel
theorem dX6_ride_5 : decode cX6_ride 5 = .ok (.ifCond .ne 5, 3) := by decide +kernel
theorem dX6_ride_8 : decode cX6_ride 8 = .ok (.iconst (-1), 1) := by decide +kernel
theorem dX6_ride_9 : decode cX6_ride 9 = .ok (.ireturn, 1) := by decide +kernel
theorem dX6_ride_10 : decode cX6_ride 10 = .ok (.aload_n 0, 1) := by decide +kernel
theorem dX6_ride_11 : decode cX6_ride 11 = .ok (.iload_n 1, 1) := by decide +kernel
theorem dX6_ride_12 : decode cX6_ride 12 = .ok (.invokevirtual 125, 3) := by decide +kernel
theorem dX6_ride_15 : decode cX6_ride 15 = .ok (.ifCond .ge 6, 3) := by decide +kernel
theorem dX6_ride_18 : decode cX6_ride 18 = .ok (.bipush (-2), 2) := by decide +kernel
theorem dX6_ride_20 : decode cX6_ride 20 = .ok (.ireturn, 1) := by decide +kernel
theorem dX6_ride_21 : decode cX6_ride 21 = .ok (.aload_n 0, 1) := by decide +kernel
theorem dX6_ride_22 : decode cX6_ride 22 = .ok (.invokevirtual 134, 3) := by decide +kernel
theorem dX6_ride_25 : decode cX6_ride 25 = .ok (.aload_n 0, 1) := by decide +kernel
theorem dX6_ride_26 : decode cX6_ride 26 = .ok (.iload_n 1, 1) := by decide +kernel
theorem dX6_ride_27 : decode cX6_ride 27 = .ok (.invokevirtual 144, 3) := by decide +kernel
theorem dX6_ride_30 : decode cX6_ride 30 = .ok (.aload_n 0, 1) := by decide +kernel
theorem dX6_ride_31 : decode cX6_ride 31 = .ok (.getfield 19, 3) := by decide +kernel
theorem dX6_ride_34 : decode cX6_ride 34 = .ok (.iconst 5, 1) := by decide +kernel
theorem dX6_ride_35 : decode cX6_ride 35 = .ok (.iaload, 1) := by decide +kernel
theorem dX6_ride_36 : decode cX6_ride 36 = .ok (.ireturn, 1) := by decide +kernel
set_option maxRecDepth 20000 in
theorem ggX6_silent_X6_isLost : GoodIn wsX6_silent wsX6_isLost := goodIn_r _ [7, 2, 1, 8, 9, 10, 11, 12, 13, 14, 15, 16, 17, 18, 19, 20, 21, 22, 23, 24, 25, 26, 27, 28, 29, 30] (by decide +kernel) (by decide +kernel)
set_option maxRecDepth 20000 in
theorem gX6_silent_X6_isLost : GoodIn wsX6_silent (wsV RX6 112 RX6 yX6_isLost wsX6_isLost) := goodIn_app (goodIn_of _ (by decide +kernel)) ggX6_silent_X6_isLost
theorem dX6_silent_0 : decode cX6_silent 0 = .ok (.aload_n 0, 1) := by decide +kernel
theorem dX6_silent_1 : decode cX6_silent 1 = .ok (.invokevirtual 112, 3) := by decide +kernel
theorem dX6_silent_4 : decode cX6_silent 4 = .ok (.ifCond .eq 7, 3) := by decide +kernel
theorem dX6_silent_7 : decode cX6_silent 7 = .ok (.iconst 0, 1) := by decide +kernel
theorem dX6_silent_8 : decode cX6_silent 8 = .ok (.goto 31, 3) := by decide +kernel
theorem dX6_silent_11 : decode cX6_silent 11 = .ok (.iconst 1, 1) := by decide +kernel
theorem dX6_silent_12 : decode cX6_silent 12 = .ok (.aload_n 0, 1) := by decide +kernel
theorem dX6_silent_13 : decode cX6_silent 13 = .ok (.getfield 13, 3) := by decide +kernel
theorem dX6_silent_16 : decode cX6_silent 16 = .ok (.iconst 0, 1) := by decide +kernel
theorem dX6_silent_17 : decode cX6_silent 17 = .ok (.iaload, 1) := by decide +kernel
theorem dX6_silent_18 : decode cX6_silent 18 = .ok (.ishl, 1) := by decide +kernel
theorem dX6_silent_19 : decode cX6_silent 19 = .ok (.iconst 1, 1) := by decide +kernel
theorem dX6_silent_20 : decode cX6_silent 20 = .ok (.isub, 1) := by decide +kernel
theorem dX6_silent_21 : decode cX6_silent 21 = .ok (.aload_n 0, 1) := by decide +kernel
theorem dX6_silent_22 : decode cX6_silent 22 = .ok (.getfield 19, 3) := by decide +kernel
theorem dX6_silent_25 : decode cX6_silent 25 = .ok (.iconst 0, 1) := by decide +kernel
theorem dX6_silent_26 : decode cX6_silent 26 = .ok (.iaload, 1) := by decide +kernel
theorem dX6_silent_27 : decode cX6_silent 27 = .ok (.iconst (-1), 1) := by decide +kernel
theorem dX6_silent_28 : decode cX6_silent 28 = .ok (.ixor, 1) := by decide +kernel
theorem dX6_silent_29 : decode cX6_silent 29 = .ok (.iand, 1) := by decide +kernel
theorem dX6_silent_30 : decode cX6_silent 30 = .ok (.aload_n 0, 1) := by decide +kernel
theorem dX6_silent_31 : decode cX6_silent 31 = .ok (.getfield 19, 3) := by decide +kernel
theorem dX6_silent_34 : decode cX6_silent 34 = .ok (.iconst 1, 1) := by decide +kernel
theorem dX6_silent_35 : decode cX6_silent 35 = .ok (.iaload, 1) := by decide +kernel
theorem dX6_silent_36 : decode cX6_silent 36 = .ok (.iconst (-1), 1) := by decide +kernel
theorem dX6_silent_37 : decode cX6_silent 37 = .ok (.ixor, 1) := by decide +kernel
theorem dX6_silent_38 : decode cX6_silent 38 = .ok (.iand, 1) := by decide +kernel
theorem dX6_silent_39 : decode cX6_silent 39 = .ok (.ireturn, 1) := by decide +kernel
set_option maxRecDepth 20000 in
theorem ggX6_suggest_X6_isTask : GoodIn wsX6_suggest wsX6_isTask := goodIn_r _ [6, 7, 8, 9, 5, 10, 32, 33, 34, 35, 36, 37, 38, 39, 40, 41, 42, 43, 44, 45, 46, 47, 48, 49, 50, 51, 52, 53, 54] (by decide +kernel) (by decide +kernel)
set_option maxRecDepth 20000 in
theorem gX6_suggest_X6_isTask : GoodIn wsX6_suggest (wsV RX6 122 RX6 yX6_isTask wsX6_isTask) := goodIn_app (goodIn_of _ (by decide +kernel)) ggX6_suggest_X6_isTask
set_option maxRecDepth 20000 in
theorem ggX6_suggest_X6_silent : GoodIn wsX6_suggest wsX6_silent := goodIn_r _ [14, 7, 1, 15, 16, 17, 5, 18, 32, 33, 34, 35, 36, 37, 38, 39, 40, 41, 42, 43, 44, 45, 46, 47, 48, 49, 50, 51, 52, 53, 54] (by decide +kernel) (by decide +kernel)
set_option maxRecDepth 20000 in
theorem gX6_suggest_X6_silent : GoodIn wsX6_suggest (wsV RX6 147 RX6 yX6_silent wsX6_silent) := goodIn_app (goodIn_of _ (by decide +kernel)) ggX6_suggest_X6_silent
set_option maxRecDepth 20000 in
theorem ggX6_suggest_X6_keeps : GoodIn wsX6_suggest wsX6_keeps := goodIn_r _ [22, 23, 24, 1, 32, 33, 34, 35, 36, 37, 38, 39, 40, 41, 42, 43, 44, 45, 46, 47, 48, 49, 50, 51, 52, 53, 54] (by decide +kernel) (by decide +kernel)
set_option maxRecDepth 20000 in
theorem gX6_suggest_X6_keeps : GoodIn wsX6_suggest (wsV RX6 134 RX6 yX6_keeps wsX6_keeps) := goodIn_app (goodIn_of _ (by decide +kernel)) ggX6_suggest_X6_keeps
set_option maxRecDepth 20000 in
theorem ggX6_suggest_X6_open : GoodIn wsX6_suggest wsX6_open := goodIn_r _ [28, 1, 32, 33, 34, 35, 36, 37, 38, 39, 40, 41, 42, 43, 44, 45, 46, 47, 48, 49, 50, 51, 52, 53, 54] (by decide +kernel) (by decide +kernel)
set_option maxRecDepth 20000 in
theorem gX6_suggest_X6_open : GoodIn wsX6_suggest (wsV RX6 116 RX6 yX6_open wsX6_open) := goodIn_app (goodIn_of _ (by decide +kernel)) ggX6_suggest_X6_open
set_option maxRecDepth 20000 in
theorem ggX6_suggest_X6_ones : GoodIn wsX6_suggest wsX6_ones := goodIn_r _ [31] (by decide +kernel) (by decide +kernel)
set_option maxRecDepth 20000 in
theorem gX6_suggest_X6_ones : GoodIn wsX6_suggest (va_wsS RX6 150 yX6_ones wsX6_ones) := goodIn_app (goodIn_of _ (by decide +kernel)) ggX6_suggest_X6_ones
theorem dX6_suggest_0 : decode cX6_suggest 0 = .ok (.aload_n 0, 1) := by decide +kernel
theorem dX6_suggest_1 : decode cX6_suggest 1 = .ok (.iload_n 1, 1) := by decide +kernel
theorem dX6_suggest_2 : decode cX6_suggest 2 = .ok (.invokevirtual 122, 3) := by decide +kernel
theorem dX6_suggest_5 : decode cX6_suggest 5 = .ok (.ifCond .ne 5, 3) := by decide +kernel
theorem dX6_suggest_8 : decode cX6_suggest 8 = .ok (.iconst (-1), 1) := by decide +kernel
theorem dX6_suggest_9 : decode cX6_suggest 9 = .ok (.ireturn, 1) := by decide +kernel
theorem dX6_suggest_10 : decode cX6_suggest 10 = .ok (.aload_n 0, 1) := by decide +kernel
theorem dX6_suggest_11 : decode cX6_suggest 11 = .ok (.invokevirtual 147, 3) := by decide +kernel
theorem dX6_suggest_14 : decode cX6_suggest 14 = .ok (.iload_n 1, 1) := by decide +kernel
theorem dX6_suggest_15 : decode cX6_suggest 15 = .ok (.ishr, 1) := by decide +kernel
theorem dX6_suggest_16 : decode cX6_suggest 16 = .ok (.iconst 1, 1) := by decide +kernel
theorem dX6_suggest_17 : decode cX6_suggest 17 = .ok (.iand, 1) := by decide +kernel
theorem dX6_suggest_18 : decode cX6_suggest 18 = .ok (.ifCond .ne 6, 3) := by decide +kernel
theorem dX6_suggest_21 : decode cX6_suggest 21 = .ok (.bipush (-2), 2) := by decide +kernel
theorem dX6_suggest_23 : decode cX6_suggest 23 = .ok (.ireturn, 1) := by decide +kernel
theorem dX6_suggest_24 : decode cX6_suggest 24 = .ok (.aload_n 0, 1) := by decide +kernel
theorem dX6_suggest_25 : decode cX6_suggest 25 = .ok (.invokevirtual 134, 3) := by decide +kernel
theorem dX6_suggest_28 : decode cX6_suggest 28 = .ok (.aload_n 0, 1) := by decide +kernel
theorem dX6_suggest_29 : decode cX6_suggest 29 = .ok (.getfield 19, 3) := by decide +kernel
theorem dX6_suggest_32 : decode cX6_suggest 32 = .ok (.iconst 0, 1) := by decide +kernel
theorem dX6_suggest_33 : decode cX6_suggest 33 = .ok (.dup2, 1) := by decide +kernel
theorem dX6_suggest_34 : decode cX6_suggest 34 = .ok (.iaload, 1) := by decide +kernel
theorem dX6_suggest_35 : decode cX6_suggest 35 = .ok (.iconst 1, 1) := by decide +kernel
theorem dX6_suggest_36 : decode cX6_suggest 36 = .ok (.iload_n 1, 1) := by decide +kernel
theorem dX6_suggest_37 : decode cX6_suggest 37 = .ok (.ishl, 1) := by decide +kernel
theorem dX6_suggest_38 : decode cX6_suggest 38 = .ok (.ior, 1) := by decide +kernel
theorem dX6_suggest_39 : decode cX6_suggest 39 = .ok (.iastore, 1) := by decide +kernel
theorem dX6_suggest_40 : decode cX6_suggest 40 = .ok (.aload_n 0, 1) := by decide +kernel
theorem dX6_suggest_41 : decode cX6_suggest 41 = .ok (.invokevirtual 116, 3) := by decide +kernel
theorem dX6_suggest_44 : decode cX6_suggest 44 = .ok (.invokestatic 150, 3) := by decide +kernel
theorem dX6_suggest_47 : decode cX6_suggest 47 = .ok (.ireturn, 1) := by decide +kernel
set_option maxRecDepth 20000 in
theorem ggX6_handUp_X6_isTask : GoodIn wsX6_handUp wsX6_isTask := goodIn_r _ [7, 2, 8, 9, 6, 10, 25, 26, 27, 28, 29, 30, 31, 32, 33, 34, 35, 36, 37, 38, 39, 40, 41, 42, 43, 44, 45, 46, 47] (by decide +kernel) (by decide +kernel)
set_option maxRecDepth 20000 in
theorem gX6_handUp_X6_isTask : GoodIn wsX6_handUp (wsV RX6 122 RX6 yX6_isTask wsX6_isTask) := goodIn_app (goodIn_of _ (by decide +kernel)) ggX6_handUp_X6_isTask
set_option maxRecDepth 20000 in
theorem ggX6_handUp_X6_isLost : GoodIn wsX6_handUp wsX6_isLost := goodIn_r _ [14, 1, 2, 25, 26, 27, 28, 29, 30, 31, 32, 33, 34, 35, 36, 37, 38, 39, 40, 41, 42, 43, 44, 45, 46, 47] (by decide +kernel) (by decide +kernel)
set_option maxRecDepth 20000 in
theorem gX6_handUp_X6_isLost : GoodIn wsX6_handUp (wsV RX6 112 RX6 yX6_isLost wsX6_isLost) := goodIn_app (goodIn_of _ (by decide +kernel)) ggX6_handUp_X6_isLost
set_option maxRecDepth 20000 in
theorem ggX6_handUp_X6_open : GoodIn wsX6_handUp wsX6_open := goodIn_r _ [18, 1, 25, 26, 27, 28, 29, 30, 31, 32, 33, 34, 35, 36, 37, 38, 39, 40, 41, 42, 43, 44, 45, 46, 47] (by decide +kernel) (by decide +kernel)
set_option maxRecDepth 20000 in
theorem gX6_handUp_X6_open : GoodIn wsX6_handUp (wsV RX6 116 RX6 yX6_open wsX6_open) := goodIn_app (goodIn_of _ (by decide +kernel)) ggX6_handUp_X6_open
set_option maxRecDepth 20000 in
theorem ggX6_handUp_X6_keeps : GoodIn wsX6_handUp wsX6_keeps := goodIn_r _ [22, 23, 24, 1, 25, 26, 27, 28, 29, 30, 31, 32, 33, 34, 35, 36, 37, 38, 39, 40, 41, 42, 43, 44, 45, 46, 47] (by decide +kernel) (by decide +kernel)
set_option maxRecDepth 20000 in
theorem gX6_handUp_X6_keeps : GoodIn wsX6_handUp (wsV RX6 134 RX6 yX6_keeps wsX6_keeps) := goodIn_app (goodIn_of _ (by decide +kernel)) ggX6_handUp_X6_keeps
theorem dX6_handUp_0 : decode cX6_handUp 0 = .ok (.aload_n 0, 1) := by decide +kernel
theorem dX6_handUp_1 : decode cX6_handUp 1 = .ok (.iload_n 1, 1) := by decide +kernel
theorem dX6_handUp_2 : decode cX6_handUp 2 = .ok (.invokevirtual 122, 3) := by decide +kernel
theorem dX6_handUp_5 : decode cX6_handUp 5 = .ok (.ifCond .ne 5, 3) := by decide +kernel
theorem dX6_handUp_8 : decode cX6_handUp 8 = .ok (.iconst (-1), 1) := by decide +kernel
theorem dX6_handUp_9 : decode cX6_handUp 9 = .ok (.ireturn, 1) := by decide +kernel
theorem dX6_handUp_10 : decode cX6_handUp 10 = .ok (.aload_n 0, 1) := by decide +kernel
theorem dX6_handUp_11 : decode cX6_handUp 11 = .ok (.invokevirtual 112, 3) := by decide +kernel
theorem dX6_handUp_14 : decode cX6_handUp 14 = .ok (.ifCond .ne 14, 3) := by decide +kernel
theorem dX6_handUp_17 : decode cX6_handUp 17 = .ok (.aload_n 0, 1) := by decide +kernel
theorem dX6_handUp_18 : decode cX6_handUp 18 = .ok (.invokevirtual 116, 3) := by decide +kernel
theorem dX6_handUp_21 : decode cX6_handUp 21 = .ok (.iload_n 1, 1) := by decide +kernel
theorem dX6_handUp_22 : decode cX6_handUp 22 = .ok (.ishr, 1) := by decide +kernel
theorem dX6_handUp_23 : decode cX6_handUp 23 = .ok (.iconst 1, 1) := by decide +kernel
theorem dX6_handUp_24 : decode cX6_handUp 24 = .ok (.iand, 1) := by decide +kernel
theorem dX6_handUp_25 : decode cX6_handUp 25 = .ok (.ifCond .ne 6, 3) := by decide +kernel
theorem dX6_handUp_28 : decode cX6_handUp 28 = .ok (.bipush (-2), 2) := by decide +kernel
theorem dX6_handUp_30 : decode cX6_handUp 30 = .ok (.ireturn, 1) := by decide +kernel
theorem dX6_handUp_31 : decode cX6_handUp 31 = .ok (.aload_n 0, 1) := by decide +kernel
theorem dX6_handUp_32 : decode cX6_handUp 32 = .ok (.invokevirtual 134, 3) := by decide +kernel
theorem dX6_handUp_35 : decode cX6_handUp 35 = .ok (.aload_n 0, 1) := by decide +kernel
theorem dX6_handUp_36 : decode cX6_handUp 36 = .ok (.getfield 19, 3) := by decide +kernel
theorem dX6_handUp_39 : decode cX6_handUp 39 = .ok (.iconst 5, 1) := by decide +kernel
theorem dX6_handUp_40 : decode cX6_handUp 40 = .ok (.dup2, 1) := by decide +kernel
theorem dX6_handUp_41 : decode cX6_handUp 41 = .ok (.iaload, 1) := by decide +kernel
theorem dX6_handUp_42 : decode cX6_handUp 42 = .ok (.iconst 2, 1) := by decide +kernel
theorem dX6_handUp_43 : decode cX6_handUp 43 = .ok (.aload_n 0, 1) := by decide +kernel
theorem dX6_handUp_44 : decode cX6_handUp 44 = .ok (.getfield 13, 3) := by decide +kernel
theorem dX6_handUp_47 : decode cX6_handUp 47 = .ok (.bipush 13, 2) := by decide +kernel
theorem dX6_handUp_49 : decode cX6_handUp 49 = .ok (.iload_n 1, 1) := by decide +kernel
theorem dX6_handUp_50 : decode cX6_handUp 50 = .ok (.iadd, 1) := by decide +kernel
theorem dX6_handUp_51 : decode cX6_handUp 51 = .ok (.iaload, 1) := by decide +kernel
theorem dX6_handUp_52 : decode cX6_handUp 52 = .ok (.imul, 1) := by decide +kernel
theorem dX6_handUp_53 : decode cX6_handUp 53 = .ok (.iconst 1, 1) := by decide +kernel
theorem dX6_handUp_54 : decode cX6_handUp 54 = .ok (.iadd, 1) := by decide +kernel
theorem dX6_handUp_55 : decode cX6_handUp 55 = .ok (.iadd, 1) := by decide +kernel
theorem dX6_handUp_56 : decode cX6_handUp 56 = .ok (.iastore, 1) := by decide +kernel
theorem dX6_handUp_57 : decode cX6_handUp 57 = .ok (.aload_n 0, 1) := by decide +kernel
theorem dX6_handUp_58 : decode cX6_handUp 58 = .ok (.getfield 19, 3) := by decide +kernel
theorem dX6_handUp_61 : decode cX6_handUp 61 = .ok (.iconst 1, 1) := by decide +kernel
theorem dX6_handUp_62 : decode cX6_handUp 62 = .ok (.dup2, 1) := by decide +kernel
theorem dX6_handUp_63 : decode cX6_handUp 63 = .ok (.iaload, 1) := by decide +kernel
theorem dX6_handUp_64 : decode cX6_handUp 64 = .ok (.iconst 1, 1) := by decide +kernel
theorem dX6_handUp_65 : decode cX6_handUp 65 = .ok (.iload_n 1, 1) := by decide +kernel
theorem dX6_handUp_66 : decode cX6_handUp 66 = .ok (.ishl, 1) := by decide +kernel
theorem dX6_handUp_67 : decode cX6_handUp 67 = .ok (.ior, 1) := by decide +kernel
theorem dX6_handUp_68 : decode cX6_handUp 68 = .ok (.iastore, 1) := by decide +kernel
theorem dX6_handUp_69 : decode cX6_handUp 69 = .ok (.aload_n 0, 1) := by decide +kernel
theorem dX6_handUp_70 : decode cX6_handUp 70 = .ok (.getfield 19, 3) := by decide +kernel
theorem dX6_handUp_73 : decode cX6_handUp 73 = .ok (.iconst 5, 1) := by decide +kernel
theorem dX6_handUp_74 : decode cX6_handUp 74 = .ok (.iaload, 1) := by decide +kernel
theorem dX6_handUp_75 : decode cX6_handUp 75 = .ok (.ireturn, 1) := by decide +kernel
theorem dX6_undo_0 : decode cX6_undo 0 = .ok (.aload_n 0, 1) := by decide +kernel
theorem dX6_undo_1 : decode cX6_undo 1 = .ok (.getfield 99, 3) := by decide +kernel
theorem dX6_undo_4 : decode cX6_undo 4 = .ok (.ifCond .ne 6, 3) := by decide +kernel
theorem dX6_undo_7 : decode cX6_undo 7 = .ok (.bipush (-2), 2) := by decide +kernel
theorem dX6_undo_9 : decode cX6_undo 9 = .ok (.ireturn, 1) := by decide +kernel
theorem dX6_undo_10 : decode cX6_undo 10 = .ok (.aload_n 0, 1) := by decide +kernel
theorem dX6_undo_11 : decode cX6_undo 11 = .ok (.dup, 1) := by decide +kernel
theorem dX6_undo_12 : decode cX6_undo 12 = .ok (.getfield 99, 3) := by decide +kernel
theorem dX6_undo_15 : decode cX6_undo 15 = .ok (.iconst 1, 1) := by decide +kernel
theorem dX6_undo_16 : decode cX6_undo 16 = .ok (.isub, 1) := by decide +kernel
theorem dX6_undo_17 : decode cX6_undo 17 = .ok (.putfield 99, 3) := by decide +kernel
theorem dX6_undo_20 : decode cX6_undo 20 = .ok (.iconst 0, 1) := by decide +kernel
theorem dX6_undo_21 : decode cX6_undo 21 = .ok (.istore_n 1, 1) := by decide +kernel
theorem dX6_undo_22 : decode cX6_undo 22 = .ok (.iload_n 1, 1) := by decide +kernel
theorem dX6_undo_23 : decode cX6_undo 23 = .ok (.bipush 6, 2) := by decide +kernel
theorem dX6_undo_25 : decode cX6_undo 25 = .ok (.if_icmp .ge 29, 3) := by decide +kernel
theorem dX6_undo_28 : decode cX6_undo 28 = .ok (.aload_n 0, 1) := by decide +kernel
theorem dX6_undo_29 : decode cX6_undo 29 = .ok (.getfield 19, 3) := by decide +kernel
theorem dX6_undo_32 : decode cX6_undo 32 = .ok (.iload_n 1, 1) := by decide +kernel
theorem dX6_undo_33 : decode cX6_undo 33 = .ok (.aload_n 0, 1) := by decide +kernel
theorem dX6_undo_34 : decode cX6_undo 34 = .ok (.getfield 22, 3) := by decide +kernel
theorem dX6_undo_37 : decode cX6_undo 37 = .ok (.bipush 6, 2) := by decide +kernel
theorem dX6_undo_39 : decode cX6_undo 39 = .ok (.aload_n 0, 1) := by decide +kernel
theorem dX6_undo_40 : decode cX6_undo 40 = .ok (.getfield 99, 3) := by decide +kernel
theorem dX6_undo_43 : decode cX6_undo 43 = .ok (.imul, 1) := by decide +kernel
theorem dX6_undo_44 : decode cX6_undo 44 = .ok (.iload_n 1, 1) := by decide +kernel
theorem dX6_undo_45 : decode cX6_undo 45 = .ok (.iadd, 1) := by decide +kernel
theorem dX6_undo_46 : decode cX6_undo 46 = .ok (.iaload, 1) := by decide +kernel
theorem dX6_undo_47 : decode cX6_undo 47 = .ok (.iastore, 1) := by decide +kernel
theorem dX6_undo_48 : decode cX6_undo 48 = .ok (.iinc 1 1, 3) := by decide +kernel
theorem dX6_undo_51 : decode cX6_undo 51 = .ok (.goto (-29), 3) := by decide +kernel
theorem dX6_undo_54 : decode cX6_undo 54 = .ok (.aload_n 0, 1) := by decide +kernel
theorem dX6_undo_55 : decode cX6_undo 55 = .ok (.getfield 99, 3) := by decide +kernel
theorem dX6_undo_58 : decode cX6_undo 58 = .ok (.ireturn, 1) := by decide +kernel
set_option maxRecDepth 20000 in
theorem ggX6_comes_X6_open : GoodIn wsX6_comes wsX6_open := goodIn_r _ [7, 2, 8, 9, 10, 11, 12, 13, 14, 15, 16, 17, 18, 19, 20, 21, 22, 23, 24, 25, 26, 27, 28, 29, 30] (by decide +kernel) (by decide +kernel)
set_option maxRecDepth 20000 in
theorem gX6_comes_X6_open : GoodIn wsX6_comes (wsV RX6 116 RX6 yX6_open wsX6_open) := goodIn_app (goodIn_of _ (by decide +kernel)) ggX6_comes_X6_open
theorem dX6_comes_0 : decode cX6_comes 0 = .ok (.aload_n 0, 1) := by decide +kernel
theorem dX6_comes_1 : decode cX6_comes 1 = .ok (.invokevirtual 116, 3) := by decide +kernel
theorem dX6_comes_4 : decode cX6_comes 4 = .ok (.istore_n 1, 1) := by decide +kernel
theorem dX6_comes_5 : decode cX6_comes 5 = .ok (.iconst 0, 1) := by decide +kernel
theorem dX6_comes_6 : decode cX6_comes 6 = .ok (.istore_n 2, 1) := by decide +kernel
theorem dX6_comes_7 : decode cX6_comes 7 = .ok (.iload_n 2, 1) := by decide +kernel
theorem dX6_comes_8 : decode cX6_comes 8 = .ok (.bipush 8, 2) := by decide +kernel
theorem dX6_comes_10 : decode cX6_comes 10 = .ok (.if_icmp .ge 63, 3) := by decide +kernel
theorem dX6_comes_13 : decode cX6_comes 13 = .ok (.iconst 0, 1) := by decide +kernel
theorem dX6_comes_14 : decode cX6_comes 14 = .ok (.istore_n 3, 1) := by decide +kernel
theorem dX6_comes_15 : decode cX6_comes 15 = .ok (.iload_n 3, 1) := by decide +kernel
theorem dX6_comes_16 : decode cX6_comes 16 = .ok (.aload_n 0, 1) := by decide +kernel
theorem dX6_comes_17 : decode cX6_comes 17 = .ok (.getfield 13, 3) := by decide +kernel
theorem dX6_comes_20 : decode cX6_comes 20 = .ok (.iconst 0, 1) := by decide +kernel
theorem dX6_comes_21 : decode cX6_comes 21 = .ok (.iaload, 1) := by decide +kernel
theorem dX6_comes_22 : decode cX6_comes 22 = .ok (.if_icmp .ge 45, 3) := by decide +kernel
theorem dX6_comes_25 : decode cX6_comes 25 = .ok (.iload_n 1, 1) := by decide +kernel
theorem dX6_comes_26 : decode cX6_comes 26 = .ok (.iload_n 1, 1) := by decide +kernel
theorem dX6_comes_27 : decode cX6_comes 27 = .ok (.iload_n 3, 1) := by decide +kernel
theorem dX6_comes_28 : decode cX6_comes 28 = .ok (.ishr, 1) := by decide +kernel
theorem dX6_comes_29 : decode cX6_comes 29 = .ok (.iconst 1, 1) := by decide +kernel
theorem dX6_comes_30 : decode cX6_comes 30 = .ok (.iand, 1) := by decide +kernel
theorem dX6_comes_31 : decode cX6_comes 31 = .ok (.iconst 1, 1) := by decide +kernel
theorem dX6_comes_32 : decode cX6_comes 32 = .ok (.if_icmp .ne 26, 3) := by decide +kernel
theorem dX6_comes_35 : decode cX6_comes 35 = .ok (.iconst 1, 1) := by decide +kernel
theorem dX6_comes_36 : decode cX6_comes 36 = .ok (.aload_n 0, 1) := by decide +kernel
theorem dX6_comes_37 : decode cX6_comes 37 = .ok (.getfield 13, 3) := by decide +kernel
theorem dX6_comes_40 : decode cX6_comes 40 = .ok (.bipush 29, 2) := by decide +kernel
theorem dX6_comes_42 : decode cX6_comes 42 = .ok (.iload_n 3, 1) := by decide +kernel
theorem dX6_comes_43 : decode cX6_comes 43 = .ok (.iadd, 1) := by decide +kernel
theorem dX6_comes_44 : decode cX6_comes 44 = .ok (.iaload, 1) := by decide +kernel
theorem dX6_comes_45 : decode cX6_comes 45 = .ok (.ishl, 1) := by decide +kernel
theorem dX6_comes_46 : decode cX6_comes 46 = .ok (.aload_n 0, 1) := by decide +kernel
theorem dX6_comes_47 : decode cX6_comes 47 = .ok (.getfield 19, 3) := by decide +kernel
theorem dX6_comes_50 : decode cX6_comes 50 = .ok (.iconst 1, 1) := by decide +kernel
theorem dX6_comes_51 : decode cX6_comes 51 = .ok (.iaload, 1) := by decide +kernel
theorem dX6_comes_52 : decode cX6_comes 52 = .ok (.iconst (-1), 1) := by decide +kernel
theorem dX6_comes_53 : decode cX6_comes 53 = .ok (.ixor, 1) := by decide +kernel
theorem dX6_comes_54 : decode cX6_comes 54 = .ok (.iand, 1) := by decide +kernel
theorem dX6_comes_55 : decode cX6_comes 55 = .ok (.goto 4, 3) := by decide +kernel
theorem dX6_comes_58 : decode cX6_comes 58 = .ok (.iconst 0, 1) := by decide +kernel
theorem dX6_comes_59 : decode cX6_comes 59 = .ok (.ior, 1) := by decide +kernel
theorem dX6_comes_60 : decode cX6_comes 60 = .ok (.istore_n 1, 1) := by decide +kernel
theorem dX6_comes_61 : decode cX6_comes 61 = .ok (.iinc 3 1, 3) := by decide +kernel
theorem dX6_comes_64 : decode cX6_comes 64 = .ok (.goto (-49), 3) := by decide +kernel
theorem dX6_comes_67 : decode cX6_comes 67 = .ok (.iinc 2 1, 3) := by decide +kernel
theorem dX6_comes_70 : decode cX6_comes 70 = .ok (.goto (-63), 3) := by decide +kernel
theorem dX6_comes_73 : decode cX6_comes 73 = .ok (.iload_n 1, 1) := by decide +kernel
theorem dX6_comes_74 : decode cX6_comes 74 = .ok (.ireturn, 1) := by decide +kernel
set_option maxRecDepth 20000 in
theorem ggX6_mayCome_X6_comes : GoodIn wsX6_mayCome wsX6_comes := goodIn_r _ [5, 6, 7, 8, 9, 10, 4, 11, 12, 13, 14, 15, 16, 17, 18, 19, 20, 21, 22, 23, 24, 25, 26, 27, 28, 29, 30, 31, 32, 33, 34] (by decide +kernel) (by decide +kernel)
set_option maxRecDepth 20000 in
theorem gX6_mayCome_X6_comes : GoodIn wsX6_mayCome (wsV RX6 153 RX6 yX6_comes wsX6_comes) := goodIn_app (goodIn_of _ (by decide +kernel)) ggX6_mayCome_X6_comes
theorem dX6_mayCome_0 : decode cX6_mayCome 0 = .ok (.aload_n 0, 1) := by decide +kernel
theorem dX6_mayCome_1 : decode cX6_mayCome 1 = .ok (.invokevirtual 153, 3) := by decide +kernel
theorem dX6_mayCome_4 : decode cX6_mayCome 4 = .ok (.ireturn, 1) := by decide +kernel
theorem dX6_isSeen_0 : decode cX6_isSeen 0 = .ok (.iconst 1, 1) := by decide +kernel
theorem dX6_isSeen_1 : decode cX6_isSeen 1 = .ok (.istore_n 2, 1) := by decide +kernel
theorem dX6_isSeen_2 : decode cX6_isSeen 2 = .ok (.iconst 0, 1) := by decide +kernel
theorem dX6_isSeen_3 : decode cX6_isSeen 3 = .ok (.istore_n 3, 1) := by decide +kernel
theorem dX6_isSeen_4 : decode cX6_isSeen 4 = .ok (.iload_n 3, 1) := by decide +kernel
theorem dX6_isSeen_5 : decode cX6_isSeen 5 = .ok (.aload_n 0, 1) := by decide +kernel
theorem dX6_isSeen_6 : decode cX6_isSeen 6 = .ok (.getfield 105, 3) := by decide +kernel
theorem dX6_isSeen_9 : decode cX6_isSeen 9 = .ok (.if_icmp .ge 67, 3) := by decide +kernel
theorem dX6_isSeen_12 : decode cX6_isSeen 12 = .ok (.aload_n 0, 1) := by decide +kernel
theorem dX6_isSeen_13 : decode cX6_isSeen 13 = .ok (.getfield 28, 3) := by decide +kernel
theorem dX6_isSeen_16 : decode cX6_isSeen 16 = .ok (.iload_n 3, 1) := by decide +kernel
theorem dX6_isSeen_17 : decode cX6_isSeen 17 = .ok (.iaload, 1) := by decide +kernel
theorem dX6_isSeen_18 : decode cX6_isSeen 18 = .ok (.bipush 10, 2) := by decide +kernel
theorem dX6_isSeen_20 : decode cX6_isSeen 20 = .ok (.irem, 1) := by decide +kernel
theorem dX6_isSeen_21 : decode cX6_isSeen 21 = .ok (.iconst 1, 1) := by decide +kernel
theorem dX6_isSeen_22 : decode cX6_isSeen 22 = .ok (.isub, 1) := by decide +kernel
theorem dX6_isSeen_23 : decode cX6_isSeen 23 = .ok (.istore 4, 2) := by decide +kernel
theorem dX6_isSeen_25 : decode cX6_isSeen 25 = .ok (.iload_n 2, 1) := by decide +kernel
theorem dX6_isSeen_26 : decode cX6_isSeen 26 = .ok (.ifCond .eq 42, 3) := by decide +kernel
theorem dX6_isSeen_29 : decode cX6_isSeen 29 = .ok (.iload 4, 2) := by decide +kernel
theorem dX6_isSeen_31 : decode cX6_isSeen 31 = .ok (.iload_n 1, 1) := by decide +kernel
theorem dX6_isSeen_32 : decode cX6_isSeen 32 = .ok (.if_icmp .ge 36, 3) := by decide +kernel
theorem dX6_isSeen_35 : decode cX6_isSeen 35 = .ok (.aload_n 0, 1) := by decide +kernel
theorem dX6_isSeen_36 : decode cX6_isSeen 36 = .ok (.getfield 46, 3) := by decide +kernel
theorem dX6_isSeen_39 : decode cX6_isSeen 39 = .ok (.iload 4, 2) := by decide +kernel
theorem dX6_isSeen_41 : decode cX6_isSeen 41 = .ok (.iload_n 1, 1) := by decide +kernel
theorem dX6_isSeen_42 : decode cX6_isSeen 42 = .ok (.if_icmp .ge 8, 3) := by decide +kernel
theorem dX6_isSeen_45 : decode cX6_isSeen 45 = .ok (.iload 4, 2) := by decide +kernel
theorem dX6_isSeen_47 : decode cX6_isSeen 47 = .ok (.goto 4, 3) := by decide +kernel
theorem dX6_isSeen_50 : decode cX6_isSeen 50 = .ok (.iconst 0, 1) := by decide +kernel
theorem dX6_isSeen_51 : decode cX6_isSeen 51 = .ok (.iaload, 1) := by decide +kernel
theorem dX6_isSeen_52 : decode cX6_isSeen 52 = .ok (.aload_n 0, 1) := by decide +kernel
theorem dX6_isSeen_53 : decode cX6_isSeen 53 = .ok (.getfield 28, 3) := by decide +kernel
theorem dX6_isSeen_56 : decode cX6_isSeen 56 = .ok (.iload_n 3, 1) := by decide +kernel
theorem dX6_isSeen_57 : decode cX6_isSeen 57 = .ok (.iaload, 1) := by decide +kernel
theorem dX6_isSeen_58 : decode cX6_isSeen 58 = .ok (.bipush 10, 2) := by decide +kernel
theorem dX6_isSeen_60 : decode cX6_isSeen 60 = .ok (.idiv, 1) := by decide +kernel
theorem dX6_isSeen_61 : decode cX6_isSeen 61 = .ok (.if_icmp .ne 7, 3) := by decide +kernel
theorem dX6_isSeen_64 : decode cX6_isSeen 64 = .ok (.iconst 1, 1) := by decide +kernel
theorem dX6_isSeen_65 : decode cX6_isSeen 65 = .ok (.goto 4, 3) := by decide +kernel
theorem dX6_isSeen_68 : decode cX6_isSeen 68 = .ok (.iconst 0, 1) := by decide +kernel
theorem dX6_isSeen_69 : decode cX6_isSeen 69 = .ok (.istore_n 2, 1) := by decide +kernel
theorem dX6_isSeen_70 : decode cX6_isSeen 70 = .ok (.iinc 3 1, 3) := by decide +kernel
theorem dX6_isSeen_73 : decode cX6_isSeen 73 = .ok (.goto (-69), 3) := by decide +kernel
theorem dX6_isSeen_76 : decode cX6_isSeen 76 = .ok (.iload_n 2, 1) := by decide +kernel
theorem dX6_isSeen_77 : decode cX6_isSeen 77 = .ok (.ireturn, 1) := by decide +kernel
set_option maxRecDepth 20000 in
theorem ggX6_counts_X6_isSeen : GoodIn wsX6_counts wsX6_isSeen := goodIn_r _ [9, 10, 11, 4, 12, 13, 14, 15, 16, 17, 18, 19, 20, 21, 22, 23, 24, 25, 26, 27, 28, 29, 30, 31, 32, 33, 34] (by decide +kernel) (by decide +kernel)
set_option maxRecDepth 20000 in
theorem gX6_counts_X6_isSeen : GoodIn wsX6_counts (wsV RX6 156 RX6 yX6_isSeen wsX6_isSeen) := goodIn_app (goodIn_of _ (by decide +kernel)) ggX6_counts_X6_isSeen
theorem dX6_counts_0 : decode cX6_counts 0 = .ok (.iload_n 2, 1) := by decide +kernel
theorem dX6_counts_1 : decode cX6_counts 1 = .ok (.ifCond .eq 12, 3) := by decide +kernel
theorem dX6_counts_4 : decode cX6_counts 4 = .ok (.aload_n 0, 1) := by decide +kernel
theorem dX6_counts_5 : decode cX6_counts 5 = .ok (.iload_n 1, 1) := by decide +kernel
theorem dX6_counts_6 : decode cX6_counts 6 = .ok (.invokevirtual 156, 3) := by decide +kernel
theorem dX6_counts_9 : decode cX6_counts 9 = .ok (.ifCond .ne 4, 3) := by decide +kernel
theorem dX6_counts_12 : decode cX6_counts 12 = .ok (.return_, 1) := by decide +kernel
theorem dX6_counts_13 : decode cX6_counts 13 = .ok (.aload_n 0, 1) := by decide +kernel
theorem dX6_counts_14 : decode cX6_counts 14 = .ok (.getfield 159, 3) := by decide +kernel
theorem dX6_counts_17 : decode cX6_counts 17 = .ok (.ifCond .ne 33, 3) := by decide +kernel
theorem dX6_counts_20 : decode cX6_counts 20 = .ok (.aload_n 0, 1) := by decide +kernel
theorem dX6_counts_21 : decode cX6_counts 21 = .ok (.iload_n 1, 1) := by decide +kernel
theorem dX6_counts_22 : decode cX6_counts 22 = .ok (.putfield 162, 3) := by decide +kernel
theorem dX6_counts_25 : decode cX6_counts 25 = .ok (.iconst 0, 1) := by decide +kernel
theorem dX6_counts_26 : decode cX6_counts 26 = .ok (.istore_n 3, 1) := by decide +kernel
theorem dX6_counts_27 : decode cX6_counts 27 = .ok (.iload_n 3, 1) := by decide +kernel
theorem dX6_counts_28 : decode cX6_counts 28 = .ok (.iload_n 1, 1) := by decide +kernel
theorem dX6_counts_29 : decode cX6_counts 29 = .ok (.if_icmp .ge 21, 3) := by decide +kernel
theorem dX6_counts_32 : decode cX6_counts 32 = .ok (.aload_n 0, 1) := by decide +kernel
theorem dX6_counts_33 : decode cX6_counts 33 = .ok (.getfield 49, 3) := by decide +kernel
theorem dX6_counts_36 : decode cX6_counts 36 = .ok (.iload_n 3, 1) := by decide +kernel
theorem dX6_counts_37 : decode cX6_counts 37 = .ok (.aload_n 0, 1) := by decide +kernel
theorem dX6_counts_38 : decode cX6_counts 38 = .ok (.getfield 46, 3) := by decide +kernel
theorem dX6_counts_41 : decode cX6_counts 41 = .ok (.iload_n 3, 1) := by decide +kernel
theorem dX6_counts_42 : decode cX6_counts 42 = .ok (.iaload, 1) := by decide +kernel
theorem dX6_counts_43 : decode cX6_counts 43 = .ok (.iastore, 1) := by decide +kernel
theorem dX6_counts_44 : decode cX6_counts 44 = .ok (.iinc 3 1, 3) := by decide +kernel
theorem dX6_counts_47 : decode cX6_counts 47 = .ok (.goto (-20), 3) := by decide +kernel
theorem dX6_counts_50 : decode cX6_counts 50 = .ok (.aload_n 0, 1) := by decide +kernel
theorem dX6_counts_51 : decode cX6_counts 51 = .ok (.dup, 1) := by decide +kernel
theorem dX6_counts_52 : decode cX6_counts 52 = .ok (.getfield 159, 3) := by decide +kernel
theorem dX6_counts_55 : decode cX6_counts 55 = .ok (.iconst 1, 1) := by decide +kernel
theorem dX6_counts_56 : decode cX6_counts 56 = .ok (.iadd, 1) := by decide +kernel
theorem dX6_counts_57 : decode cX6_counts 57 = .ok (.putfield 159, 3) := by decide +kernel
theorem dX6_counts_60 : decode cX6_counts 60 = .ok (.return_, 1) := by decide +kernel
set_option maxRecDepth 20000 in
theorem ggX6_walks_X6_isLost : GoodIn wsX6_walks wsX6_isLost := goodIn_r _ [15, 4, 9, 43, 44, 45, 46, 47, 48, 49, 50, 51, 52, 53, 54, 55, 56, 57, 58, 59, 60, 61, 62, 63, 64, 65] (by decide +kernel) (by decide +kernel)
set_option maxRecDepth 20000 in
theorem gX6_walks_X6_isLost : GoodIn wsX6_walks (wsV RX6 112 RX6 yX6_isLost wsX6_isLost) := goodIn_app (goodIn_of _ (by decide +kernel)) ggX6_walks_X6_isLost
set_option maxRecDepth 20000 in
theorem ggX6_walks_X6_open : GoodIn wsX6_walks wsX6_open := goodIn_r _ [19, 4, 43, 44, 45, 46, 47, 48, 49, 50, 51, 52, 53, 54, 55, 56, 57, 58, 59, 60, 61, 62, 63, 64, 65] (by decide +kernel) (by decide +kernel)
set_option maxRecDepth 20000 in
theorem gX6_walks_X6_open : GoodIn wsX6_walks (wsV RX6 116 RX6 yX6_open wsX6_open) := goodIn_app (goodIn_of _ (by decide +kernel)) ggX6_walks_X6_open
set_option maxRecDepth 20000 in
theorem ggX6_walks_X6_counts : GoodIn wsX6_walks wsX6_counts := goodIn_r _ [23, 1, 2, 24, 10, 25, 26, 27, 14, 28, 29, 30, 43, 44, 45, 46, 47, 48, 49, 50, 51, 52, 53, 54, 55, 56, 57, 58, 59, 60, 61, 62, 63, 64, 65] (by decide +kernel) (by decide +kernel)
set_option maxRecDepth 20000 in
theorem gX6_walks_X6_counts : GoodIn wsX6_walks (wsV RX6 165 RX6 yX6_counts wsX6_counts) := goodIn_app (goodIn_of _ (by decide +kernel)) ggX6_walks_X6_counts
set_option maxRecDepth 20000 in
theorem ggX6_walks_X6_helpFor : GoodIn wsX6_walks wsX6_helpFor := goodIn_r _ [34, 9, 35, 36, 37, 14, 38, 43, 44, 45, 46, 47, 48, 49, 50, 51, 52, 53, 54, 55, 56, 57, 58, 59, 60, 61, 62, 63, 64, 65] (by decide +kernel) (by decide +kernel)
set_option maxRecDepth 20000 in
theorem gX6_walks_X6_helpFor : GoodIn wsX6_walks (wsV RX6 119 RX6 yX6_helpFor wsX6_helpFor) := goodIn_app (goodIn_of _ (by decide +kernel)) ggX6_walks_X6_helpFor
set_option maxRecDepth 20000 in
theorem ggX6_walks_X6_daysOf : GoodIn wsX6_walks wsX6_daysOf := goodIn_r _ [42, 9, 43, 44, 45, 46, 47, 48, 49, 50, 51, 52, 53, 54, 55, 56, 57, 58, 59, 60, 61, 62, 63, 64, 65] (by decide +kernel) (by decide +kernel)
set_option maxRecDepth 20000 in
theorem gX6_walks_X6_daysOf : GoodIn wsX6_walks (wsV RX6 141 RX6 yX6_daysOf wsX6_daysOf) := goodIn_app (goodIn_of _ (by decide +kernel)) ggX6_walks_X6_daysOf
theorem dX6_walks_0 : decode cX6_walks 0 = .ok (.aload_n 0, 1) := by decide +kernel
theorem dX6_walks_1 : decode cX6_walks 1 = .ok (.iconst 0, 1) := by decide +kernel
theorem dX6_walks_2 : decode cX6_walks 2 = .ok (.putfield 159, 3) := by decide +kernel
theorem dX6_walks_5 : decode cX6_walks 5 = .ok (.aload_n 0, 1) := by decide +kernel
theorem dX6_walks_6 : decode cX6_walks 6 = .ok (.iconst 0, 1) := by decide +kernel
theorem dX6_walks_7 : decode cX6_walks 7 = .ok (.putfield 162, 3) := by decide +kernel
theorem dX6_walks_10 : decode cX6_walks 10 = .ok (.iconst 0, 1) := by decide +kernel
theorem dX6_walks_11 : decode cX6_walks 11 = .ok (.istore_n 3, 1) := by decide +kernel
theorem dX6_walks_12 : decode cX6_walks 12 = .ok (.aload_n 0, 1) := by decide +kernel
theorem dX6_walks_13 : decode cX6_walks 13 = .ok (.getfield 31, 3) := by decide +kernel
theorem dX6_walks_16 : decode cX6_walks 16 = .ok (.iconst 0, 1) := by decide +kernel
theorem dX6_walks_17 : decode cX6_walks 17 = .ok (.aload_n 0, 1) := by decide +kernel
theorem dX6_walks_18 : decode cX6_walks 18 = .ok (.getfield 19, 3) := by decide +kernel
theorem dX6_walks_21 : decode cX6_walks 21 = .ok (.iconst 0, 1) := by decide +kernel
theorem dX6_walks_22 : decode cX6_walks 22 = .ok (.iaload, 1) := by decide +kernel
theorem dX6_walks_23 : decode cX6_walks 23 = .ok (.iastore, 1) := by decide +kernel
theorem dX6_walks_24 : decode cX6_walks 24 = .ok (.aload_n 0, 1) := by decide +kernel
theorem dX6_walks_25 : decode cX6_walks 25 = .ok (.getfield 34, 3) := by decide +kernel
theorem dX6_walks_28 : decode cX6_walks 28 = .ok (.iconst 0, 1) := by decide +kernel
theorem dX6_walks_29 : decode cX6_walks 29 = .ok (.aload_n 0, 1) := by decide +kernel
theorem dX6_walks_30 : decode cX6_walks 30 = .ok (.getfield 19, 3) := by decide +kernel
theorem dX6_walks_33 : decode cX6_walks 33 = .ok (.iconst 1, 1) := by decide +kernel
theorem dX6_walks_34 : decode cX6_walks 34 = .ok (.iaload, 1) := by decide +kernel
theorem dX6_walks_35 : decode cX6_walks 35 = .ok (.iastore, 1) := by decide +kernel
theorem dX6_walks_36 : decode cX6_walks 36 = .ok (.aload_n 0, 1) := by decide +kernel
theorem dX6_walks_37 : decode cX6_walks 37 = .ok (.getfield 37, 3) := by decide +kernel
theorem dX6_walks_40 : decode cX6_walks 40 = .ok (.iconst 0, 1) := by decide +kernel
theorem dX6_walks_41 : decode cX6_walks 41 = .ok (.aload_n 0, 1) := by decide +kernel
theorem dX6_walks_42 : decode cX6_walks 42 = .ok (.getfield 19, 3) := by decide +kernel
theorem dX6_walks_45 : decode cX6_walks 45 = .ok (.iconst 3, 1) := by decide +kernel
theorem dX6_walks_46 : decode cX6_walks 46 = .ok (.iaload, 1) := by decide +kernel
theorem dX6_walks_47 : decode cX6_walks 47 = .ok (.iastore, 1) := by decide +kernel
theorem dX6_walks_48 : decode cX6_walks 48 = .ok (.aload_n 0, 1) := by decide +kernel
theorem dX6_walks_49 : decode cX6_walks 49 = .ok (.getfield 40, 3) := by decide +kernel
theorem dX6_walks_52 : decode cX6_walks 52 = .ok (.iconst 0, 1) := by decide +kernel
theorem dX6_walks_53 : decode cX6_walks 53 = .ok (.aload_n 0, 1) := by decide +kernel
theorem dX6_walks_54 : decode cX6_walks 54 = .ok (.getfield 19, 3) := by decide +kernel
theorem dX6_walks_57 : decode cX6_walks 57 = .ok (.iconst 5, 1) := by decide +kernel
theorem dX6_walks_58 : decode cX6_walks 58 = .ok (.iaload, 1) := by decide +kernel
theorem dX6_walks_59 : decode cX6_walks 59 = .ok (.iastore, 1) := by decide +kernel
theorem dX6_walks_60 : decode cX6_walks 60 = .ok (.aload_n 0, 1) := by decide +kernel
theorem dX6_walks_61 : decode cX6_walks 61 = .ok (.getfield 43, 3) := by decide +kernel
theorem dX6_walks_64 : decode cX6_walks 64 = .ok (.iconst 0, 1) := by decide +kernel
theorem dX6_walks_65 : decode cX6_walks 65 = .ok (.iconst 0, 1) := by decide +kernel
theorem dX6_walks_66 : decode cX6_walks 66 = .ok (.iastore, 1) := by decide +kernel
theorem dX6_walks_67 : decode cX6_walks 67 = .ok (.aload_n 0, 1) := by decide +kernel
theorem dX6_walks_68 : decode cX6_walks 68 = .ok (.invokevirtual 112, 3) := by decide +kernel
theorem dX6_walks_71 : decode cX6_walks 71 = .ok (.ifCond .eq 4, 3) := by decide +kernel
theorem dX6_walks_74 : decode cX6_walks 74 = .ok (.return_, 1) := by decide +kernel
theorem dX6_walks_75 : decode cX6_walks 75 = .ok (.aload_n 0, 1) := by decide +kernel
theorem dX6_walks_76 : decode cX6_walks 76 = .ok (.invokevirtual 116, 3) := by decide +kernel
theorem dX6_walks_79 : decode cX6_walks 79 = .ok (.ifCond .ne 10, 3) := by decide +kernel
theorem dX6_walks_82 : decode cX6_walks 82 = .ok (.aload_n 0, 1) := by decide +kernel
theorem dX6_walks_83 : decode cX6_walks 83 = .ok (.iconst 0, 1) := by decide +kernel
theorem dX6_walks_84 : decode cX6_walks 84 = .ok (.iload_n 1, 1) := by decide +kernel
theorem dX6_walks_85 : decode cX6_walks 85 = .ok (.invokevirtual 165, 3) := by decide +kernel
theorem dX6_walks_88 : decode cX6_walks 88 = .ok (.return_, 1) := by decide +kernel
theorem dX6_walks_89 : decode cX6_walks 89 = .ok (.iload_n 3, 1) := by decide +kernel
theorem dX6_walks_90 : decode cX6_walks 90 = .ok (.ifCond .lt 252, 3) := by decide +kernel
theorem dX6_walks_93 : decode cX6_walks 93 = .ok (.aload_n 0, 1) := by decide +kernel
theorem dX6_walks_94 : decode cX6_walks 94 = .ok (.getfield 43, 3) := by decide +kernel
theorem dX6_walks_97 : decode cX6_walks 97 = .ok (.iload_n 3, 1) := by decide +kernel
theorem dX6_walks_98 : decode cX6_walks 98 = .ok (.iaload, 1) := by decide +kernel
theorem dX6_walks_99 : decode cX6_walks 99 = .ok (.istore 4, 2) := by decide +kernel
theorem dX6_walks_101 : decode cX6_walks 101 = .ok (.aload_n 0, 1) := by decide +kernel
theorem dX6_walks_102 : decode cX6_walks 102 = .ok (.getfield 43, 3) := by decide +kernel
theorem dX6_walks_105 : decode cX6_walks 105 = .ok (.iload_n 3, 1) := by decide +kernel
theorem dX6_walks_106 : decode cX6_walks 106 = .ok (.dup2, 1) := by decide +kernel
theorem dX6_walks_107 : decode cX6_walks 107 = .ok (.iaload, 1) := by decide +kernel
theorem dX6_walks_108 : decode cX6_walks 108 = .ok (.iconst 1, 1) := by decide +kernel
theorem dX6_walks_109 : decode cX6_walks 109 = .ok (.iadd, 1) := by decide +kernel
theorem dX6_walks_110 : decode cX6_walks 110 = .ok (.iastore, 1) := by decide +kernel
theorem dX6_walks_111 : decode cX6_walks 111 = .ok (.iload 4, 2) := by decide +kernel
theorem dX6_walks_113 : decode cX6_walks 113 = .ok (.aload_n 0, 1) := by decide +kernel
theorem dX6_walks_114 : decode cX6_walks 114 = .ok (.getfield 13, 3) := by decide +kernel
theorem dX6_walks_117 : decode cX6_walks 117 = .ok (.iconst 0, 1) := by decide +kernel
theorem dX6_walks_118 : decode cX6_walks 118 = .ok (.iaload, 1) := by decide +kernel
theorem dX6_walks_119 : decode cX6_walks 119 = .ok (.if_icmp .ge 14, 3) := by decide +kernel
theorem dX6_walks_122 : decode cX6_walks 122 = .ok (.iload_n 2, 1) := by decide +kernel
theorem dX6_walks_123 : decode cX6_walks 123 = .ok (.ifCond .eq 16, 3) := by decide +kernel
theorem dX6_walks_126 : decode cX6_walks 126 = .ok (.aload_n 0, 1) := by decide +kernel
theorem dX6_walks_127 : decode cX6_walks 127 = .ok (.getfield 159, 3) := by decide +kernel
theorem dX6_walks_130 : decode cX6_walks 130 = .ok (.ifCond .le 9, 3) := by decide +kernel
theorem dX6_walks_133 : decode cX6_walks 133 = .ok (.iinc 3 (-1), 3) := by decide +kernel
theorem dX6_walks_136 : decode cX6_walks 136 = .ok (.goto 203, 3) := by decide +kernel
theorem dX6_walks_139 : decode cX6_walks 139 = .ok (.aload_n 0, 1) := by decide +kernel
theorem dX6_walks_140 : decode cX6_walks 140 = .ok (.getfield 31, 3) := by decide +kernel
theorem dX6_walks_143 : decode cX6_walks 143 = .ok (.iload_n 3, 1) := by decide +kernel
theorem dX6_walks_144 : decode cX6_walks 144 = .ok (.iaload, 1) := by decide +kernel
theorem dX6_walks_145 : decode cX6_walks 145 = .ok (.aload_n 0, 1) := by decide +kernel
theorem dX6_walks_146 : decode cX6_walks 146 = .ok (.getfield 34, 3) := by decide +kernel
theorem dX6_walks_149 : decode cX6_walks 149 = .ok (.iload_n 3, 1) := by decide +kernel
theorem dX6_walks_150 : decode cX6_walks 150 = .ok (.iaload, 1) := by decide +kernel
theorem dX6_walks_151 : decode cX6_walks 151 = .ok (.iconst (-1), 1) := by decide +kernel
theorem dX6_walks_152 : decode cX6_walks 152 = .ok (.ixor, 1) := by decide +kernel
theorem dX6_walks_153 : decode cX6_walks 153 = .ok (.iand, 1) := by decide +kernel
theorem dX6_walks_154 : decode cX6_walks 154 = .ok (.iload 4, 2) := by decide +kernel
theorem dX6_walks_156 : decode cX6_walks 156 = .ok (.ishr, 1) := by decide +kernel
theorem dX6_walks_157 : decode cX6_walks 157 = .ok (.iconst 1, 1) := by decide +kernel
theorem dX6_walks_158 : decode cX6_walks 158 = .ok (.iand, 1) := by decide +kernel
theorem dX6_walks_159 : decode cX6_walks 159 = .ok (.iconst 1, 1) := by decide +kernel
theorem dX6_walks_160 : decode cX6_walks 160 = .ok (.if_icmp .ne 179, 3) := by decide +kernel
theorem dX6_walks_163 : decode cX6_walks 163 = .ok (.aload_n 0, 1) := by decide +kernel
theorem dX6_walks_164 : decode cX6_walks 164 = .ok (.iload 4, 2) := by decide +kernel
theorem dX6_walks_166 : decode cX6_walks 166 = .ok (.aload_n 0, 1) := by decide +kernel
theorem dX6_walks_167 : decode cX6_walks 167 = .ok (.getfield 19, 3) := by decide +kernel
theorem dX6_walks_170 : decode cX6_walks 170 = .ok (.iconst 2, 1) := by decide +kernel
theorem dX6_walks_171 : decode cX6_walks 171 = .ok (.iaload, 1) := by decide +kernel
theorem dX6_walks_172 : decode cX6_walks 172 = .ok (.aload_n 0, 1) := by decide +kernel
theorem dX6_walks_173 : decode cX6_walks 173 = .ok (.getfield 37, 3) := by decide +kernel
theorem dX6_walks_176 : decode cX6_walks 176 = .ok (.iload_n 3, 1) := by decide +kernel
theorem dX6_walks_177 : decode cX6_walks 177 = .ok (.iaload, 1) := by decide +kernel
theorem dX6_walks_178 : decode cX6_walks 178 = .ok (.iconst (-1), 1) := by decide +kernel
theorem dX6_walks_179 : decode cX6_walks 179 = .ok (.ixor, 1) := by decide +kernel
theorem dX6_walks_180 : decode cX6_walks 180 = .ok (.iand, 1) := by decide +kernel
theorem dX6_walks_181 : decode cX6_walks 181 = .ok (.aload_n 0, 1) := by decide +kernel
theorem dX6_walks_182 : decode cX6_walks 182 = .ok (.getfield 40, 3) := by decide +kernel
theorem dX6_walks_185 : decode cX6_walks 185 = .ok (.iload_n 3, 1) := by decide +kernel
theorem dX6_walks_186 : decode cX6_walks 186 = .ok (.iaload, 1) := by decide +kernel
theorem dX6_walks_187 : decode cX6_walks 187 = .ok (.invokevirtual 119, 3) := by decide +kernel
theorem dX6_walks_190 : decode cX6_walks 190 = .ok (.istore 5, 2) := by decide +kernel
theorem dX6_walks_192 : decode cX6_walks 192 = .ok (.aload_n 0, 1) := by decide +kernel
theorem dX6_walks_193 : decode cX6_walks 193 = .ok (.getfield 40, 3) := by decide +kernel
theorem dX6_walks_196 : decode cX6_walks 196 = .ok (.iload_n 3, 1) := by decide +kernel
theorem dX6_walks_197 : decode cX6_walks 197 = .ok (.iaload, 1) := by decide +kernel
theorem dX6_walks_198 : decode cX6_walks 198 = .ok (.aload_n 0, 1) := by decide +kernel
theorem dX6_walks_199 : decode cX6_walks 199 = .ok (.iload 4, 2) := by decide +kernel
theorem dX6_walks_201 : decode cX6_walks 201 = .ok (.invokevirtual 141, 3) := by decide +kernel
theorem dX6_walks_204 : decode cX6_walks 204 = .ok (.iadd, 1) := by decide +kernel
theorem dX6_walks_205 : decode cX6_walks 205 = .ok (.istore 6, 2) := by decide +kernel
theorem dX6_walks_207 : decode cX6_walks 207 = .ok (.iload 5, 2) := by decide +kernel
theorem dX6_walks_209 : decode cX6_walks 209 = .ok (.ifCond .lt 130, 3) := by decide +kernel
theorem dX6_walks_212 : decode cX6_walks 212 = .ok (.iload 6, 2) := by decide +kernel
theorem dX6_walks_214 : decode cX6_walks 214 = .ok (.aload_n 0, 1) := by decide +kernel
theorem dX6_walks_215 : decode cX6_walks 215 = .ok (.getfield 13, 3) := by decide +kernel
theorem dX6_walks_218 : decode cX6_walks 218 = .ok (.iconst 3, 1) := by decide +kernel
theorem dX6_walks_219 : decode cX6_walks 219 = .ok (.iaload, 1) := by decide +kernel
theorem dX6_walks_220 : decode cX6_walks 220 = .ok (.if_icmp .gt 119, 3) := by decide +kernel
theorem dX6_walks_223 : decode cX6_walks 223 = .ok (.aload_n 0, 1) := by decide +kernel
theorem dX6_walks_224 : decode cX6_walks 224 = .ok (.getfield 46, 3) := by decide +kernel
theorem dX6_walks_227 : decode cX6_walks 227 = .ok (.iload_n 3, 1) := by decide +kernel
theorem dX6_walks_228 : decode cX6_walks 228 = .ok (.iload 4, 2) := by decide +kernel
theorem dX6_walks_230 : decode cX6_walks 230 = .ok (.iastore, 1) := by decide +kernel
theorem dX6_walks_231 : decode cX6_walks 231 = .ok (.iinc 3 1, 3) := by decide +kernel
theorem dX6_walks_234 : decode cX6_walks 234 = .ok (.aload_n 0, 1) := by decide +kernel
theorem dX6_walks_235 : decode cX6_walks 235 = .ok (.getfield 31, 3) := by decide +kernel
theorem dX6_walks_238 : decode cX6_walks 238 = .ok (.iload_n 3, 1) := by decide +kernel
theorem dX6_walks_239 : decode cX6_walks 239 = .ok (.aload_n 0, 1) := by decide +kernel
theorem dX6_walks_240 : decode cX6_walks 240 = .ok (.getfield 31, 3) := by decide +kernel
theorem dX6_walks_243 : decode cX6_walks 243 = .ok (.iload_n 3, 1) := by decide +kernel
theorem dX6_walks_244 : decode cX6_walks 244 = .ok (.iconst 1, 1) := by decide +kernel
theorem dX6_walks_245 : decode cX6_walks 245 = .ok (.isub, 1) := by decide +kernel
theorem dX6_walks_246 : decode cX6_walks 246 = .ok (.iaload, 1) := by decide +kernel
theorem dX6_walks_247 : decode cX6_walks 247 = .ok (.iconst 1, 1) := by decide +kernel
theorem dX6_walks_248 : decode cX6_walks 248 = .ok (.aload_n 0, 1) := by decide +kernel
theorem dX6_walks_249 : decode cX6_walks 249 = .ok (.getfield 13, 3) := by decide +kernel
theorem dX6_walks_252 : decode cX6_walks 252 = .ok (.bipush 29, 2) := by decide +kernel
theorem dX6_walks_254 : decode cX6_walks 254 = .ok (.iload 4, 2) := by decide +kernel
theorem dX6_walks_256 : decode cX6_walks 256 = .ok (.iadd, 1) := by decide +kernel
theorem dX6_walks_257 : decode cX6_walks 257 = .ok (.iaload, 1) := by decide +kernel
theorem dX6_walks_258 : decode cX6_walks 258 = .ok (.ishl, 1) := by decide +kernel
theorem dX6_walks_259 : decode cX6_walks 259 = .ok (.ior, 1) := by decide +kernel
theorem dX6_walks_260 : decode cX6_walks 260 = .ok (.iastore, 1) := by decide +kernel
theorem dX6_walks_261 : decode cX6_walks 261 = .ok (.aload_n 0, 1) := by decide +kernel
theorem dX6_walks_262 : decode cX6_walks 262 = .ok (.getfield 34, 3) := by decide +kernel
theorem dX6_walks_265 : decode cX6_walks 265 = .ok (.iload_n 3, 1) := by decide +kernel
theorem dX6_walks_266 : decode cX6_walks 266 = .ok (.aload_n 0, 1) := by decide +kernel
theorem dX6_walks_267 : decode cX6_walks 267 = .ok (.getfield 34, 3) := by decide +kernel
theorem dX6_walks_270 : decode cX6_walks 270 = .ok (.iload_n 3, 1) := by decide +kernel
theorem dX6_walks_271 : decode cX6_walks 271 = .ok (.iconst 1, 1) := by decide +kernel
theorem dX6_walks_272 : decode cX6_walks 272 = .ok (.isub, 1) := by decide +kernel
theorem dX6_walks_273 : decode cX6_walks 273 = .ok (.iaload, 1) := by decide +kernel
theorem dX6_walks_274 : decode cX6_walks 274 = .ok (.iconst 1, 1) := by decide +kernel
theorem dX6_walks_275 : decode cX6_walks 275 = .ok (.iload 4, 2) := by decide +kernel
theorem dX6_walks_277 : decode cX6_walks 277 = .ok (.ishl, 1) := by decide +kernel
theorem dX6_walks_278 : decode cX6_walks 278 = .ok (.ior, 1) := by decide +kernel
theorem dX6_walks_279 : decode cX6_walks 279 = .ok (.iastore, 1) := by decide +kernel
theorem dX6_walks_280 : decode cX6_walks 280 = .ok (.aload_n 0, 1) := by decide +kernel
theorem dX6_walks_281 : decode cX6_walks 281 = .ok (.getfield 37, 3) := by decide +kernel
theorem dX6_walks_284 : decode cX6_walks 284 = .ok (.iload_n 3, 1) := by decide +kernel
theorem dX6_walks_285 : decode cX6_walks 285 = .ok (.aload_n 0, 1) := by decide +kernel
theorem dX6_walks_286 : decode cX6_walks 286 = .ok (.getfield 37, 3) := by decide +kernel
theorem dX6_walks_289 : decode cX6_walks 289 = .ok (.iload_n 3, 1) := by decide +kernel
theorem dX6_walks_290 : decode cX6_walks 290 = .ok (.iconst 1, 1) := by decide +kernel
theorem dX6_walks_291 : decode cX6_walks 291 = .ok (.isub, 1) := by decide +kernel
theorem dX6_walks_292 : decode cX6_walks 292 = .ok (.iaload, 1) := by decide +kernel
theorem dX6_walks_293 : decode cX6_walks 293 = .ok (.iload 5, 2) := by decide +kernel
theorem dX6_walks_295 : decode cX6_walks 295 = .ok (.ior, 1) := by decide +kernel
theorem dX6_walks_296 : decode cX6_walks 296 = .ok (.iastore, 1) := by decide +kernel
theorem dX6_walks_297 : decode cX6_walks 297 = .ok (.aload_n 0, 1) := by decide +kernel
theorem dX6_walks_298 : decode cX6_walks 298 = .ok (.getfield 40, 3) := by decide +kernel
theorem dX6_walks_301 : decode cX6_walks 301 = .ok (.iload_n 3, 1) := by decide +kernel
theorem dX6_walks_302 : decode cX6_walks 302 = .ok (.iload 6, 2) := by decide +kernel
theorem dX6_walks_304 : decode cX6_walks 304 = .ok (.iastore, 1) := by decide +kernel
theorem dX6_walks_305 : decode cX6_walks 305 = .ok (.aload_n 0, 1) := by decide +kernel
theorem dX6_walks_306 : decode cX6_walks 306 = .ok (.getfield 43, 3) := by decide +kernel
theorem dX6_walks_309 : decode cX6_walks 309 = .ok (.iload_n 3, 1) := by decide +kernel
theorem dX6_walks_310 : decode cX6_walks 310 = .ok (.iconst 0, 1) := by decide +kernel
theorem dX6_walks_311 : decode cX6_walks 311 = .ok (.iastore, 1) := by decide +kernel
theorem dX6_walks_312 : decode cX6_walks 312 = .ok (.aload_n 0, 1) := by decide +kernel
theorem dX6_walks_313 : decode cX6_walks 313 = .ok (.getfield 31, 3) := by decide +kernel
theorem dX6_walks_316 : decode cX6_walks 316 = .ok (.iload_n 3, 1) := by decide +kernel
theorem dX6_walks_317 : decode cX6_walks 317 = .ok (.iaload, 1) := by decide +kernel
theorem dX6_walks_318 : decode cX6_walks 318 = .ok (.aload_n 0, 1) := by decide +kernel
theorem dX6_walks_319 : decode cX6_walks 319 = .ok (.getfield 34, 3) := by decide +kernel
theorem dX6_walks_322 : decode cX6_walks 322 = .ok (.iload_n 3, 1) := by decide +kernel
theorem dX6_walks_323 : decode cX6_walks 323 = .ok (.iaload, 1) := by decide +kernel
theorem dX6_walks_324 : decode cX6_walks 324 = .ok (.iconst (-1), 1) := by decide +kernel
theorem dX6_walks_325 : decode cX6_walks 325 = .ok (.ixor, 1) := by decide +kernel
theorem dX6_walks_326 : decode cX6_walks 326 = .ok (.iand, 1) := by decide +kernel
theorem dX6_walks_327 : decode cX6_walks 327 = .ok (.ifCond .ne 12, 3) := by decide +kernel
theorem dX6_walks_330 : decode cX6_walks 330 = .ok (.aload_n 0, 1) := by decide +kernel
theorem dX6_walks_331 : decode cX6_walks 331 = .ok (.iload_n 3, 1) := by decide +kernel
theorem dX6_walks_332 : decode cX6_walks 332 = .ok (.iload_n 1, 1) := by decide +kernel
theorem dX6_walks_333 : decode cX6_walks 333 = .ok (.invokevirtual 165, 3) := by decide +kernel
theorem dX6_walks_336 : decode cX6_walks 336 = .ok (.iinc 3 (-1), 3) := by decide +kernel
theorem dX6_walks_339 : decode cX6_walks 339 = .ok (.goto (-250), 3) := by decide +kernel
theorem dX6_walks_342 : decode cX6_walks 342 = .ok (.return_, 1) := by decide +kernel
set_option maxRecDepth 20000 in
theorem ggX6_well_X6_in : GoodIn wsX6_well wsX6_in := goodIn_r _ [7] (by decide +kernel) (by decide +kernel)
set_option maxRecDepth 20000 in
theorem gX6_well_X6_in : GoodIn wsX6_well (va_wsS RX6 69 yX6_in wsX6_in) := goodIn_app (goodIn_of _ (by decide +kernel)) ggX6_well_X6_in
set_option maxRecDepth 20000 in
theorem ggX6_well_X6_walks : GoodIn wsX6_well wsX6_walks := goodIn_r _ [11, 1, 2, 12, 13, 14, 15, 16, 17, 18, 19, 20, 21, 22, 6, 23, 24, 25, 26, 27, 28, 29, 30, 31, 3, 32, 33, 34, 35, 36, 37, 38, 39, 40, 41, 42, 43, 44, 45, 46, 47, 48, 49, 50, 51, 52, 53, 54, 55, 56, 57, 58, 59, 60, 61, 62, 63, 64, 65, 66, 67, 68, 69, 70, 71, 72] (by decide +kernel) (by decide +kernel)
set_option maxRecDepth 20000 in
theorem gX6_well_X6_walks : GoodIn wsX6_well (wsV RX6 169 RX6 yX6_walks wsX6_walks) := goodIn_app (goodIn_of _ (by decide +kernel)) ggX6_well_X6_walks
theorem dX6_well_0 : decode cX6_well 0 = .ok (.iload_n 1, 1) := by decide +kernel
theorem dX6_well_1 : decode cX6_well 1 = .ok (.iconst 0, 1) := by decide +kernel
theorem dX6_well_2 : decode cX6_well 2 = .ok (.bipush 8, 2) := by decide +kernel
theorem dX6_well_4 : decode cX6_well 4 = .ok (.invokestatic 69, 3) := by decide +kernel
theorem dX6_well_7 : decode cX6_well 7 = .ok (.ifCond .ne 5, 3) := by decide +kernel
theorem dX6_well_10 : decode cX6_well 10 = .ok (.iconst (-1), 1) := by decide +kernel
theorem dX6_well_11 : decode cX6_well 11 = .ok (.ireturn, 1) := by decide +kernel
theorem dX6_well_12 : decode cX6_well 12 = .ok (.aload_n 0, 1) := by decide +kernel
theorem dX6_well_13 : decode cX6_well 13 = .ok (.iconst 0, 1) := by decide +kernel
theorem dX6_well_14 : decode cX6_well 14 = .ok (.iconst 0, 1) := by decide +kernel
theorem dX6_well_15 : decode cX6_well 15 = .ok (.invokevirtual 169, 3) := by decide +kernel
theorem dX6_well_18 : decode cX6_well 18 = .ok (.iload_n 1, 1) := by decide +kernel
theorem dX6_well_19 : decode cX6_well 19 = .ok (.ifCond .ne 10, 3) := by decide +kernel
theorem dX6_well_22 : decode cX6_well 22 = .ok (.aload_n 0, 1) := by decide +kernel
theorem dX6_well_23 : decode cX6_well 23 = .ok (.getfield 159, 3) := by decide +kernel
theorem dX6_well_26 : decode cX6_well 26 = .ok (.goto 24, 3) := by decide +kernel
theorem dX6_well_29 : decode cX6_well 29 = .ok (.iload_n 1, 1) := by decide +kernel
theorem dX6_well_30 : decode cX6_well 30 = .ok (.aload_n 0, 1) := by decide +kernel
theorem dX6_well_31 : decode cX6_well 31 = .ok (.getfield 162, 3) := by decide +kernel
theorem dX6_well_34 : decode cX6_well 34 = .ok (.if_icmp .le 8, 3) := by decide +kernel
theorem dX6_well_37 : decode cX6_well 37 = .ok (.bipush (-4), 2) := by decide +kernel
theorem dX6_well_39 : decode cX6_well 39 = .ok (.goto 11, 3) := by decide +kernel
theorem dX6_well_42 : decode cX6_well 42 = .ok (.aload_n 0, 1) := by decide +kernel
theorem dX6_well_43 : decode cX6_well 43 = .ok (.getfield 49, 3) := by decide +kernel
theorem dX6_well_46 : decode cX6_well 46 = .ok (.iload_n 1, 1) := by decide +kernel
theorem dX6_well_47 : decode cX6_well 47 = .ok (.iconst 1, 1) := by decide +kernel
theorem dX6_well_48 : decode cX6_well 48 = .ok (.isub, 1) := by decide +kernel
theorem dX6_well_49 : decode cX6_well 49 = .ok (.iaload, 1) := by decide +kernel
theorem dX6_well_50 : decode cX6_well 50 = .ok (.ireturn, 1) := by decide +kernel
set_option maxRecDepth 20000 in
theorem ggX6_few_X6_walks : GoodIn wsX6_few wsX6_walks := goodIn_r _ [9, 4, 10, 11, 1, 12, 13, 14, 15, 3, 16, 17, 18, 19, 8, 20, 21, 22, 23, 24, 25, 26, 27, 28, 29, 30, 31, 32, 33, 34, 35, 36, 37, 38, 39, 40, 41, 42, 43, 44, 45, 46, 47, 48, 49, 50, 51, 52, 53, 54, 55, 56, 57, 58, 59, 60, 61, 62, 63, 64, 65, 66, 67, 68, 69, 70] (by decide +kernel) (by decide +kernel)
set_option maxRecDepth 20000 in
theorem gX6_few_X6_walks : GoodIn wsX6_few (wsV RX6 169 RX6 yX6_walks wsX6_walks) := goodIn_app (goodIn_of _ (by decide +kernel)) ggX6_few_X6_walks
theorem dX6_few_0 : decode cX6_few 0 = .ok (.aload_n 0, 1) := by decide +kernel
theorem dX6_few_1 : decode cX6_few 1 = .ok (.getfield 19, 3) := by decide +kernel
theorem dX6_few_4 : decode cX6_few 4 = .ok (.iconst 2, 1) := by decide +kernel
theorem dX6_few_5 : decode cX6_few 5 = .ok (.iaload, 1) := by decide +kernel
theorem dX6_few_6 : decode cX6_few 6 = .ok (.istore_n 1, 1) := by decide +kernel
theorem dX6_few_7 : decode cX6_few 7 = .ok (.bipush (-4), 2) := by decide +kernel
theorem dX6_few_9 : decode cX6_few 9 = .ok (.istore_n 2, 1) := by decide +kernel
theorem dX6_few_10 : decode cX6_few 10 = .ok (.aload_n 0, 1) := by decide +kernel
theorem dX6_few_11 : decode cX6_few 11 = .ok (.bipush (-4), 2) := by decide +kernel
theorem dX6_few_13 : decode cX6_few 13 = .ok (.putfield 173, 3) := by decide +kernel
theorem dX6_few_16 : decode cX6_few 16 = .ok (.iconst 0, 1) := by decide +kernel
theorem dX6_few_17 : decode cX6_few 17 = .ok (.istore_n 3, 1) := by decide +kernel
theorem dX6_few_18 : decode cX6_few 18 = .ok (.iload_n 3, 1) := by decide +kernel
theorem dX6_few_19 : decode cX6_few 19 = .ok (.iconst 1, 1) := by decide +kernel
theorem dX6_few_20 : decode cX6_few 20 = .ok (.aload_n 0, 1) := by decide +kernel
theorem dX6_few_21 : decode cX6_few 21 = .ok (.getfield 13, 3) := by decide +kernel
theorem dX6_few_24 : decode cX6_few 24 = .ok (.iconst 1, 1) := by decide +kernel
theorem dX6_few_25 : decode cX6_few 25 = .ok (.iaload, 1) := by decide +kernel
theorem dX6_few_26 : decode cX6_few 26 = .ok (.ishl, 1) := by decide +kernel
theorem dX6_few_27 : decode cX6_few 27 = .ok (.if_icmp .ge 138, 3) := by decide +kernel
theorem dX6_few_30 : decode cX6_few 30 = .ok (.iconst 0, 1) := by decide +kernel
theorem dX6_few_31 : decode cX6_few 31 = .ok (.istore 4, 2) := by decide +kernel
theorem dX6_few_33 : decode cX6_few 33 = .ok (.iconst 0, 1) := by decide +kernel
theorem dX6_few_34 : decode cX6_few 34 = .ok (.istore 5, 2) := by decide +kernel
theorem dX6_few_36 : decode cX6_few 36 = .ok (.iload 5, 2) := by decide +kernel
theorem dX6_few_38 : decode cX6_few 38 = .ok (.aload_n 0, 1) := by decide +kernel
theorem dX6_few_39 : decode cX6_few 39 = .ok (.getfield 13, 3) := by decide +kernel
theorem dX6_few_42 : decode cX6_few 42 = .ok (.iconst 1, 1) := by decide +kernel
theorem dX6_few_43 : decode cX6_few 43 = .ok (.iaload, 1) := by decide +kernel
theorem dX6_few_44 : decode cX6_few 44 = .ok (.if_icmp .ge 38, 3) := by decide +kernel
theorem dX6_few_47 : decode cX6_few 47 = .ok (.iload 4, 2) := by decide +kernel
theorem dX6_few_49 : decode cX6_few 49 = .ok (.iload_n 3, 1) := by decide +kernel
theorem dX6_few_50 : decode cX6_few 50 = .ok (.iload 5, 2) := by decide +kernel
theorem dX6_few_52 : decode cX6_few 52 = .ok (.ishr, 1) := by decide +kernel
theorem dX6_few_53 : decode cX6_few 53 = .ok (.iconst 1, 1) := by decide +kernel
theorem dX6_few_54 : decode cX6_few 54 = .ok (.iand, 1) := by decide +kernel
theorem dX6_few_55 : decode cX6_few 55 = .ok (.iconst 1, 1) := by decide +kernel
theorem dX6_few_56 : decode cX6_few 56 = .ok (.if_icmp .ne 16, 3) := by decide +kernel
theorem dX6_few_59 : decode cX6_few 59 = .ok (.aload_n 0, 1) := by decide +kernel
theorem dX6_few_60 : decode cX6_few 60 = .ok (.getfield 13, 3) := by decide +kernel
theorem dX6_few_63 : decode cX6_few 63 = .ok (.bipush 44, 2) := by decide +kernel
theorem dX6_few_65 : decode cX6_few 65 = .ok (.iload 5, 2) := by decide +kernel
theorem dX6_few_67 : decode cX6_few 67 = .ok (.iadd, 1) := by decide +kernel
theorem dX6_few_68 : decode cX6_few 68 = .ok (.iaload, 1) := by decide +kernel
theorem dX6_few_69 : decode cX6_few 69 = .ok (.goto 4, 3) := by decide +kernel
theorem dX6_few_72 : decode cX6_few 72 = .ok (.iconst 0, 1) := by decide +kernel
theorem dX6_few_73 : decode cX6_few 73 = .ok (.iadd, 1) := by decide +kernel
theorem dX6_few_74 : decode cX6_few 74 = .ok (.istore 4, 2) := by decide +kernel
theorem dX6_few_76 : decode cX6_few 76 = .ok (.iinc 5 1, 3) := by decide +kernel
theorem dX6_few_79 : decode cX6_few 79 = .ok (.goto (-43), 3) := by decide +kernel
theorem dX6_few_82 : decode cX6_few 82 = .ok (.iload_n 3, 1) := by decide +kernel
theorem dX6_few_83 : decode cX6_few 83 = .ok (.iload_n 1, 1) := by decide +kernel
theorem dX6_few_84 : decode cX6_few 84 = .ok (.iand, 1) := by decide +kernel
theorem dX6_few_85 : decode cX6_few 85 = .ok (.ifCond .ne 74, 3) := by decide +kernel
theorem dX6_few_88 : decode cX6_few 88 = .ok (.iload 4, 2) := by decide +kernel
theorem dX6_few_90 : decode cX6_few 90 = .ok (.aload_n 0, 1) := by decide +kernel
theorem dX6_few_91 : decode cX6_few 91 = .ok (.getfield 19, 3) := by decide +kernel
theorem dX6_few_94 : decode cX6_few 94 = .ok (.iconst 4, 1) := by decide +kernel
theorem dX6_few_95 : decode cX6_few 95 = .ok (.iaload, 1) := by decide +kernel
theorem dX6_few_96 : decode cX6_few 96 = .ok (.if_icmp .gt 63, 3) := by decide +kernel
theorem dX6_few_99 : decode cX6_few 99 = .ok (.iload_n 2, 1) := by decide +kernel
theorem dX6_few_100 : decode cX6_few 100 = .ok (.bipush (-4), 2) := by decide +kernel
theorem dX6_few_102 : decode cX6_few 102 = .ok (.if_icmp .eq 9, 3) := by decide +kernel
theorem dX6_few_105 : decode cX6_few 105 = .ok (.iload 4, 2) := by decide +kernel
theorem dX6_few_107 : decode cX6_few 107 = .ok (.iload_n 2, 1) := by decide +kernel
theorem dX6_few_108 : decode cX6_few 108 = .ok (.if_icmp .ge 51, 3) := by decide +kernel
theorem dX6_few_111 : decode cX6_few 111 = .ok (.aload_n 0, 1) := by decide +kernel
theorem dX6_few_112 : decode cX6_few 112 = .ok (.getfield 19, 3) := by decide +kernel
theorem dX6_few_115 : decode cX6_few 115 = .ok (.iconst 2, 1) := by decide +kernel
theorem dX6_few_116 : decode cX6_few 116 = .ok (.iload_n 1, 1) := by decide +kernel
theorem dX6_few_117 : decode cX6_few 117 = .ok (.iload_n 3, 1) := by decide +kernel
theorem dX6_few_118 : decode cX6_few 118 = .ok (.ior, 1) := by decide +kernel
theorem dX6_few_119 : decode cX6_few 119 = .ok (.iastore, 1) := by decide +kernel
theorem dX6_few_120 : decode cX6_few 120 = .ok (.aload_n 0, 1) := by decide +kernel
theorem dX6_few_121 : decode cX6_few 121 = .ok (.iconst 0, 1) := by decide +kernel
theorem dX6_few_122 : decode cX6_few 122 = .ok (.iconst 1, 1) := by decide +kernel
theorem dX6_few_123 : decode cX6_few 123 = .ok (.invokevirtual 169, 3) := by decide +kernel
theorem dX6_few_126 : decode cX6_few 126 = .ok (.aload_n 0, 1) := by decide +kernel
theorem dX6_few_127 : decode cX6_few 127 = .ok (.aload_n 0, 1) := by decide +kernel
theorem dX6_few_128 : decode cX6_few 128 = .ok (.getfield 159, 3) := by decide +kernel
theorem dX6_few_131 : decode cX6_few 131 = .ok (.ifCond .le 7, 3) := by decide +kernel
theorem dX6_few_134 : decode cX6_few 134 = .ok (.iload_n 3, 1) := by decide +kernel
theorem dX6_few_135 : decode cX6_few 135 = .ok (.goto 7, 3) := by decide +kernel
theorem dX6_few_138 : decode cX6_few 138 = .ok (.aload_n 0, 1) := by decide +kernel
theorem dX6_few_139 : decode cX6_few 139 = .ok (.getfield 173, 3) := by decide +kernel
theorem dX6_few_142 : decode cX6_few 142 = .ok (.putfield 173, 3) := by decide +kernel
theorem dX6_few_145 : decode cX6_few 145 = .ok (.aload_n 0, 1) := by decide +kernel
theorem dX6_few_146 : decode cX6_few 146 = .ok (.getfield 159, 3) := by decide +kernel
theorem dX6_few_149 : decode cX6_few 149 = .ok (.ifCond .le 8, 3) := by decide +kernel
theorem dX6_few_152 : decode cX6_few 152 = .ok (.iload 4, 2) := by decide +kernel
theorem dX6_few_154 : decode cX6_few 154 = .ok (.goto 4, 3) := by decide +kernel
theorem dX6_few_157 : decode cX6_few 157 = .ok (.iload_n 2, 1) := by decide +kernel
theorem dX6_few_158 : decode cX6_few 158 = .ok (.istore_n 2, 1) := by decide +kernel
theorem dX6_few_159 : decode cX6_few 159 = .ok (.iinc 3 1, 3) := by decide +kernel
theorem dX6_few_162 : decode cX6_few 162 = .ok (.goto (-144), 3) := by decide +kernel
theorem dX6_few_165 : decode cX6_few 165 = .ok (.aload_n 0, 1) := by decide +kernel
theorem dX6_few_166 : decode cX6_few 166 = .ok (.getfield 19, 3) := by decide +kernel
theorem dX6_few_169 : decode cX6_few 169 = .ok (.iconst 2, 1) := by decide +kernel
theorem dX6_few_170 : decode cX6_few 170 = .ok (.iload_n 1, 1) := by decide +kernel
theorem dX6_few_171 : decode cX6_few 171 = .ok (.iastore, 1) := by decide +kernel
theorem dX6_few_172 : decode cX6_few 172 = .ok (.iload_n 2, 1) := by decide +kernel
theorem dX6_few_173 : decode cX6_few 173 = .ok (.ireturn, 1) := by decide +kernel
set_option maxRecDepth 20000 in
theorem ggX6_fewest_X6_in : GoodIn wsX6_fewest wsX6_in := goodIn_r _ [5] (by decide +kernel) (by decide +kernel)
set_option maxRecDepth 20000 in
theorem gX6_fewest_X6_in : GoodIn wsX6_fewest (va_wsS RX6 69 yX6_in wsX6_in) := goodIn_app (goodIn_of _ (by decide +kernel)) ggX6_fewest_X6_in
set_option maxRecDepth 20000 in
theorem ggX6_fewest_X6_few : GoodIn wsX6_fewest wsX6_few := goodIn_r _ [9, 10, 1, 11, 12, 13, 14, 15, 4, 16, 17, 18, 19, 20, 21, 22, 23, 24, 25, 26, 27, 28, 29, 30, 31, 32, 33, 34, 35, 36, 37, 38, 39, 40, 41, 42, 43, 44, 45, 46, 47, 48, 49, 50, 51, 52, 53, 54, 55, 56, 57, 58, 59, 60, 61, 62, 63, 64, 65, 66, 67, 68, 69, 70, 71, 72, 73, 74, 75, 76, 77] (by decide +kernel) (by decide +kernel)
set_option maxRecDepth 20000 in
theorem gX6_fewest_X6_few : GoodIn wsX6_fewest (wsV RX6 176 RX6 yX6_few wsX6_few) := goodIn_app (goodIn_of _ (by decide +kernel)) ggX6_fewest_X6_few
theorem dX6_fewest_0 : decode cX6_fewest 0 = .ok (.iload_n 1, 1) := by decide +kernel
theorem dX6_fewest_1 : decode cX6_fewest 1 = .ok (.iconst 0, 1) := by decide +kernel
theorem dX6_fewest_2 : decode cX6_fewest 2 = .ok (.iconst 1, 1) := by decide +kernel
theorem dX6_fewest_3 : decode cX6_fewest 3 = .ok (.invokestatic 69, 3) := by decide +kernel
theorem dX6_fewest_6 : decode cX6_fewest 6 = .ok (.ifCond .ne 5, 3) := by decide +kernel
theorem dX6_fewest_9 : decode cX6_fewest 9 = .ok (.iconst (-1), 1) := by decide +kernel
theorem dX6_fewest_10 : decode cX6_fewest 10 = .ok (.ireturn, 1) := by decide +kernel
theorem dX6_fewest_11 : decode cX6_fewest 11 = .ok (.aload_n 0, 1) := by decide +kernel
theorem dX6_fewest_12 : decode cX6_fewest 12 = .ok (.invokevirtual 176, 3) := by decide +kernel
theorem dX6_fewest_15 : decode cX6_fewest 15 = .ok (.istore_n 2, 1) := by decide +kernel
theorem dX6_fewest_16 : decode cX6_fewest 16 = .ok (.iload_n 1, 1) := by decide +kernel
theorem dX6_fewest_17 : decode cX6_fewest 17 = .ok (.ifCond .ne 7, 3) := by decide +kernel
theorem dX6_fewest_20 : decode cX6_fewest 20 = .ok (.iload_n 2, 1) := by decide +kernel
theorem dX6_fewest_21 : decode cX6_fewest 21 = .ok (.goto 7, 3) := by decide +kernel
theorem dX6_fewest_24 : decode cX6_fewest 24 = .ok (.aload_n 0, 1) := by decide +kernel
theorem dX6_fewest_25 : decode cX6_fewest 25 = .ok (.getfield 173, 3) := by decide +kernel
theorem dX6_fewest_28 : decode cX6_fewest 28 = .ok (.ireturn, 1) := by decide +kernel
set_option maxRecDepth 20000 in
theorem ggX6_step_X6_isTask : GoodIn wsX6_step wsX6_isTask := goodIn_r _ [7, 8, 9, 10, 6, 11, 62, 63, 64, 65, 66, 67, 68, 69, 70, 71, 72, 73, 74, 75, 76, 77, 78, 79, 80, 81, 82, 83, 84] (by decide +kernel) (by decide +kernel)
set_option maxRecDepth 20000 in
theorem gX6_step_X6_isTask : GoodIn wsX6_step (wsV RX6 122 RX6 yX6_isTask wsX6_isTask) := goodIn_app (goodIn_of _ (by decide +kernel)) ggX6_step_X6_isTask
set_option maxRecDepth 20000 in
theorem ggX6_step_X6_helpNow : GoodIn wsX6_step wsX6_helpNow := goodIn_r _ [15, 1, 16, 17, 18, 6, 19, 8, 20, 21, 22, 23, 24, 25, 26, 27, 28, 29, 30, 31, 62, 63, 64, 65, 66, 67, 68, 69, 70, 71, 72, 73, 74, 75, 76, 77, 78, 79, 80, 81, 82, 83, 84] (by decide +kernel) (by decide +kernel)
set_option maxRecDepth 20000 in
theorem gX6_step_X6_helpNow : GoodIn wsX6_step (wsV RX6 125 RX6 yX6_helpNow wsX6_helpNow) := goodIn_app (goodIn_of _ (by decide +kernel)) ggX6_step_X6_helpNow
set_option maxRecDepth 20000 in
theorem ggX6_step_X6_rides : GoodIn wsX6_step wsX6_rides := goodIn_r _ [35, 1, 8, 12, 13, 14, 6, 15, 16, 17, 18, 19, 20, 21, 22, 23, 24, 25, 26, 27, 28, 29, 30, 31, 36, 37, 38, 39, 62, 63, 64, 65, 66, 67, 68, 69, 70, 71, 72, 73, 74, 75, 76, 77, 78, 79, 80, 81, 82, 83, 84] (by decide +kernel) (by decide +kernel)
set_option maxRecDepth 20000 in
theorem gX6_step_X6_rides : GoodIn wsX6_step (wsV RX6 144 RX6 yX6_rides wsX6_rides) := goodIn_app (goodIn_of _ (by decide +kernel)) ggX6_step_X6_rides
set_option maxRecDepth 20000 in
theorem ggX6_step_X6_walks : GoodIn wsX6_step wsX6_walks := goodIn_r _ [43, 2, 44, 45, 1, 46, 47, 48, 49, 8, 50, 16, 17, 18, 6, 19, 20, 21, 22, 23, 51, 52, 53, 54, 55, 56, 57, 58, 59, 60, 61, 24, 25, 26, 27, 28, 29, 30, 31, 36, 37, 38, 39, 62, 63, 64, 65, 66, 67, 68, 69, 70, 71, 72, 73, 74, 75, 76, 77, 78, 79, 80, 81, 82, 83, 84] (by decide +kernel) (by decide +kernel)
set_option maxRecDepth 20000 in
theorem gX6_step_X6_walks : GoodIn wsX6_step (wsV RX6 169 RX6 yX6_walks wsX6_walks) := goodIn_app (goodIn_of _ (by decide +kernel)) ggX6_step_X6_walks
theorem dX6_step_0 : decode cX6_step 0 = .ok (.aload_n 0, 1) := by decide +kernel
theorem dX6_step_1 : decode cX6_step 1 = .ok (.iload_n 1, 1) := by decide +kernel
theorem dX6_step_2 : decode cX6_step 2 = .ok (.invokevirtual 122, 3) := by decide +kernel
theorem dX6_step_5 : decode cX6_step 5 = .ok (.ifCond .ne 5, 3) := by decide +kernel
theorem dX6_step_8 : decode cX6_step 8 = .ok (.iconst (-1), 1) := by decide +kernel
theorem dX6_step_9 : decode cX6_step 9 = .ok (.ireturn, 1) := by decide +kernel
theorem dX6_step_10 : decode cX6_step 10 = .ok (.aload_n 0, 1) := by decide +kernel
theorem dX6_step_11 : decode cX6_step 11 = .ok (.iload_n 1, 1) := by decide +kernel
theorem dX6_step_12 : decode cX6_step 12 = .ok (.invokevirtual 125, 3) := by decide +kernel
theorem dX6_step_15 : decode cX6_step 15 = .ok (.ifCond .ge 5, 3) := by decide +kernel
theorem dX6_step_18 : decode cX6_step 18 = .ok (.iconst 0, 1) := by decide +kernel
theorem dX6_step_19 : decode cX6_step 19 = .ok (.ireturn, 1) := by decide +kernel
theorem dX6_step_20 : decode cX6_step 20 = .ok (.aload_n 0, 1) := by decide +kernel
theorem dX6_step_21 : decode cX6_step 21 = .ok (.getfield 19, 3) := by decide +kernel
theorem dX6_step_24 : decode cX6_step 24 = .ok (.iconst 0, 1) := by decide +kernel
theorem dX6_step_25 : decode cX6_step 25 = .ok (.iaload, 1) := by decide +kernel
theorem dX6_step_26 : decode cX6_step 26 = .ok (.istore_n 2, 1) := by decide +kernel
theorem dX6_step_27 : decode cX6_step 27 = .ok (.aload_n 0, 1) := by decide +kernel
theorem dX6_step_28 : decode cX6_step 28 = .ok (.getfield 19, 3) := by decide +kernel
theorem dX6_step_31 : decode cX6_step 31 = .ok (.iconst 1, 1) := by decide +kernel
theorem dX6_step_32 : decode cX6_step 32 = .ok (.iaload, 1) := by decide +kernel
theorem dX6_step_33 : decode cX6_step 33 = .ok (.istore_n 3, 1) := by decide +kernel
theorem dX6_step_34 : decode cX6_step 34 = .ok (.aload_n 0, 1) := by decide +kernel
theorem dX6_step_35 : decode cX6_step 35 = .ok (.getfield 19, 3) := by decide +kernel
theorem dX6_step_38 : decode cX6_step 38 = .ok (.iconst 3, 1) := by decide +kernel
theorem dX6_step_39 : decode cX6_step 39 = .ok (.iaload, 1) := by decide +kernel
theorem dX6_step_40 : decode cX6_step 40 = .ok (.istore 4, 2) := by decide +kernel
theorem dX6_step_42 : decode cX6_step 42 = .ok (.aload_n 0, 1) := by decide +kernel
theorem dX6_step_43 : decode cX6_step 43 = .ok (.getfield 19, 3) := by decide +kernel
theorem dX6_step_46 : decode cX6_step 46 = .ok (.iconst 5, 1) := by decide +kernel
theorem dX6_step_47 : decode cX6_step 47 = .ok (.iaload, 1) := by decide +kernel
theorem dX6_step_48 : decode cX6_step 48 = .ok (.istore 5, 2) := by decide +kernel
theorem dX6_step_50 : decode cX6_step 50 = .ok (.aload_n 0, 1) := by decide +kernel
theorem dX6_step_51 : decode cX6_step 51 = .ok (.iload_n 1, 1) := by decide +kernel
theorem dX6_step_52 : decode cX6_step 52 = .ok (.invokevirtual 144, 3) := by decide +kernel
theorem dX6_step_55 : decode cX6_step 55 = .ok (.aload_n 0, 1) := by decide +kernel
theorem dX6_step_56 : decode cX6_step 56 = .ok (.iconst 0, 1) := by decide +kernel
theorem dX6_step_57 : decode cX6_step 57 = .ok (.iconst 0, 1) := by decide +kernel
theorem dX6_step_58 : decode cX6_step 58 = .ok (.invokevirtual 169, 3) := by decide +kernel
theorem dX6_step_61 : decode cX6_step 61 = .ok (.aload_n 0, 1) := by decide +kernel
theorem dX6_step_62 : decode cX6_step 62 = .ok (.getfield 19, 3) := by decide +kernel
theorem dX6_step_65 : decode cX6_step 65 = .ok (.iconst 0, 1) := by decide +kernel
theorem dX6_step_66 : decode cX6_step 66 = .ok (.iload_n 2, 1) := by decide +kernel
theorem dX6_step_67 : decode cX6_step 67 = .ok (.iastore, 1) := by decide +kernel
theorem dX6_step_68 : decode cX6_step 68 = .ok (.aload_n 0, 1) := by decide +kernel
theorem dX6_step_69 : decode cX6_step 69 = .ok (.getfield 19, 3) := by decide +kernel
theorem dX6_step_72 : decode cX6_step 72 = .ok (.iconst 1, 1) := by decide +kernel
theorem dX6_step_73 : decode cX6_step 73 = .ok (.iload_n 3, 1) := by decide +kernel
theorem dX6_step_74 : decode cX6_step 74 = .ok (.iastore, 1) := by decide +kernel
theorem dX6_step_75 : decode cX6_step 75 = .ok (.aload_n 0, 1) := by decide +kernel
theorem dX6_step_76 : decode cX6_step 76 = .ok (.getfield 19, 3) := by decide +kernel
theorem dX6_step_79 : decode cX6_step 79 = .ok (.iconst 3, 1) := by decide +kernel
theorem dX6_step_80 : decode cX6_step 80 = .ok (.iload 4, 2) := by decide +kernel
theorem dX6_step_82 : decode cX6_step 82 = .ok (.iastore, 1) := by decide +kernel
theorem dX6_step_83 : decode cX6_step 83 = .ok (.aload_n 0, 1) := by decide +kernel
theorem dX6_step_84 : decode cX6_step 84 = .ok (.getfield 19, 3) := by decide +kernel
theorem dX6_step_87 : decode cX6_step 87 = .ok (.iconst 5, 1) := by decide +kernel
theorem dX6_step_88 : decode cX6_step 88 = .ok (.iload 5, 2) := by decide +kernel
theorem dX6_step_90 : decode cX6_step 90 = .ok (.iastore, 1) := by decide +kernel
theorem dX6_step_91 : decode cX6_step 91 = .ok (.aload_n 0, 1) := by decide +kernel
theorem dX6_step_92 : decode cX6_step 92 = .ok (.getfield 159, 3) := by decide +kernel
theorem dX6_step_95 : decode cX6_step 95 = .ok (.ireturn, 1) := by decide +kernel
set_option maxRecDepth 20000 in
theorem ggX6_worth_X6_isHelper : GoodIn wsX6_worth wsX6_isHelper := goodIn_r _ [7, 8, 9, 10, 6, 11, 59, 60, 61, 62, 63, 64, 65, 66, 67, 68, 69, 70, 71, 72, 73, 74, 75, 76, 77, 78, 79, 80, 81] (by decide +kernel) (by decide +kernel)
set_option maxRecDepth 20000 in
theorem gX6_worth_X6_isHelper : GoodIn wsX6_worth (wsV RX6 128 RX6 yX6_isHelper wsX6_isHelper) := goodIn_app (goodIn_of _ (by decide +kernel)) ggX6_worth_X6_isHelper
set_option maxRecDepth 20000 in
theorem ggX6_worth_X6_in : GoodIn wsX6_worth wsX6_in := goodIn_r _ [11] (by decide +kernel) (by decide +kernel)
set_option maxRecDepth 20000 in
theorem gX6_worth_X6_in : GoodIn wsX6_worth (va_wsS RX6 69 yX6_in wsX6_in) := goodIn_app (goodIn_of _ (by decide +kernel)) ggX6_worth_X6_in
set_option maxRecDepth 20000 in
theorem ggX6_worth_X6_walks : GoodIn wsX6_worth wsX6_walks := goodIn_r _ [15, 2, 16, 17, 1, 18, 19, 20, 21, 8, 22, 23, 24, 25, 6, 26, 27, 28, 29, 30, 31, 32, 33, 34, 35, 36, 37, 38, 39, 40, 41, 42, 43, 44, 45, 46, 47, 48, 49, 50, 51, 52, 53, 59, 60, 61, 62, 63, 64, 65, 66, 67, 68, 69, 70, 71, 72, 73, 74, 75, 76, 77, 78, 79, 80, 81] (by decide +kernel) (by decide +kernel)
set_option maxRecDepth 20000 in
theorem gX6_worth_X6_walks : GoodIn wsX6_worth (wsV RX6 169 RX6 yX6_walks wsX6_walks) := goodIn_app (goodIn_of _ (by decide +kernel)) ggX6_worth_X6_walks
set_option maxRecDepth 20000 in
theorem ggX6_worth_X6_few : GoodIn wsX6_worth wsX6_few := goodIn_r _ [57, 1, 58, 8, 2, 12, 13, 14, 6, 15, 16, 17, 18, 19, 20, 21, 22, 23, 24, 25, 26, 27, 28, 29, 30, 31, 32, 33, 34, 35, 36, 37, 38, 39, 40, 41, 42, 43, 44, 45, 46, 47, 48, 49, 50, 51, 52, 53, 59, 60, 61, 62, 63, 64, 65, 66, 67, 68, 69, 70, 71, 72, 73, 74, 75, 76, 77, 78, 79, 80, 81] (by decide +kernel) (by decide +kernel)
set_option maxRecDepth 20000 in
theorem gX6_worth_X6_few : GoodIn wsX6_worth (wsV RX6 176 RX6 yX6_few wsX6_few) := goodIn_app (goodIn_of _ (by decide +kernel)) ggX6_worth_X6_few
theorem dX6_worth_0 : decode cX6_worth 0 = .ok (.aload_n 0, 1) := by decide +kernel
theorem dX6_worth_1 : decode cX6_worth 1 = .ok (.iload_n 1, 1) := by decide +kernel
theorem dX6_worth_2 : decode cX6_worth 2 = .ok (.invokevirtual 128, 3) := by decide +kernel
theorem dX6_worth_5 : decode cX6_worth 5 = .ok (.ifCond .eq 12, 3) := by decide +kernel
theorem dX6_worth_8 : decode cX6_worth 8 = .ok (.iload_n 2, 1) := by decide +kernel
theorem dX6_worth_9 : decode cX6_worth 9 = .ok (.iconst 0, 1) := by decide +kernel
theorem dX6_worth_10 : decode cX6_worth 10 = .ok (.iconst 1, 1) := by decide +kernel
theorem dX6_worth_11 : decode cX6_worth 11 = .ok (.invokestatic 69, 3) := by decide +kernel
theorem dX6_worth_14 : decode cX6_worth 14 = .ok (.ifCond .ne 5, 3) := by decide +kernel
theorem dX6_worth_17 : decode cX6_worth 17 = .ok (.iconst (-1), 1) := by decide +kernel
theorem dX6_worth_18 : decode cX6_worth 18 = .ok (.ireturn, 1) := by decide +kernel
theorem dX6_worth_19 : decode cX6_worth 19 = .ok (.aload_n 0, 1) := by decide +kernel
theorem dX6_worth_20 : decode cX6_worth 20 = .ok (.getfield 19, 3) := by decide +kernel
theorem dX6_worth_23 : decode cX6_worth 23 = .ok (.iconst 2, 1) := by decide +kernel
theorem dX6_worth_24 : decode cX6_worth 24 = .ok (.iaload, 1) := by decide +kernel
theorem dX6_worth_25 : decode cX6_worth 25 = .ok (.iload_n 1, 1) := by decide +kernel
theorem dX6_worth_26 : decode cX6_worth 26 = .ok (.ishr, 1) := by decide +kernel
theorem dX6_worth_27 : decode cX6_worth 27 = .ok (.iconst 1, 1) := by decide +kernel
theorem dX6_worth_28 : decode cX6_worth 28 = .ok (.iand, 1) := by decide +kernel
theorem dX6_worth_29 : decode cX6_worth 29 = .ok (.iconst 1, 1) := by decide +kernel
theorem dX6_worth_30 : decode cX6_worth 30 = .ok (.if_icmp .ne 6, 3) := by decide +kernel
theorem dX6_worth_33 : decode cX6_worth 33 = .ok (.bipush (-2), 2) := by decide +kernel
theorem dX6_worth_35 : decode cX6_worth 35 = .ok (.ireturn, 1) := by decide +kernel
theorem dX6_worth_36 : decode cX6_worth 36 = .ok (.aload_n 0, 1) := by decide +kernel
theorem dX6_worth_37 : decode cX6_worth 37 = .ok (.iconst 0, 1) := by decide +kernel
theorem dX6_worth_38 : decode cX6_worth 38 = .ok (.iconst 0, 1) := by decide +kernel
theorem dX6_worth_39 : decode cX6_worth 39 = .ok (.invokevirtual 169, 3) := by decide +kernel
theorem dX6_worth_42 : decode cX6_worth 42 = .ok (.aload_n 0, 1) := by decide +kernel
theorem dX6_worth_43 : decode cX6_worth 43 = .ok (.getfield 159, 3) := by decide +kernel
theorem dX6_worth_46 : decode cX6_worth 46 = .ok (.istore_n 3, 1) := by decide +kernel
theorem dX6_worth_47 : decode cX6_worth 47 = .ok (.aload_n 0, 1) := by decide +kernel
theorem dX6_worth_48 : decode cX6_worth 48 = .ok (.invokevirtual 176, 3) := by decide +kernel
theorem dX6_worth_51 : decode cX6_worth 51 = .ok (.istore 4, 2) := by decide +kernel
theorem dX6_worth_53 : decode cX6_worth 53 = .ok (.aload_n 0, 1) := by decide +kernel
theorem dX6_worth_54 : decode cX6_worth 54 = .ok (.getfield 19, 3) := by decide +kernel
theorem dX6_worth_57 : decode cX6_worth 57 = .ok (.iconst 2, 1) := by decide +kernel
theorem dX6_worth_58 : decode cX6_worth 58 = .ok (.dup2, 1) := by decide +kernel
theorem dX6_worth_59 : decode cX6_worth 59 = .ok (.iaload, 1) := by decide +kernel
theorem dX6_worth_60 : decode cX6_worth 60 = .ok (.iconst 1, 1) := by decide +kernel
theorem dX6_worth_61 : decode cX6_worth 61 = .ok (.iload_n 1, 1) := by decide +kernel
theorem dX6_worth_62 : decode cX6_worth 62 = .ok (.ishl, 1) := by decide +kernel
theorem dX6_worth_63 : decode cX6_worth 63 = .ok (.ior, 1) := by decide +kernel
theorem dX6_worth_64 : decode cX6_worth 64 = .ok (.iastore, 1) := by decide +kernel
theorem dX6_worth_65 : decode cX6_worth 65 = .ok (.aload_n 0, 1) := by decide +kernel
theorem dX6_worth_66 : decode cX6_worth 66 = .ok (.iconst 0, 1) := by decide +kernel
theorem dX6_worth_67 : decode cX6_worth 67 = .ok (.iconst 0, 1) := by decide +kernel
theorem dX6_worth_68 : decode cX6_worth 68 = .ok (.invokevirtual 169, 3) := by decide +kernel
theorem dX6_worth_71 : decode cX6_worth 71 = .ok (.aload_n 0, 1) := by decide +kernel
theorem dX6_worth_72 : decode cX6_worth 72 = .ok (.getfield 159, 3) := by decide +kernel
theorem dX6_worth_75 : decode cX6_worth 75 = .ok (.iload_n 3, 1) := by decide +kernel
theorem dX6_worth_76 : decode cX6_worth 76 = .ok (.isub, 1) := by decide +kernel
theorem dX6_worth_77 : decode cX6_worth 77 = .ok (.istore 5, 2) := by decide +kernel
theorem dX6_worth_79 : decode cX6_worth 79 = .ok (.aload_n 0, 1) := by decide +kernel
theorem dX6_worth_80 : decode cX6_worth 80 = .ok (.invokevirtual 176, 3) := by decide +kernel
theorem dX6_worth_83 : decode cX6_worth 83 = .ok (.istore 6, 2) := by decide +kernel
theorem dX6_worth_85 : decode cX6_worth 85 = .ok (.aload_n 0, 1) := by decide +kernel
theorem dX6_worth_86 : decode cX6_worth 86 = .ok (.getfield 19, 3) := by decide +kernel
theorem dX6_worth_89 : decode cX6_worth 89 = .ok (.iconst 2, 1) := by decide +kernel
theorem dX6_worth_90 : decode cX6_worth 90 = .ok (.dup2, 1) := by decide +kernel
theorem dX6_worth_91 : decode cX6_worth 91 = .ok (.iaload, 1) := by decide +kernel
theorem dX6_worth_92 : decode cX6_worth 92 = .ok (.iconst 1, 1) := by decide +kernel
theorem dX6_worth_93 : decode cX6_worth 93 = .ok (.iload_n 1, 1) := by decide +kernel
theorem dX6_worth_94 : decode cX6_worth 94 = .ok (.ishl, 1) := by decide +kernel
theorem dX6_worth_95 : decode cX6_worth 95 = .ok (.iconst (-1), 1) := by decide +kernel
theorem dX6_worth_96 : decode cX6_worth 96 = .ok (.ixor, 1) := by decide +kernel
theorem dX6_worth_97 : decode cX6_worth 97 = .ok (.iand, 1) := by decide +kernel
theorem dX6_worth_98 : decode cX6_worth 98 = .ok (.iastore, 1) := by decide +kernel
theorem dX6_worth_99 : decode cX6_worth 99 = .ok (.iload_n 2, 1) := by decide +kernel
theorem dX6_worth_100 : decode cX6_worth 100 = .ok (.ifCond .ne 15, 3) := by decide +kernel
theorem dX6_worth_103 : decode cX6_worth 103 = .ok (.iload 5, 2) := by decide +kernel
theorem dX6_worth_105 : decode cX6_worth 105 = .ok (.ifCond .ge 7, 3) := by decide +kernel
theorem dX6_worth_108 : decode cX6_worth 108 = .ok (.iconst 0, 1) := by decide +kernel
theorem dX6_worth_109 : decode cX6_worth 109 = .ok (.goto 5, 3) := by decide +kernel
theorem dX6_worth_112 : decode cX6_worth 112 = .ok (.iload 5, 2) := by decide +kernel
theorem dX6_worth_114 : decode cX6_worth 114 = .ok (.ireturn, 1) := by decide +kernel
theorem dX6_worth_115 : decode cX6_worth 115 = .ok (.iload 4, 2) := by decide +kernel
theorem dX6_worth_117 : decode cX6_worth 117 = .ok (.bipush (-4), 2) := by decide +kernel
theorem dX6_worth_119 : decode cX6_worth 119 = .ok (.if_icmp .eq 10, 3) := by decide +kernel
theorem dX6_worth_122 : decode cX6_worth 122 = .ok (.iload 6, 2) := by decide +kernel
theorem dX6_worth_124 : decode cX6_worth 124 = .ok (.bipush (-4), 2) := by decide +kernel
theorem dX6_worth_126 : decode cX6_worth 126 = .ok (.if_icmp .ne 8, 3) := by decide +kernel
theorem dX6_worth_129 : decode cX6_worth 129 = .ok (.bipush (-4), 2) := by decide +kernel
theorem dX6_worth_131 : decode cX6_worth 131 = .ok (.goto 8, 3) := by decide +kernel
theorem dX6_worth_134 : decode cX6_worth 134 = .ok (.iload 4, 2) := by decide +kernel
theorem dX6_worth_136 : decode cX6_worth 136 = .ok (.iload 6, 2) := by decide +kernel
theorem dX6_worth_138 : decode cX6_worth 138 = .ok (.isub, 1) := by decide +kernel
theorem dX6_worth_139 : decode cX6_worth 139 = .ok (.ireturn, 1) := by decide +kernel
set_option maxRecDepth 20000 in
theorem ggX6_see_X6_isTask : GoodIn wsX6_see wsX6_isTask := goodIn_r _ [7, 8, 9, 10, 6, 11, 12, 13, 14, 15, 16, 17, 18, 19, 20, 21, 22, 23, 24, 25, 26, 27, 28, 29, 30, 31, 32, 33, 34] (by decide +kernel) (by decide +kernel)
set_option maxRecDepth 20000 in
theorem gX6_see_X6_isTask : GoodIn wsX6_see (wsV RX6 122 RX6 yX6_isTask wsX6_isTask) := goodIn_app (goodIn_of _ (by decide +kernel)) ggX6_see_X6_isTask
set_option maxRecDepth 20000 in
theorem ggX6_see_X6_in : GoodIn wsX6_see wsX6_in := goodIn_r _ [11] (by decide +kernel) (by decide +kernel)
set_option maxRecDepth 20000 in
theorem gX6_see_X6_in : GoodIn wsX6_see (va_wsS RX6 69 yX6_in wsX6_in) := goodIn_app (goodIn_of _ (by decide +kernel)) ggX6_see_X6_in
theorem dX6_see_0 : decode cX6_see 0 = .ok (.aload_n 0, 1) := by decide +kernel
theorem dX6_see_1 : decode cX6_see 1 = .ok (.iload_n 1, 1) := by decide +kernel
theorem dX6_see_2 : decode cX6_see 2 = .ok (.invokevirtual 122, 3) := by decide +kernel
theorem dX6_see_5 : decode cX6_see 5 = .ok (.ifCond .eq 13, 3) := by decide +kernel
theorem dX6_see_8 : decode cX6_see 8 = .ok (.iload_n 2, 1) := by decide +kernel
theorem dX6_see_9 : decode cX6_see 9 = .ok (.iconst 1, 1) := by decide +kernel
theorem dX6_see_10 : decode cX6_see 10 = .ok (.bipush 8, 2) := by decide +kernel
theorem dX6_see_12 : decode cX6_see 12 = .ok (.invokestatic 69, 3) := by decide +kernel
theorem dX6_see_15 : decode cX6_see 15 = .ok (.ifCond .ne 5, 3) := by decide +kernel
theorem dX6_see_18 : decode cX6_see 18 = .ok (.iconst (-1), 1) := by decide +kernel
theorem dX6_see_19 : decode cX6_see 19 = .ok (.ireturn, 1) := by decide +kernel
theorem dX6_see_20 : decode cX6_see 20 = .ok (.aload_n 0, 1) := by decide +kernel
theorem dX6_see_21 : decode cX6_see 21 = .ok (.getfield 105, 3) := by decide +kernel
theorem dX6_see_24 : decode cX6_see 24 = .ok (.bipush 6, 2) := by decide +kernel
theorem dX6_see_26 : decode cX6_see 26 = .ok (.if_icmp .ne 6, 3) := by decide +kernel
theorem dX6_see_29 : decode cX6_see 29 = .ok (.bipush (-3), 2) := by decide +kernel
theorem dX6_see_31 : decode cX6_see 31 = .ok (.ireturn, 1) := by decide +kernel
theorem dX6_see_32 : decode cX6_see 32 = .ok (.aload_n 0, 1) := by decide +kernel
theorem dX6_see_33 : decode cX6_see 33 = .ok (.getfield 28, 3) := by decide +kernel
theorem dX6_see_36 : decode cX6_see 36 = .ok (.aload_n 0, 1) := by decide +kernel
theorem dX6_see_37 : decode cX6_see 37 = .ok (.getfield 105, 3) := by decide +kernel
theorem dX6_see_40 : decode cX6_see 40 = .ok (.bipush 10, 2) := by decide +kernel
theorem dX6_see_42 : decode cX6_see 42 = .ok (.iload_n 1, 1) := by decide +kernel
theorem dX6_see_43 : decode cX6_see 43 = .ok (.imul, 1) := by decide +kernel
theorem dX6_see_44 : decode cX6_see 44 = .ok (.iload_n 2, 1) := by decide +kernel
theorem dX6_see_45 : decode cX6_see 45 = .ok (.iadd, 1) := by decide +kernel
theorem dX6_see_46 : decode cX6_see 46 = .ok (.iastore, 1) := by decide +kernel
theorem dX6_see_47 : decode cX6_see 47 = .ok (.aload_n 0, 1) := by decide +kernel
theorem dX6_see_48 : decode cX6_see 48 = .ok (.dup, 1) := by decide +kernel
theorem dX6_see_49 : decode cX6_see 49 = .ok (.getfield 105, 3) := by decide +kernel
theorem dX6_see_52 : decode cX6_see 52 = .ok (.iconst 1, 1) := by decide +kernel
theorem dX6_see_53 : decode cX6_see 53 = .ok (.iadd, 1) := by decide +kernel
theorem dX6_see_54 : decode cX6_see 54 = .ok (.putfield 105, 3) := by decide +kernel
theorem dX6_see_57 : decode cX6_see 57 = .ok (.aload_n 0, 1) := by decide +kernel
theorem dX6_see_58 : decode cX6_see 58 = .ok (.getfield 105, 3) := by decide +kernel
theorem dX6_see_61 : decode cX6_see 61 = .ok (.ireturn, 1) := by decide +kernel
theorem dX6_forget_0 : decode cX6_forget 0 = .ok (.aload_n 0, 1) := by decide +kernel
theorem dX6_forget_1 : decode cX6_forget 1 = .ok (.getfield 105, 3) := by decide +kernel
theorem dX6_forget_4 : decode cX6_forget 4 = .ok (.istore_n 1, 1) := by decide +kernel
theorem dX6_forget_5 : decode cX6_forget 5 = .ok (.aload_n 0, 1) := by decide +kernel
theorem dX6_forget_6 : decode cX6_forget 6 = .ok (.iconst 0, 1) := by decide +kernel
theorem dX6_forget_7 : decode cX6_forget 7 = .ok (.putfield 105, 3) := by decide +kernel
theorem dX6_forget_10 : decode cX6_forget 10 = .ok (.iload_n 1, 1) := by decide +kernel
theorem dX6_forget_11 : decode cX6_forget 11 = .ok (.ireturn, 1) := by decide +kernel
set_option maxRecDepth 20000 in
theorem ggX6_rows_X6_in : GoodIn wsX6_rows wsX6_in := goodIn_r _ [7] (by decide +kernel) (by decide +kernel)
set_option maxRecDepth 20000 in
theorem gX6_rows_X6_in : GoodIn wsX6_rows (va_wsS RX6 69 yX6_in wsX6_in) := goodIn_app (goodIn_of _ (by decide +kernel)) ggX6_rows_X6_in
set_option maxRecDepth 20000 in
theorem ggX6_rows_X6_walks : GoodIn wsX6_rows wsX6_walks := goodIn_r _ [11, 1, 2, 12, 13, 14, 15, 16, 17, 18, 19, 20, 21, 22, 6, 23, 24, 25, 26, 27, 28, 29, 30, 31, 3, 32, 33, 34, 35, 36, 37, 38, 39, 40, 41, 42, 43, 44, 45, 46, 47, 48, 49, 50, 51, 52, 53, 54, 55, 56, 57, 58, 59, 60, 61, 62, 63, 64, 65, 66, 67, 68, 69, 70, 71, 72] (by decide +kernel) (by decide +kernel)
set_option maxRecDepth 20000 in
theorem gX6_rows_X6_walks : GoodIn wsX6_rows (wsV RX6 169 RX6 yX6_walks wsX6_walks) := goodIn_app (goodIn_of _ (by decide +kernel)) ggX6_rows_X6_walks
theorem dX6_rows_0 : decode cX6_rows 0 = .ok (.iload_n 1, 1) := by decide +kernel
theorem dX6_rows_1 : decode cX6_rows 1 = .ok (.iconst 0, 1) := by decide +kernel
theorem dX6_rows_2 : decode cX6_rows 2 = .ok (.bipush 8, 2) := by decide +kernel
theorem dX6_rows_4 : decode cX6_rows 4 = .ok (.invokestatic 69, 3) := by decide +kernel
theorem dX6_rows_7 : decode cX6_rows 7 = .ok (.ifCond .ne 5, 3) := by decide +kernel
theorem dX6_rows_10 : decode cX6_rows 10 = .ok (.iconst (-1), 1) := by decide +kernel
theorem dX6_rows_11 : decode cX6_rows 11 = .ok (.ireturn, 1) := by decide +kernel
theorem dX6_rows_12 : decode cX6_rows 12 = .ok (.aload_n 0, 1) := by decide +kernel
theorem dX6_rows_13 : decode cX6_rows 13 = .ok (.iconst 1, 1) := by decide +kernel
theorem dX6_rows_14 : decode cX6_rows 14 = .ok (.iconst 0, 1) := by decide +kernel
theorem dX6_rows_15 : decode cX6_rows 15 = .ok (.invokevirtual 169, 3) := by decide +kernel
theorem dX6_rows_18 : decode cX6_rows 18 = .ok (.iload_n 1, 1) := by decide +kernel
theorem dX6_rows_19 : decode cX6_rows 19 = .ok (.ifCond .ne 10, 3) := by decide +kernel
theorem dX6_rows_22 : decode cX6_rows 22 = .ok (.aload_n 0, 1) := by decide +kernel
theorem dX6_rows_23 : decode cX6_rows 23 = .ok (.getfield 159, 3) := by decide +kernel
theorem dX6_rows_26 : decode cX6_rows 26 = .ok (.goto 24, 3) := by decide +kernel
theorem dX6_rows_29 : decode cX6_rows 29 = .ok (.iload_n 1, 1) := by decide +kernel
theorem dX6_rows_30 : decode cX6_rows 30 = .ok (.aload_n 0, 1) := by decide +kernel
theorem dX6_rows_31 : decode cX6_rows 31 = .ok (.getfield 162, 3) := by decide +kernel
theorem dX6_rows_34 : decode cX6_rows 34 = .ok (.if_icmp .le 8, 3) := by decide +kernel
theorem dX6_rows_37 : decode cX6_rows 37 = .ok (.bipush (-4), 2) := by decide +kernel
theorem dX6_rows_39 : decode cX6_rows 39 = .ok (.goto 11, 3) := by decide +kernel
theorem dX6_rows_42 : decode cX6_rows 42 = .ok (.aload_n 0, 1) := by decide +kernel
theorem dX6_rows_43 : decode cX6_rows 43 = .ok (.getfield 49, 3) := by decide +kernel
theorem dX6_rows_46 : decode cX6_rows 46 = .ok (.iload_n 1, 1) := by decide +kernel
theorem dX6_rows_47 : decode cX6_rows 47 = .ok (.iconst 1, 1) := by decide +kernel
theorem dX6_rows_48 : decode cX6_rows 48 = .ok (.isub, 1) := by decide +kernel
theorem dX6_rows_49 : decode cX6_rows 49 = .ok (.iaload, 1) := by decide +kernel
theorem dX6_rows_50 : decode cX6_rows 50 = .ok (.ireturn, 1) := by decide +kernel
set_option maxRecDepth 20000 in
theorem ggX6_forWhat_X6_isTask : GoodIn wsX6_forWhat wsX6_isTask := goodIn_r _ [7, 2, 8, 9, 6, 10, 19, 20, 21, 22, 23, 24, 25, 26, 27, 28, 29, 30, 31, 32, 33, 34, 35, 36, 37, 38, 39, 40, 41] (by decide +kernel) (by decide +kernel)
set_option maxRecDepth 20000 in
theorem gX6_forWhat_X6_isTask : GoodIn wsX6_forWhat (wsV RX6 122 RX6 yX6_isTask wsX6_isTask) := goodIn_app (goodIn_of _ (by decide +kernel)) ggX6_forWhat_X6_isTask
set_option maxRecDepth 20000 in
theorem ggX6_forWhat_X6_comes : GoodIn wsX6_forWhat wsX6_comes := goodIn_r _ [14, 2, 1, 15, 16, 17, 6, 18, 19, 20, 21, 22, 23, 24, 25, 26, 27, 28, 29, 30, 31, 32, 33, 34, 35, 36, 37, 38, 39, 40, 41] (by decide +kernel) (by decide +kernel)
set_option maxRecDepth 20000 in
theorem gX6_forWhat_X6_comes : GoodIn wsX6_forWhat (wsV RX6 153 RX6 yX6_comes wsX6_comes) := goodIn_app (goodIn_of _ (by decide +kernel)) ggX6_forWhat_X6_comes
theorem dX6_forWhat_0 : decode cX6_forWhat 0 = .ok (.aload_n 0, 1) := by decide +kernel
theorem dX6_forWhat_1 : decode cX6_forWhat 1 = .ok (.iload_n 1, 1) := by decide +kernel
theorem dX6_forWhat_2 : decode cX6_forWhat 2 = .ok (.invokevirtual 122, 3) := by decide +kernel
theorem dX6_forWhat_5 : decode cX6_forWhat 5 = .ok (.ifCond .ne 5, 3) := by decide +kernel
theorem dX6_forWhat_8 : decode cX6_forWhat 8 = .ok (.iconst (-1), 1) := by decide +kernel
theorem dX6_forWhat_9 : decode cX6_forWhat 9 = .ok (.ireturn, 1) := by decide +kernel
theorem dX6_forWhat_10 : decode cX6_forWhat 10 = .ok (.aload_n 0, 1) := by decide +kernel
theorem dX6_forWhat_11 : decode cX6_forWhat 11 = .ok (.getfield 19, 3) := by decide +kernel
theorem dX6_forWhat_14 : decode cX6_forWhat 14 = .ok (.iconst 1, 1) := by decide +kernel
theorem dX6_forWhat_15 : decode cX6_forWhat 15 = .ok (.iaload, 1) := by decide +kernel
theorem dX6_forWhat_16 : decode cX6_forWhat 16 = .ok (.iload_n 1, 1) := by decide +kernel
theorem dX6_forWhat_17 : decode cX6_forWhat 17 = .ok (.ishr, 1) := by decide +kernel
theorem dX6_forWhat_18 : decode cX6_forWhat 18 = .ok (.iconst 1, 1) := by decide +kernel
theorem dX6_forWhat_19 : decode cX6_forWhat 19 = .ok (.iand, 1) := by decide +kernel
theorem dX6_forWhat_20 : decode cX6_forWhat 20 = .ok (.iconst 1, 1) := by decide +kernel
theorem dX6_forWhat_21 : decode cX6_forWhat 21 = .ok (.if_icmp .ne 6, 3) := by decide +kernel
theorem dX6_forWhat_24 : decode cX6_forWhat 24 = .ok (.bipush (-2), 2) := by decide +kernel
theorem dX6_forWhat_26 : decode cX6_forWhat 26 = .ok (.ireturn, 1) := by decide +kernel
theorem dX6_forWhat_27 : decode cX6_forWhat 27 = .ok (.aload_n 0, 1) := by decide +kernel
theorem dX6_forWhat_28 : decode cX6_forWhat 28 = .ok (.getfield 19, 3) := by decide +kernel
theorem dX6_forWhat_31 : decode cX6_forWhat 31 = .ok (.iconst 0, 1) := by decide +kernel
theorem dX6_forWhat_32 : decode cX6_forWhat 32 = .ok (.iaload, 1) := by decide +kernel
theorem dX6_forWhat_33 : decode cX6_forWhat 33 = .ok (.iload_n 1, 1) := by decide +kernel
theorem dX6_forWhat_34 : decode cX6_forWhat 34 = .ok (.ishr, 1) := by decide +kernel
theorem dX6_forWhat_35 : decode cX6_forWhat 35 = .ok (.iconst 1, 1) := by decide +kernel
theorem dX6_forWhat_36 : decode cX6_forWhat 36 = .ok (.iand, 1) := by decide +kernel
theorem dX6_forWhat_37 : decode cX6_forWhat 37 = .ok (.iconst 1, 1) := by decide +kernel
theorem dX6_forWhat_38 : decode cX6_forWhat 38 = .ok (.if_icmp .ne 7, 3) := by decide +kernel
theorem dX6_forWhat_41 : decode cX6_forWhat 41 = .ok (.iconst 1, 1) := by decide +kernel
theorem dX6_forWhat_42 : decode cX6_forWhat 42 = .ok (.iload_n 1, 1) := by decide +kernel
theorem dX6_forWhat_43 : decode cX6_forWhat 43 = .ok (.ishl, 1) := by decide +kernel
theorem dX6_forWhat_44 : decode cX6_forWhat 44 = .ok (.ireturn, 1) := by decide +kernel
theorem dX6_forWhat_45 : decode cX6_forWhat 45 = .ok (.iconst 0, 1) := by decide +kernel
theorem dX6_forWhat_46 : decode cX6_forWhat 46 = .ok (.istore_n 2, 1) := by decide +kernel
theorem dX6_forWhat_47 : decode cX6_forWhat 47 = .ok (.iconst 0, 1) := by decide +kernel
theorem dX6_forWhat_48 : decode cX6_forWhat 48 = .ok (.istore_n 3, 1) := by decide +kernel
theorem dX6_forWhat_49 : decode cX6_forWhat 49 = .ok (.iload_n 3, 1) := by decide +kernel
theorem dX6_forWhat_50 : decode cX6_forWhat 50 = .ok (.aload_n 0, 1) := by decide +kernel
theorem dX6_forWhat_51 : decode cX6_forWhat 51 = .ok (.getfield 13, 3) := by decide +kernel
theorem dX6_forWhat_54 : decode cX6_forWhat 54 = .ok (.iconst 0, 1) := by decide +kernel
theorem dX6_forWhat_55 : decode cX6_forWhat 55 = .ok (.iaload, 1) := by decide +kernel
theorem dX6_forWhat_56 : decode cX6_forWhat 56 = .ok (.if_icmp .ge 49, 3) := by decide +kernel
theorem dX6_forWhat_59 : decode cX6_forWhat 59 = .ok (.iload_n 2, 1) := by decide +kernel
theorem dX6_forWhat_60 : decode cX6_forWhat 60 = .ok (.iload_n 3, 1) := by decide +kernel
theorem dX6_forWhat_61 : decode cX6_forWhat 61 = .ok (.iload_n 1, 1) := by decide +kernel
theorem dX6_forWhat_62 : decode cX6_forWhat 62 = .ok (.if_icmp .eq 34, 3) := by decide +kernel
theorem dX6_forWhat_65 : decode cX6_forWhat 65 = .ok (.aload_n 0, 1) := by decide +kernel
theorem dX6_forWhat_66 : decode cX6_forWhat 66 = .ok (.invokevirtual 153, 3) := by decide +kernel
theorem dX6_forWhat_69 : decode cX6_forWhat 69 = .ok (.iload_n 3, 1) := by decide +kernel
theorem dX6_forWhat_70 : decode cX6_forWhat 70 = .ok (.ishr, 1) := by decide +kernel
theorem dX6_forWhat_71 : decode cX6_forWhat 71 = .ok (.iconst 1, 1) := by decide +kernel
theorem dX6_forWhat_72 : decode cX6_forWhat 72 = .ok (.iand, 1) := by decide +kernel
theorem dX6_forWhat_73 : decode cX6_forWhat 73 = .ok (.iconst 1, 1) := by decide +kernel
theorem dX6_forWhat_74 : decode cX6_forWhat 74 = .ok (.if_icmp .ne 22, 3) := by decide +kernel
theorem dX6_forWhat_77 : decode cX6_forWhat 77 = .ok (.aload_n 0, 1) := by decide +kernel
theorem dX6_forWhat_78 : decode cX6_forWhat 78 = .ok (.getfield 13, 3) := by decide +kernel
theorem dX6_forWhat_81 : decode cX6_forWhat 81 = .ok (.bipush 29, 2) := by decide +kernel
theorem dX6_forWhat_83 : decode cX6_forWhat 83 = .ok (.iload_n 3, 1) := by decide +kernel
theorem dX6_forWhat_84 : decode cX6_forWhat 84 = .ok (.iadd, 1) := by decide +kernel
theorem dX6_forWhat_85 : decode cX6_forWhat 85 = .ok (.iaload, 1) := by decide +kernel
theorem dX6_forWhat_86 : decode cX6_forWhat 86 = .ok (.iload_n 1, 1) := by decide +kernel
theorem dX6_forWhat_87 : decode cX6_forWhat 87 = .ok (.if_icmp .ne 9, 3) := by decide +kernel
theorem dX6_forWhat_90 : decode cX6_forWhat 90 = .ok (.iconst 1, 1) := by decide +kernel
theorem dX6_forWhat_91 : decode cX6_forWhat 91 = .ok (.iload_n 3, 1) := by decide +kernel
theorem dX6_forWhat_92 : decode cX6_forWhat 92 = .ok (.ishl, 1) := by decide +kernel
theorem dX6_forWhat_93 : decode cX6_forWhat 93 = .ok (.goto 4, 3) := by decide +kernel
theorem dX6_forWhat_96 : decode cX6_forWhat 96 = .ok (.iconst 0, 1) := by decide +kernel
theorem dX6_forWhat_97 : decode cX6_forWhat 97 = .ok (.ior, 1) := by decide +kernel
theorem dX6_forWhat_98 : decode cX6_forWhat 98 = .ok (.istore_n 2, 1) := by decide +kernel
theorem dX6_forWhat_99 : decode cX6_forWhat 99 = .ok (.iinc 3 1, 3) := by decide +kernel
theorem dX6_forWhat_102 : decode cX6_forWhat 102 = .ok (.goto (-53), 3) := by decide +kernel
theorem dX6_forWhat_105 : decode cX6_forWhat 105 = .ok (.iload_n 2, 1) := by decide +kernel
theorem dX6_forWhat_106 : decode cX6_forWhat 106 = .ok (.ireturn, 1) := by decide +kernel
set_option maxRecDepth 20000 in
theorem ggX6_grooms_X6_in : GoodIn wsX6_grooms wsX6_in := goodIn_r _ [7] (by decide +kernel) (by decide +kernel)
set_option maxRecDepth 20000 in
theorem gX6_grooms_X6_in : GoodIn wsX6_grooms (va_wsS RX6 69 yX6_in wsX6_in) := goodIn_app (goodIn_of _ (by decide +kernel)) ggX6_grooms_X6_in
set_option maxRecDepth 20000 in
theorem ggX6_grooms_X6_silent : GoodIn wsX6_grooms wsX6_silent := goodIn_r _ [11, 2, 1, 12, 13, 14, 6, 15, 57, 58, 59, 60, 61, 62, 63, 64, 65, 66, 67, 68, 69, 70, 71, 72, 73, 74, 75, 76, 77, 78, 79] (by decide +kernel) (by decide +kernel)
set_option maxRecDepth 20000 in
theorem gX6_grooms_X6_silent : GoodIn wsX6_grooms (wsV RX6 147 RX6 yX6_silent wsX6_silent) := goodIn_app (goodIn_of _ (by decide +kernel)) ggX6_grooms_X6_silent
set_option maxRecDepth 20000 in
theorem ggX6_grooms_X6_ones : GoodIn wsX6_grooms wsX6_ones := goodIn_r _ [18] (by decide +kernel) (by decide +kernel)
set_option maxRecDepth 20000 in
theorem gX6_grooms_X6_ones : GoodIn wsX6_grooms (va_wsS RX6 150 yX6_ones wsX6_ones) := goodIn_app (goodIn_of _ (by decide +kernel)) ggX6_grooms_X6_ones
set_option maxRecDepth 20000 in
theorem ggX6_grooms_X6_walks : GoodIn wsX6_grooms wsX6_walks := goodIn_r _ [22, 3, 23, 24, 1, 25, 26, 27, 28, 2, 29, 12, 13, 14, 6, 15, 30, 31, 32, 33, 34, 35, 36, 37, 38, 39, 40, 41, 42, 43, 44, 45, 46, 47, 48, 49, 50, 51, 52, 53, 54, 55, 56, 57, 58, 59, 60, 61, 62, 63, 64, 65, 66, 67, 68, 69, 70, 71, 72, 73, 74, 75, 76, 77, 78, 79] (by decide +kernel) (by decide +kernel)
set_option maxRecDepth 20000 in
theorem gX6_grooms_X6_walks : GoodIn wsX6_grooms (wsV RX6 169 RX6 yX6_walks wsX6_walks) := goodIn_app (goodIn_of _ (by decide +kernel)) ggX6_grooms_X6_walks
theorem dX6_grooms_0 : decode cX6_grooms 0 = .ok (.iload_n 1, 1) := by decide +kernel
theorem dX6_grooms_1 : decode cX6_grooms 1 = .ok (.iconst 0, 1) := by decide +kernel
theorem dX6_grooms_2 : decode cX6_grooms 2 = .ok (.bipush 10, 2) := by decide +kernel
theorem dX6_grooms_4 : decode cX6_grooms 4 = .ok (.invokestatic 69, 3) := by decide +kernel
theorem dX6_grooms_7 : decode cX6_grooms 7 = .ok (.ifCond .eq 12, 3) := by decide +kernel
theorem dX6_grooms_10 : decode cX6_grooms 10 = .ok (.iload_n 2, 1) := by decide +kernel
theorem dX6_grooms_11 : decode cX6_grooms 11 = .ok (.iconst 0, 1) := by decide +kernel
theorem dX6_grooms_12 : decode cX6_grooms 12 = .ok (.iconst 1, 1) := by decide +kernel
theorem dX6_grooms_13 : decode cX6_grooms 13 = .ok (.invokestatic 69, 3) := by decide +kernel
theorem dX6_grooms_16 : decode cX6_grooms 16 = .ok (.ifCond .ne 5, 3) := by decide +kernel
theorem dX6_grooms_19 : decode cX6_grooms 19 = .ok (.iconst (-1), 1) := by decide +kernel
theorem dX6_grooms_20 : decode cX6_grooms 20 = .ok (.ireturn, 1) := by decide +kernel
theorem dX6_grooms_21 : decode cX6_grooms 21 = .ok (.aload_n 0, 1) := by decide +kernel
theorem dX6_grooms_22 : decode cX6_grooms 22 = .ok (.invokevirtual 147, 3) := by decide +kernel
theorem dX6_grooms_25 : decode cX6_grooms 25 = .ok (.istore_n 3, 1) := by decide +kernel
theorem dX6_grooms_26 : decode cX6_grooms 26 = .ok (.aload_n 0, 1) := by decide +kernel
theorem dX6_grooms_27 : decode cX6_grooms 27 = .ok (.getfield 19, 3) := by decide +kernel
theorem dX6_grooms_30 : decode cX6_grooms 30 = .ok (.iconst 0, 1) := by decide +kernel
theorem dX6_grooms_31 : decode cX6_grooms 31 = .ok (.iaload, 1) := by decide +kernel
theorem dX6_grooms_32 : decode cX6_grooms 32 = .ok (.istore 4, 2) := by decide +kernel
theorem dX6_grooms_34 : decode cX6_grooms 34 = .ok (.iconst 0, 1) := by decide +kernel
theorem dX6_grooms_35 : decode cX6_grooms 35 = .ok (.istore 5, 2) := by decide +kernel
theorem dX6_grooms_37 : decode cX6_grooms 37 = .ok (.iconst 1, 1) := by decide +kernel
theorem dX6_grooms_38 : decode cX6_grooms 38 = .ok (.istore 6, 2) := by decide +kernel
theorem dX6_grooms_40 : decode cX6_grooms 40 = .ok (.iconst 0, 1) := by decide +kernel
theorem dX6_grooms_41 : decode cX6_grooms 41 = .ok (.istore 7, 2) := by decide +kernel
theorem dX6_grooms_43 : decode cX6_grooms 43 = .ok (.iload 7, 2) := by decide +kernel
theorem dX6_grooms_45 : decode cX6_grooms 45 = .ok (.iload_n 3, 1) := by decide +kernel
theorem dX6_grooms_46 : decode cX6_grooms 46 = .ok (.invokestatic 150, 3) := by decide +kernel
theorem dX6_grooms_49 : decode cX6_grooms 49 = .ok (.if_icmp .ge 16, 3) := by decide +kernel
theorem dX6_grooms_52 : decode cX6_grooms 52 = .ok (.iload 6, 2) := by decide +kernel
theorem dX6_grooms_54 : decode cX6_grooms 54 = .ok (.bipush 10, 2) := by decide +kernel
theorem dX6_grooms_56 : decode cX6_grooms 56 = .ok (.imul, 1) := by decide +kernel
theorem dX6_grooms_57 : decode cX6_grooms 57 = .ok (.istore 6, 2) := by decide +kernel
theorem dX6_grooms_59 : decode cX6_grooms 59 = .ok (.iinc 7 1, 3) := by decide +kernel
theorem dX6_grooms_62 : decode cX6_grooms 62 = .ok (.goto (-19), 3) := by decide +kernel
theorem dX6_grooms_65 : decode cX6_grooms 65 = .ok (.iconst 0, 1) := by decide +kernel
theorem dX6_grooms_66 : decode cX6_grooms 66 = .ok (.istore 7, 2) := by decide +kernel
theorem dX6_grooms_68 : decode cX6_grooms 68 = .ok (.iload 7, 2) := by decide +kernel
theorem dX6_grooms_70 : decode cX6_grooms 70 = .ok (.iconst 1, 1) := by decide +kernel
theorem dX6_grooms_71 : decode cX6_grooms 71 = .ok (.aload_n 0, 1) := by decide +kernel
theorem dX6_grooms_72 : decode cX6_grooms 72 = .ok (.getfield 13, 3) := by decide +kernel
theorem dX6_grooms_75 : decode cX6_grooms 75 = .ok (.iconst 0, 1) := by decide +kernel
theorem dX6_grooms_76 : decode cX6_grooms 76 = .ok (.iaload, 1) := by decide +kernel
theorem dX6_grooms_77 : decode cX6_grooms 77 = .ok (.ishl, 1) := by decide +kernel
theorem dX6_grooms_78 : decode cX6_grooms 78 = .ok (.if_icmp .ge 113, 3) := by decide +kernel
theorem dX6_grooms_81 : decode cX6_grooms 81 = .ok (.iload 7, 2) := by decide +kernel
theorem dX6_grooms_83 : decode cX6_grooms 83 = .ok (.iload_n 3, 1) := by decide +kernel
theorem dX6_grooms_84 : decode cX6_grooms 84 = .ok (.iconst (-1), 1) := by decide +kernel
theorem dX6_grooms_85 : decode cX6_grooms 85 = .ok (.ixor, 1) := by decide +kernel
theorem dX6_grooms_86 : decode cX6_grooms 86 = .ok (.iand, 1) := by decide +kernel
theorem dX6_grooms_87 : decode cX6_grooms 87 = .ok (.ifCond .ne 98, 3) := by decide +kernel
theorem dX6_grooms_90 : decode cX6_grooms 90 = .ok (.iconst 1, 1) := by decide +kernel
theorem dX6_grooms_91 : decode cX6_grooms 91 = .ok (.istore 8, 2) := by decide +kernel
theorem dX6_grooms_93 : decode cX6_grooms 93 = .ok (.iconst 0, 1) := by decide +kernel
theorem dX6_grooms_94 : decode cX6_grooms 94 = .ok (.istore 9, 2) := by decide +kernel
theorem dX6_grooms_96 : decode cX6_grooms 96 = .ok (.iload 9, 2) := by decide +kernel
theorem dX6_grooms_98 : decode cX6_grooms 98 = .ok (.aload_n 0, 1) := by decide +kernel
theorem dX6_grooms_99 : decode cX6_grooms 99 = .ok (.getfield 13, 3) := by decide +kernel
theorem dX6_grooms_102 : decode cX6_grooms 102 = .ok (.iconst 0, 1) := by decide +kernel
theorem dX6_grooms_103 : decode cX6_grooms 103 = .ok (.iaload, 1) := by decide +kernel
theorem dX6_grooms_104 : decode cX6_grooms 104 = .ok (.if_icmp .ge 46, 3) := by decide +kernel
theorem dX6_grooms_107 : decode cX6_grooms 107 = .ok (.iload 8, 2) := by decide +kernel
theorem dX6_grooms_109 : decode cX6_grooms 109 = .ok (.iload_n 3, 1) := by decide +kernel
theorem dX6_grooms_110 : decode cX6_grooms 110 = .ok (.iload 9, 2) := by decide +kernel
theorem dX6_grooms_112 : decode cX6_grooms 112 = .ok (.ishr, 1) := by decide +kernel
theorem dX6_grooms_113 : decode cX6_grooms 113 = .ok (.iconst 1, 1) := by decide +kernel
theorem dX6_grooms_114 : decode cX6_grooms 114 = .ok (.iand, 1) := by decide +kernel
theorem dX6_grooms_115 : decode cX6_grooms 115 = .ok (.ifCond .ne 7, 3) := by decide +kernel
theorem dX6_grooms_118 : decode cX6_grooms 118 = .ok (.iconst 1, 1) := by decide +kernel
theorem dX6_grooms_119 : decode cX6_grooms 119 = .ok (.goto 22, 3) := by decide +kernel
theorem dX6_grooms_122 : decode cX6_grooms 122 = .ok (.iload 7, 2) := by decide +kernel
theorem dX6_grooms_124 : decode cX6_grooms 124 = .ok (.iload 9, 2) := by decide +kernel
theorem dX6_grooms_126 : decode cX6_grooms 126 = .ok (.ishr, 1) := by decide +kernel
theorem dX6_grooms_127 : decode cX6_grooms 127 = .ok (.iconst 1, 1) := by decide +kernel
theorem dX6_grooms_128 : decode cX6_grooms 128 = .ok (.iand, 1) := by decide +kernel
theorem dX6_grooms_129 : decode cX6_grooms 129 = .ok (.iconst 1, 1) := by decide +kernel
theorem dX6_grooms_130 : decode cX6_grooms 130 = .ok (.if_icmp .ne 7, 3) := by decide +kernel
theorem dX6_grooms_133 : decode cX6_grooms 133 = .ok (.iload_n 1, 1) := by decide +kernel
theorem dX6_grooms_134 : decode cX6_grooms 134 = .ok (.goto 7, 3) := by decide +kernel
theorem dX6_grooms_137 : decode cX6_grooms 137 = .ok (.bipush 10, 2) := by decide +kernel
theorem dX6_grooms_139 : decode cX6_grooms 139 = .ok (.iload_n 1, 1) := by decide +kernel
theorem dX6_grooms_140 : decode cX6_grooms 140 = .ok (.isub, 1) := by decide +kernel
theorem dX6_grooms_141 : decode cX6_grooms 141 = .ok (.imul, 1) := by decide +kernel
theorem dX6_grooms_142 : decode cX6_grooms 142 = .ok (.istore 8, 2) := by decide +kernel
theorem dX6_grooms_144 : decode cX6_grooms 144 = .ok (.iinc 9 1, 3) := by decide +kernel
theorem dX6_grooms_147 : decode cX6_grooms 147 = .ok (.goto (-51), 3) := by decide +kernel
theorem dX6_grooms_150 : decode cX6_grooms 150 = .ok (.aload_n 0, 1) := by decide +kernel
theorem dX6_grooms_151 : decode cX6_grooms 151 = .ok (.getfield 19, 3) := by decide +kernel
theorem dX6_grooms_154 : decode cX6_grooms 154 = .ok (.iconst 0, 1) := by decide +kernel
theorem dX6_grooms_155 : decode cX6_grooms 155 = .ok (.iload 4, 2) := by decide +kernel
theorem dX6_grooms_157 : decode cX6_grooms 157 = .ok (.iload 7, 2) := by decide +kernel
theorem dX6_grooms_159 : decode cX6_grooms 159 = .ok (.ior, 1) := by decide +kernel
theorem dX6_grooms_160 : decode cX6_grooms 160 = .ok (.iastore, 1) := by decide +kernel
theorem dX6_grooms_161 : decode cX6_grooms 161 = .ok (.aload_n 0, 1) := by decide +kernel
theorem dX6_grooms_162 : decode cX6_grooms 162 = .ok (.iconst 0, 1) := by decide +kernel
theorem dX6_grooms_163 : decode cX6_grooms 163 = .ok (.iconst 1, 1) := by decide +kernel
theorem dX6_grooms_164 : decode cX6_grooms 164 = .ok (.invokevirtual 169, 3) := by decide +kernel
theorem dX6_grooms_167 : decode cX6_grooms 167 = .ok (.iload 5, 2) := by decide +kernel
theorem dX6_grooms_169 : decode cX6_grooms 169 = .ok (.aload_n 0, 1) := by decide +kernel
theorem dX6_grooms_170 : decode cX6_grooms 170 = .ok (.getfield 159, 3) := by decide +kernel
theorem dX6_grooms_173 : decode cX6_grooms 173 = .ok (.ifCond .le 8, 3) := by decide +kernel
theorem dX6_grooms_176 : decode cX6_grooms 176 = .ok (.iload 8, 2) := by decide +kernel
theorem dX6_grooms_178 : decode cX6_grooms 178 = .ok (.goto 4, 3) := by decide +kernel
theorem dX6_grooms_181 : decode cX6_grooms 181 = .ok (.iconst 0, 1) := by decide +kernel
theorem dX6_grooms_182 : decode cX6_grooms 182 = .ok (.iadd, 1) := by decide +kernel
theorem dX6_grooms_183 : decode cX6_grooms 183 = .ok (.istore 5, 2) := by decide +kernel
theorem dX6_grooms_185 : decode cX6_grooms 185 = .ok (.iinc 7 1, 3) := by decide +kernel
theorem dX6_grooms_188 : decode cX6_grooms 188 = .ok (.goto (-120), 3) := by decide +kernel
theorem dX6_grooms_191 : decode cX6_grooms 191 = .ok (.aload_n 0, 1) := by decide +kernel
theorem dX6_grooms_192 : decode cX6_grooms 192 = .ok (.getfield 19, 3) := by decide +kernel
theorem dX6_grooms_195 : decode cX6_grooms 195 = .ok (.iconst 0, 1) := by decide +kernel
theorem dX6_grooms_196 : decode cX6_grooms 196 = .ok (.iload 4, 2) := by decide +kernel
theorem dX6_grooms_198 : decode cX6_grooms 198 = .ok (.iastore, 1) := by decide +kernel
theorem dX6_grooms_199 : decode cX6_grooms 199 = .ok (.iload 5, 2) := by decide +kernel
theorem dX6_grooms_201 : decode cX6_grooms 201 = .ok (.istore 7, 2) := by decide +kernel
theorem dX6_grooms_203 : decode cX6_grooms 203 = .ok (.iload 6, 2) := by decide +kernel
theorem dX6_grooms_205 : decode cX6_grooms 205 = .ok (.istore 8, 2) := by decide +kernel
theorem dX6_grooms_207 : decode cX6_grooms 207 = .ok (.iload 8, 2) := by decide +kernel
theorem dX6_grooms_209 : decode cX6_grooms 209 = .ok (.ifCond .le 21, 3) := by decide +kernel
theorem dX6_grooms_212 : decode cX6_grooms 212 = .ok (.iload 7, 2) := by decide +kernel
theorem dX6_grooms_214 : decode cX6_grooms 214 = .ok (.iload 8, 2) := by decide +kernel
theorem dX6_grooms_216 : decode cX6_grooms 216 = .ok (.irem, 1) := by decide +kernel
theorem dX6_grooms_217 : decode cX6_grooms 217 = .ok (.istore 9, 2) := by decide +kernel
theorem dX6_grooms_219 : decode cX6_grooms 219 = .ok (.iload 8, 2) := by decide +kernel
theorem dX6_grooms_221 : decode cX6_grooms 221 = .ok (.istore 7, 2) := by decide +kernel
theorem dX6_grooms_223 : decode cX6_grooms 223 = .ok (.iload 9, 2) := by decide +kernel
theorem dX6_grooms_225 : decode cX6_grooms 225 = .ok (.istore 8, 2) := by decide +kernel
theorem dX6_grooms_227 : decode cX6_grooms 227 = .ok (.goto (-20), 3) := by decide +kernel
theorem dX6_grooms_230 : decode cX6_grooms 230 = .ok (.iload_n 2, 1) := by decide +kernel
theorem dX6_grooms_231 : decode cX6_grooms 231 = .ok (.ifCond .ne 11, 3) := by decide +kernel
theorem dX6_grooms_234 : decode cX6_grooms 234 = .ok (.iload 5, 2) := by decide +kernel
theorem dX6_grooms_236 : decode cX6_grooms 236 = .ok (.iload 7, 2) := by decide +kernel
theorem dX6_grooms_238 : decode cX6_grooms 238 = .ok (.idiv, 1) := by decide +kernel
theorem dX6_grooms_239 : decode cX6_grooms 239 = .ok (.goto 8, 3) := by decide +kernel
theorem dX6_grooms_242 : decode cX6_grooms 242 = .ok (.iload 6, 2) := by decide +kernel
theorem dX6_grooms_244 : decode cX6_grooms 244 = .ok (.iload 7, 2) := by decide +kernel
theorem dX6_grooms_246 : decode cX6_grooms 246 = .ok (.idiv, 1) := by decide +kernel
theorem dX6_grooms_247 : decode cX6_grooms 247 = .ok (.ireturn, 1) := by decide +kernel
set_option maxRecDepth 20000 in
theorem ggX6_steps_X6_helpNow : GoodIn wsX6_steps wsX6_helpNow := goodIn_r _ [7, 2, 8, 9, 10, 6, 11, 1, 12, 13, 14, 15, 16, 17, 18, 19, 20, 21, 22, 23, 44, 45, 46, 47, 48, 49, 50, 51, 52, 53, 54, 55, 56, 57, 58, 59, 60, 61, 62, 63, 64, 65, 66] (by decide +kernel) (by decide +kernel)
set_option maxRecDepth 20000 in
theorem gX6_steps_X6_helpNow : GoodIn wsX6_steps (wsV RX6 125 RX6 yX6_helpNow wsX6_helpNow) := goodIn_app (goodIn_of _ (by decide +kernel)) ggX6_steps_X6_helpNow
set_option maxRecDepth 20000 in
theorem ggX6_steps_X6_rides : GoodIn wsX6_steps wsX6_rides := goodIn_r _ [27, 2, 1, 3, 4, 5, 6, 7, 8, 9, 10, 11, 12, 13, 14, 15, 16, 17, 18, 19, 20, 21, 22, 23, 28, 29, 30, 31, 44, 45, 46, 47, 48, 49, 50, 51, 52, 53, 54, 55, 56, 57, 58, 59, 60, 61, 62, 63, 64, 65, 66] (by decide +kernel) (by decide +kernel)
set_option maxRecDepth 20000 in
theorem gX6_steps_X6_rides : GoodIn wsX6_steps (wsV RX6 144 RX6 yX6_rides wsX6_rides) := goodIn_app (goodIn_of _ (by decide +kernel)) ggX6_steps_X6_rides
set_option maxRecDepth 20000 in
theorem ggX6_steps_X6_canBefriend : GoodIn wsX6_steps wsX6_canBefriend := goodIn_r _ [35, 2, 1, 44, 45, 46, 47, 48, 49, 50, 51, 52, 53, 54, 55, 56, 57, 58, 59, 60, 61, 62, 63, 64, 65, 66] (by decide +kernel) (by decide +kernel)
set_option maxRecDepth 20000 in
theorem gX6_steps_X6_canBefriend : GoodIn wsX6_steps (wsV RX6 131 RX6 yX6_canBefriend wsX6_canBefriend) := goodIn_app (goodIn_of _ (by decide +kernel)) ggX6_steps_X6_canBefriend
set_option maxRecDepth 20000 in
theorem ggX6_steps_X6_befriends : GoodIn wsX6_steps wsX6_befriends := goodIn_r _ [39, 2, 1, 44, 45, 46, 47, 48, 49, 50, 51, 52, 53, 54, 55, 56, 57, 58, 59, 60, 61, 62, 63, 64, 65, 66] (by decide +kernel) (by decide +kernel)
set_option maxRecDepth 20000 in
theorem gX6_steps_X6_befriends : GoodIn wsX6_steps (wsV RX6 137 RX6 yX6_befriends wsX6_befriends) := goodIn_app (goodIn_of _ (by decide +kernel)) ggX6_steps_X6_befriends
set_option maxRecDepth 20000 in
theorem ggX6_steps_X6_silent : GoodIn wsX6_steps wsX6_silent := goodIn_r _ [43, 1, 2, 8, 9, 10, 6, 11, 44, 45, 46, 47, 48, 49, 50, 51, 52, 53, 54, 55, 56, 57, 58, 59, 60, 61, 62, 63, 64, 65, 66] (by decide +kernel) (by decide +kernel)
set_option maxRecDepth 20000 in
theorem gX6_steps_X6_silent : GoodIn wsX6_steps (wsV RX6 147 RX6 yX6_silent wsX6_silent) := goodIn_app (goodIn_of _ (by decide +kernel)) ggX6_steps_X6_silent
theorem dX6_steps_0 : decode cX6_steps 0 = .ok (.iload_n 1, 1) := by decide +kernel
theorem dX6_steps_1 : decode cX6_steps 1 = .ok (.aload_n 0, 1) := by decide +kernel
theorem dX6_steps_2 : decode cX6_steps 2 = .ok (.getfield 13, 3) := by decide +kernel
theorem dX6_steps_5 : decode cX6_steps 5 = .ok (.iconst 0, 1) := by decide +kernel
theorem dX6_steps_6 : decode cX6_steps 6 = .ok (.iaload, 1) := by decide +kernel
theorem dX6_steps_7 : decode cX6_steps 7 = .ok (.irem, 1) := by decide +kernel
theorem dX6_steps_8 : decode cX6_steps 8 = .ok (.istore_n 2, 1) := by decide +kernel
theorem dX6_steps_9 : decode cX6_steps 9 = .ok (.aload_n 0, 1) := by decide +kernel
theorem dX6_steps_10 : decode cX6_steps 10 = .ok (.getfield 13, 3) := by decide +kernel
theorem dX6_steps_13 : decode cX6_steps 13 = .ok (.iconst 1, 1) := by decide +kernel
theorem dX6_steps_14 : decode cX6_steps 14 = .ok (.iaload, 1) := by decide +kernel
theorem dX6_steps_15 : decode cX6_steps 15 = .ok (.ifCond .ne 7, 3) := by decide +kernel
theorem dX6_steps_18 : decode cX6_steps 18 = .ok (.iconst 0, 1) := by decide +kernel
theorem dX6_steps_19 : decode cX6_steps 19 = .ok (.goto 14, 3) := by decide +kernel
theorem dX6_steps_22 : decode cX6_steps 22 = .ok (.iload_n 1, 1) := by decide +kernel
theorem dX6_steps_23 : decode cX6_steps 23 = .ok (.bipush 8, 2) := by decide +kernel
theorem dX6_steps_25 : decode cX6_steps 25 = .ok (.idiv, 1) := by decide +kernel
theorem dX6_steps_26 : decode cX6_steps 26 = .ok (.aload_n 0, 1) := by decide +kernel
theorem dX6_steps_27 : decode cX6_steps 27 = .ok (.getfield 13, 3) := by decide +kernel
theorem dX6_steps_30 : decode cX6_steps 30 = .ok (.iconst 1, 1) := by decide +kernel
theorem dX6_steps_31 : decode cX6_steps 31 = .ok (.iaload, 1) := by decide +kernel
theorem dX6_steps_32 : decode cX6_steps 32 = .ok (.irem, 1) := by decide +kernel
theorem dX6_steps_33 : decode cX6_steps 33 = .ok (.istore_n 3, 1) := by decide +kernel
theorem dX6_steps_34 : decode cX6_steps 34 = .ok (.aload_n 0, 1) := by decide +kernel
theorem dX6_steps_35 : decode cX6_steps 35 = .ok (.iload_n 2, 1) := by decide +kernel
theorem dX6_steps_36 : decode cX6_steps 36 = .ok (.invokevirtual 125, 3) := by decide +kernel
theorem dX6_steps_39 : decode cX6_steps 39 = .ok (.ifCond .lt 11, 3) := by decide +kernel
theorem dX6_steps_42 : decode cX6_steps 42 = .ok (.aload_n 0, 1) := by decide +kernel
theorem dX6_steps_43 : decode cX6_steps 43 = .ok (.iload_n 2, 1) := by decide +kernel
theorem dX6_steps_44 : decode cX6_steps 44 = .ok (.invokevirtual 144, 3) := by decide +kernel
theorem dX6_steps_47 : decode cX6_steps 47 = .ok (.goto 52, 3) := by decide +kernel
theorem dX6_steps_50 : decode cX6_steps 50 = .ok (.aload_n 0, 1) := by decide +kernel
theorem dX6_steps_51 : decode cX6_steps 51 = .ok (.getfield 13, 3) := by decide +kernel
theorem dX6_steps_54 : decode cX6_steps 54 = .ok (.iconst 1, 1) := by decide +kernel
theorem dX6_steps_55 : decode cX6_steps 55 = .ok (.iaload, 1) := by decide +kernel
theorem dX6_steps_56 : decode cX6_steps 56 = .ok (.ifCond .le 19, 3) := by decide +kernel
theorem dX6_steps_59 : decode cX6_steps 59 = .ok (.aload_n 0, 1) := by decide +kernel
theorem dX6_steps_60 : decode cX6_steps 60 = .ok (.iload_n 3, 1) := by decide +kernel
theorem dX6_steps_61 : decode cX6_steps 61 = .ok (.invokevirtual 131, 3) := by decide +kernel
theorem dX6_steps_64 : decode cX6_steps 64 = .ok (.ifCond .eq 11, 3) := by decide +kernel
theorem dX6_steps_67 : decode cX6_steps 67 = .ok (.aload_n 0, 1) := by decide +kernel
theorem dX6_steps_68 : decode cX6_steps 68 = .ok (.iload_n 3, 1) := by decide +kernel
theorem dX6_steps_69 : decode cX6_steps 69 = .ok (.invokevirtual 137, 3) := by decide +kernel
theorem dX6_steps_72 : decode cX6_steps 72 = .ok (.goto 27, 3) := by decide +kernel
theorem dX6_steps_75 : decode cX6_steps 75 = .ok (.aload_n 0, 1) := by decide +kernel
theorem dX6_steps_76 : decode cX6_steps 76 = .ok (.invokevirtual 147, 3) := by decide +kernel
theorem dX6_steps_79 : decode cX6_steps 79 = .ok (.iload_n 2, 1) := by decide +kernel
theorem dX6_steps_80 : decode cX6_steps 80 = .ok (.ishr, 1) := by decide +kernel
theorem dX6_steps_81 : decode cX6_steps 81 = .ok (.iconst 1, 1) := by decide +kernel
theorem dX6_steps_82 : decode cX6_steps 82 = .ok (.iand, 1) := by decide +kernel
theorem dX6_steps_83 : decode cX6_steps 83 = .ok (.iconst 1, 1) := by decide +kernel
theorem dX6_steps_84 : decode cX6_steps 84 = .ok (.if_icmp .ne 15, 3) := by decide +kernel
theorem dX6_steps_87 : decode cX6_steps 87 = .ok (.aload_n 0, 1) := by decide +kernel
theorem dX6_steps_88 : decode cX6_steps 88 = .ok (.getfield 19, 3) := by decide +kernel
theorem dX6_steps_91 : decode cX6_steps 91 = .ok (.iconst 0, 1) := by decide +kernel
theorem dX6_steps_92 : decode cX6_steps 92 = .ok (.dup2, 1) := by decide +kernel
theorem dX6_steps_93 : decode cX6_steps 93 = .ok (.iaload, 1) := by decide +kernel
theorem dX6_steps_94 : decode cX6_steps 94 = .ok (.iconst 1, 1) := by decide +kernel
theorem dX6_steps_95 : decode cX6_steps 95 = .ok (.iload_n 2, 1) := by decide +kernel
theorem dX6_steps_96 : decode cX6_steps 96 = .ok (.ishl, 1) := by decide +kernel
theorem dX6_steps_97 : decode cX6_steps 97 = .ok (.ior, 1) := by decide +kernel
theorem dX6_steps_98 : decode cX6_steps 98 = .ok (.iastore, 1) := by decide +kernel
theorem dX6_steps_99 : decode cX6_steps 99 = .ok (.return_, 1) := by decide +kernel
set_option maxRecDepth 20000 in
theorem ggX6_king_X6_in : GoodIn wsX6_king wsX6_in := goodIn_r _ [9] (by decide +kernel) (by decide +kernel)
set_option maxRecDepth 20000 in
theorem gX6_king_X6_in : GoodIn wsX6_king (va_wsS RX6 69 yX6_in wsX6_in) := goodIn_app (goodIn_of _ (by decide +kernel)) ggX6_king_X6_in
set_option maxRecDepth 20000 in
theorem ggX6_king_X6_steps : GoodIn wsX6_king wsX6_steps := goodIn_r _ [13, 14, 2, 15, 16, 17, 8, 18, 19, 20, 21, 22, 23, 24, 25, 26, 27, 28, 29, 30, 31, 32, 33, 34, 35, 36, 37, 38, 39, 40, 41, 42, 43, 44, 45, 46, 47, 48, 49, 50, 51, 52, 53, 54, 58, 59, 60, 61, 62, 63, 64, 65, 66, 67, 68, 69, 70, 71, 72, 73, 74, 75, 76, 77, 78, 79, 80] (by decide +kernel) (by decide +kernel)
set_option maxRecDepth 20000 in
theorem gX6_king_X6_steps : GoodIn wsX6_king (wsV RX6 185 RX6 yX6_steps wsX6_steps) := goodIn_app (goodIn_of _ (by decide +kernel)) ggX6_king_X6_steps
set_option maxRecDepth 20000 in
theorem ggX6_king_X6_ones : GoodIn wsX6_king wsX6_ones := goodIn_r _ [57] (by decide +kernel) (by decide +kernel)
set_option maxRecDepth 20000 in
theorem gX6_king_X6_ones : GoodIn wsX6_king (va_wsS RX6 150 yX6_ones wsX6_ones) := goodIn_app (goodIn_of _ (by decide +kernel)) ggX6_king_X6_ones
set_option maxRecDepth 20000 in
theorem ggX6_king_X6_isLost : GoodIn wsX6_king wsX6_isLost := goodIn_r _ [22, 2, 14, 58, 59, 60, 61, 62, 63, 64, 65, 66, 67, 68, 69, 70, 71, 72, 73, 74, 75, 76, 77, 78, 79, 80] (by decide +kernel) (by decide +kernel)
set_option maxRecDepth 20000 in
theorem gX6_king_X6_isLost : GoodIn wsX6_king (wsV RX6 112 RX6 yX6_isLost wsX6_isLost) := goodIn_app (goodIn_of _ (by decide +kernel)) ggX6_king_X6_isLost
theorem dX6_king_0 : decode cX6_king 0 = .ok (.iload_n 1, 1) := by decide +kernel
theorem dX6_king_1 : decode cX6_king 1 = .ok (.iconst 0, 1) := by decide +kernel
theorem dX6_king_2 : decode cX6_king 2 = .ok (.sipush 9999, 3) := by decide +kernel
theorem dX6_king_5 : decode cX6_king 5 = .ok (.invokestatic 69, 3) := by decide +kernel
theorem dX6_king_8 : decode cX6_king 8 = .ok (.ifCond .eq 22, 3) := by decide +kernel
theorem dX6_king_11 : decode cX6_king 11 = .ok (.iload_n 2, 1) := by decide +kernel
theorem dX6_king_12 : decode cX6_king 12 = .ok (.iconst 1, 1) := by decide +kernel
theorem dX6_king_13 : decode cX6_king 13 = .ok (.bipush 40, 2) := by decide +kernel
theorem dX6_king_15 : decode cX6_king 15 = .ok (.invokestatic 69, 3) := by decide +kernel
theorem dX6_king_18 : decode cX6_king 18 = .ok (.ifCond .eq 12, 3) := by decide +kernel
theorem dX6_king_21 : decode cX6_king 21 = .ok (.iload_n 3, 1) := by decide +kernel
theorem dX6_king_22 : decode cX6_king 22 = .ok (.iconst 0, 1) := by decide +kernel
theorem dX6_king_23 : decode cX6_king 23 = .ok (.iconst 2, 1) := by decide +kernel
theorem dX6_king_24 : decode cX6_king 24 = .ok (.invokestatic 69, 3) := by decide +kernel
theorem dX6_king_27 : decode cX6_king 27 = .ok (.ifCond .ne 5, 3) := by decide +kernel
theorem dX6_king_30 : decode cX6_king 30 = .ok (.iconst (-1), 1) := by decide +kernel
theorem dX6_king_31 : decode cX6_king 31 = .ok (.ireturn, 1) := by decide +kernel
theorem dX6_king_32 : decode cX6_king 32 = .ok (.iconst 0, 1) := by decide +kernel
theorem dX6_king_33 : decode cX6_king 33 = .ok (.istore 4, 2) := by decide +kernel
theorem dX6_king_35 : decode cX6_king 35 = .ok (.iload 4, 2) := by decide +kernel
theorem dX6_king_37 : decode cX6_king 37 = .ok (.bipush 6, 2) := by decide +kernel
theorem dX6_king_39 : decode cX6_king 39 = .ok (.if_icmp .ge 23, 3) := by decide +kernel
theorem dX6_king_42 : decode cX6_king 42 = .ok (.aload_n 0, 1) := by decide +kernel
theorem dX6_king_43 : decode cX6_king 43 = .ok (.getfield 52, 3) := by decide +kernel
theorem dX6_king_46 : decode cX6_king 46 = .ok (.iload 4, 2) := by decide +kernel
theorem dX6_king_48 : decode cX6_king 48 = .ok (.aload_n 0, 1) := by decide +kernel
theorem dX6_king_49 : decode cX6_king 49 = .ok (.getfield 19, 3) := by decide +kernel
theorem dX6_king_52 : decode cX6_king 52 = .ok (.iload 4, 2) := by decide +kernel
theorem dX6_king_54 : decode cX6_king 54 = .ok (.iaload, 1) := by decide +kernel
theorem dX6_king_55 : decode cX6_king 55 = .ok (.iastore, 1) := by decide +kernel
theorem dX6_king_56 : decode cX6_king 56 = .ok (.iinc 4 1, 3) := by decide +kernel
theorem dX6_king_59 : decode cX6_king 59 = .ok (.goto (-24), 3) := by decide +kernel
theorem dX6_king_62 : decode cX6_king 62 = .ok (.iconst 0, 1) := by decide +kernel
theorem dX6_king_63 : decode cX6_king 63 = .ok (.istore 4, 2) := by decide +kernel
theorem dX6_king_65 : decode cX6_king 65 = .ok (.iload 4, 2) := by decide +kernel
theorem dX6_king_67 : decode cX6_king 67 = .ok (.iload_n 2, 1) := by decide +kernel
theorem dX6_king_68 : decode cX6_king 68 = .ok (.if_icmp .ge 43, 3) := by decide +kernel
theorem dX6_king_71 : decode cX6_king 71 = .ok (.ldc2_w 179, 3) := by decide +kernel
theorem dX6_king_74 : decode cX6_king 74 = .ok (.iload_n 1, 1) := by decide +kernel
theorem dX6_king_75 : decode cX6_king 75 = .ok (.i2l, 1) := by decide +kernel
theorem dX6_king_76 : decode cX6_king 76 = .ok (.lmul, 1) := by decide +kernel
theorem dX6_king_77 : decode cX6_king 77 = .ok (.ldc2_w 181, 3) := by decide +kernel
theorem dX6_king_80 : decode cX6_king 80 = .ok (.iload 4, 2) := by decide +kernel
theorem dX6_king_82 : decode cX6_king 82 = .ok (.i2l, 1) := by decide +kernel
theorem dX6_king_83 : decode cX6_king 83 = .ok (.lmul, 1) := by decide +kernel
theorem dX6_king_84 : decode cX6_king 84 = .ok (.ladd, 1) := by decide +kernel
theorem dX6_king_85 : decode cX6_king 85 = .ok (.lconst 1, 1) := by decide +kernel
theorem dX6_king_86 : decode cX6_king 86 = .ok (.ladd, 1) := by decide +kernel
theorem dX6_king_87 : decode cX6_king 87 = .ok (.lstore 5, 2) := by decide +kernel
theorem dX6_king_89 : decode cX6_king 89 = .ok (.aload_n 0, 1) := by decide +kernel
theorem dX6_king_90 : decode cX6_king 90 = .ok (.lload 5, 2) := by decide +kernel
theorem dX6_king_92 : decode cX6_king 92 = .ok (.lload 5, 2) := by decide +kernel
theorem dX6_king_94 : decode cX6_king 94 = .ok (.lmul, 1) := by decide +kernel
theorem dX6_king_95 : decode cX6_king 95 = .ok (.ldc2_w 183, 3) := by decide +kernel
theorem dX6_king_98 : decode cX6_king 98 = .ok (.lrem, 1) := by decide +kernel
theorem dX6_king_99 : decode cX6_king 99 = .ok (.l2i, 1) := by decide +kernel
theorem dX6_king_100 : decode cX6_king 100 = .ok (.iconst 2, 1) := by decide +kernel
theorem dX6_king_101 : decode cX6_king 101 = .ok (.idiv, 1) := by decide +kernel
theorem dX6_king_102 : decode cX6_king 102 = .ok (.invokevirtual 185, 3) := by decide +kernel
theorem dX6_king_105 : decode cX6_king 105 = .ok (.iinc 4 1, 3) := by decide +kernel
theorem dX6_king_108 : decode cX6_king 108 = .ok (.goto (-43), 3) := by decide +kernel
theorem dX6_king_111 : decode cX6_king 111 = .ok (.iload_n 3, 1) := by decide +kernel
theorem dX6_king_112 : decode cX6_king 112 = .ok (.ifCond .ne 15, 3) := by decide +kernel
theorem dX6_king_115 : decode cX6_king 115 = .ok (.aload_n 0, 1) := by decide +kernel
theorem dX6_king_116 : decode cX6_king 116 = .ok (.getfield 19, 3) := by decide +kernel
theorem dX6_king_119 : decode cX6_king 119 = .ok (.iconst 1, 1) := by decide +kernel
theorem dX6_king_120 : decode cX6_king 120 = .ok (.iaload, 1) := by decide +kernel
theorem dX6_king_121 : decode cX6_king 121 = .ok (.invokestatic 150, 3) := by decide +kernel
theorem dX6_king_124 : decode cX6_king 124 = .ok (.goto 29, 3) := by decide +kernel
theorem dX6_king_127 : decode cX6_king 127 = .ok (.iload_n 3, 1) := by decide +kernel
theorem dX6_king_128 : decode cX6_king 128 = .ok (.iconst 1, 1) := by decide +kernel
theorem dX6_king_129 : decode cX6_king 129 = .ok (.if_icmp .ne 12, 3) := by decide +kernel
theorem dX6_king_132 : decode cX6_king 132 = .ok (.aload_n 0, 1) := by decide +kernel
theorem dX6_king_133 : decode cX6_king 133 = .ok (.getfield 19, 3) := by decide +kernel
theorem dX6_king_136 : decode cX6_king 136 = .ok (.iconst 5, 1) := by decide +kernel
theorem dX6_king_137 : decode cX6_king 137 = .ok (.iaload, 1) := by decide +kernel
theorem dX6_king_138 : decode cX6_king 138 = .ok (.goto 15, 3) := by decide +kernel
theorem dX6_king_141 : decode cX6_king 141 = .ok (.aload_n 0, 1) := by decide +kernel
theorem dX6_king_142 : decode cX6_king 142 = .ok (.invokevirtual 112, 3) := by decide +kernel
theorem dX6_king_145 : decode cX6_king 145 = .ok (.ifCond .eq 7, 3) := by decide +kernel
theorem dX6_king_148 : decode cX6_king 148 = .ok (.iconst 1, 1) := by decide +kernel
theorem dX6_king_149 : decode cX6_king 149 = .ok (.goto 4, 3) := by decide +kernel
theorem dX6_king_152 : decode cX6_king 152 = .ok (.iconst 0, 1) := by decide +kernel
theorem dX6_king_153 : decode cX6_king 153 = .ok (.istore 4, 2) := by decide +kernel
theorem dX6_king_155 : decode cX6_king 155 = .ok (.iconst 0, 1) := by decide +kernel
theorem dX6_king_156 : decode cX6_king 156 = .ok (.istore 5, 2) := by decide +kernel
theorem dX6_king_158 : decode cX6_king 158 = .ok (.iload 5, 2) := by decide +kernel
theorem dX6_king_160 : decode cX6_king 160 = .ok (.bipush 6, 2) := by decide +kernel
theorem dX6_king_162 : decode cX6_king 162 = .ok (.if_icmp .ge 23, 3) := by decide +kernel
theorem dX6_king_165 : decode cX6_king 165 = .ok (.aload_n 0, 1) := by decide +kernel
theorem dX6_king_166 : decode cX6_king 166 = .ok (.getfield 19, 3) := by decide +kernel
theorem dX6_king_169 : decode cX6_king 169 = .ok (.iload 5, 2) := by decide +kernel
theorem dX6_king_171 : decode cX6_king 171 = .ok (.aload_n 0, 1) := by decide +kernel
theorem dX6_king_172 : decode cX6_king 172 = .ok (.getfield 52, 3) := by decide +kernel
theorem dX6_king_175 : decode cX6_king 175 = .ok (.iload 5, 2) := by decide +kernel
theorem dX6_king_177 : decode cX6_king 177 = .ok (.iaload, 1) := by decide +kernel
theorem dX6_king_178 : decode cX6_king 178 = .ok (.iastore, 1) := by decide +kernel
theorem dX6_king_179 : decode cX6_king 179 = .ok (.iinc 5 1, 3) := by decide +kernel
theorem dX6_king_182 : decode cX6_king 182 = .ok (.goto (-24), 3) := by decide +kernel
theorem dX6_king_185 : decode cX6_king 185 = .ok (.iload 4, 2) := by decide +kernel
theorem dX6_king_187 : decode cX6_king 187 = .ok (.ireturn, 1) := by decide +kernel
theorem dX6_keep_0 : decode cX6_keep 0 = .ok (.aload_n 0, 1) := by decide +kernel
theorem dX6_keep_1 : decode cX6_keep 1 = .ok (.getfield 102, 3) := by decide +kernel
theorem dX6_keep_4 : decode cX6_keep 4 = .ok (.iconst 2, 1) := by decide +kernel
theorem dX6_keep_5 : decode cX6_keep 5 = .ok (.if_icmp .ne 6, 3) := by decide +kernel
theorem dX6_keep_8 : decode cX6_keep 8 = .ok (.bipush (-3), 2) := by decide +kernel
theorem dX6_keep_10 : decode cX6_keep 10 = .ok (.ireturn, 1) := by decide +kernel
theorem dX6_keep_11 : decode cX6_keep 11 = .ok (.iconst 0, 1) := by decide +kernel
theorem dX6_keep_12 : decode cX6_keep 12 = .ok (.istore_n 1, 1) := by decide +kernel
theorem dX6_keep_13 : decode cX6_keep 13 = .ok (.iload_n 1, 1) := by decide +kernel
theorem dX6_keep_14 : decode cX6_keep 14 = .ok (.bipush 6, 2) := by decide +kernel
theorem dX6_keep_16 : decode cX6_keep 16 = .ok (.if_icmp .ge 29, 3) := by decide +kernel
theorem dX6_keep_19 : decode cX6_keep 19 = .ok (.aload_n 0, 1) := by decide +kernel
theorem dX6_keep_20 : decode cX6_keep 20 = .ok (.getfield 25, 3) := by decide +kernel
theorem dX6_keep_23 : decode cX6_keep 23 = .ok (.bipush 6, 2) := by decide +kernel
theorem dX6_keep_25 : decode cX6_keep 25 = .ok (.aload_n 0, 1) := by decide +kernel
theorem dX6_keep_26 : decode cX6_keep 26 = .ok (.getfield 102, 3) := by decide +kernel
theorem dX6_keep_29 : decode cX6_keep 29 = .ok (.imul, 1) := by decide +kernel
theorem dX6_keep_30 : decode cX6_keep 30 = .ok (.iload_n 1, 1) := by decide +kernel
theorem dX6_keep_31 : decode cX6_keep 31 = .ok (.iadd, 1) := by decide +kernel
theorem dX6_keep_32 : decode cX6_keep 32 = .ok (.aload_n 0, 1) := by decide +kernel
theorem dX6_keep_33 : decode cX6_keep 33 = .ok (.getfield 19, 3) := by decide +kernel
theorem dX6_keep_36 : decode cX6_keep 36 = .ok (.iload_n 1, 1) := by decide +kernel
theorem dX6_keep_37 : decode cX6_keep 37 = .ok (.iaload, 1) := by decide +kernel
theorem dX6_keep_38 : decode cX6_keep 38 = .ok (.iastore, 1) := by decide +kernel
theorem dX6_keep_39 : decode cX6_keep 39 = .ok (.iinc 1 1, 3) := by decide +kernel
theorem dX6_keep_42 : decode cX6_keep 42 = .ok (.goto (-29), 3) := by decide +kernel
theorem dX6_keep_45 : decode cX6_keep 45 = .ok (.aload_n 0, 1) := by decide +kernel
theorem dX6_keep_46 : decode cX6_keep 46 = .ok (.dup, 1) := by decide +kernel
theorem dX6_keep_47 : decode cX6_keep 47 = .ok (.getfield 102, 3) := by decide +kernel
theorem dX6_keep_50 : decode cX6_keep 50 = .ok (.iconst 1, 1) := by decide +kernel
theorem dX6_keep_51 : decode cX6_keep 51 = .ok (.iadd, 1) := by decide +kernel
theorem dX6_keep_52 : decode cX6_keep 52 = .ok (.putfield 102, 3) := by decide +kernel
theorem dX6_keep_55 : decode cX6_keep 55 = .ok (.aload_n 0, 1) := by decide +kernel
theorem dX6_keep_56 : decode cX6_keep 56 = .ok (.getfield 102, 3) := by decide +kernel
theorem dX6_keep_59 : decode cX6_keep 59 = .ok (.ireturn, 1) := by decide +kernel
theorem dX6_back_0 : decode cX6_back 0 = .ok (.aload_n 0, 1) := by decide +kernel
theorem dX6_back_1 : decode cX6_back 1 = .ok (.getfield 102, 3) := by decide +kernel
theorem dX6_back_4 : decode cX6_back 4 = .ok (.ifCond .ne 6, 3) := by decide +kernel
theorem dX6_back_7 : decode cX6_back 7 = .ok (.bipush (-2), 2) := by decide +kernel
theorem dX6_back_9 : decode cX6_back 9 = .ok (.ireturn, 1) := by decide +kernel
theorem dX6_back_10 : decode cX6_back 10 = .ok (.aload_n 0, 1) := by decide +kernel
theorem dX6_back_11 : decode cX6_back 11 = .ok (.dup, 1) := by decide +kernel
theorem dX6_back_12 : decode cX6_back 12 = .ok (.getfield 102, 3) := by decide +kernel
theorem dX6_back_15 : decode cX6_back 15 = .ok (.iconst 1, 1) := by decide +kernel
theorem dX6_back_16 : decode cX6_back 16 = .ok (.isub, 1) := by decide +kernel
theorem dX6_back_17 : decode cX6_back 17 = .ok (.putfield 102, 3) := by decide +kernel
theorem dX6_back_20 : decode cX6_back 20 = .ok (.iconst 0, 1) := by decide +kernel
theorem dX6_back_21 : decode cX6_back 21 = .ok (.istore_n 1, 1) := by decide +kernel
theorem dX6_back_22 : decode cX6_back 22 = .ok (.iload_n 1, 1) := by decide +kernel
theorem dX6_back_23 : decode cX6_back 23 = .ok (.bipush 6, 2) := by decide +kernel
theorem dX6_back_25 : decode cX6_back 25 = .ok (.if_icmp .ge 29, 3) := by decide +kernel
theorem dX6_back_28 : decode cX6_back 28 = .ok (.aload_n 0, 1) := by decide +kernel
theorem dX6_back_29 : decode cX6_back 29 = .ok (.getfield 19, 3) := by decide +kernel
theorem dX6_back_32 : decode cX6_back 32 = .ok (.iload_n 1, 1) := by decide +kernel
theorem dX6_back_33 : decode cX6_back 33 = .ok (.aload_n 0, 1) := by decide +kernel
theorem dX6_back_34 : decode cX6_back 34 = .ok (.getfield 25, 3) := by decide +kernel
theorem dX6_back_37 : decode cX6_back 37 = .ok (.bipush 6, 2) := by decide +kernel
theorem dX6_back_39 : decode cX6_back 39 = .ok (.aload_n 0, 1) := by decide +kernel
theorem dX6_back_40 : decode cX6_back 40 = .ok (.getfield 102, 3) := by decide +kernel
theorem dX6_back_43 : decode cX6_back 43 = .ok (.imul, 1) := by decide +kernel
theorem dX6_back_44 : decode cX6_back 44 = .ok (.iload_n 1, 1) := by decide +kernel
theorem dX6_back_45 : decode cX6_back 45 = .ok (.iadd, 1) := by decide +kernel
theorem dX6_back_46 : decode cX6_back 46 = .ok (.iaload, 1) := by decide +kernel
theorem dX6_back_47 : decode cX6_back 47 = .ok (.iastore, 1) := by decide +kernel
theorem dX6_back_48 : decode cX6_back 48 = .ok (.iinc 1 1, 3) := by decide +kernel
theorem dX6_back_51 : decode cX6_back 51 = .ok (.goto (-29), 3) := by decide +kernel
theorem dX6_back_54 : decode cX6_back 54 = .ok (.aload_n 0, 1) := by decide +kernel
theorem dX6_back_55 : decode cX6_back 55 = .ok (.iconst 0, 1) := by decide +kernel
theorem dX6_back_56 : decode cX6_back 56 = .ok (.putfield 99, 3) := by decide +kernel
theorem dX6_back_59 : decode cX6_back 59 = .ok (.aload_n 0, 1) := by decide +kernel
theorem dX6_back_60 : decode cX6_back 60 = .ok (.getfield 102, 3) := by decide +kernel
theorem dX6_back_63 : decode cX6_back 63 = .ok (.ireturn, 1) := by decide +kernel
set_option maxRecDepth 20000 in
theorem ggX6_count_X6_open : GoodIn wsX6_count wsX6_open := goodIn_r _ [11, 2, 19, 20, 21, 22, 23, 24, 25, 26, 27, 28, 29, 30, 31, 32, 33, 34, 35, 36, 37, 38, 39, 40, 41] (by decide +kernel) (by decide +kernel)
set_option maxRecDepth 20000 in
theorem gX6_count_X6_open : GoodIn wsX6_count (wsV RX6 116 RX6 yX6_open wsX6_open) := goodIn_app (goodIn_of _ (by decide +kernel)) ggX6_count_X6_open
set_option maxRecDepth 20000 in
theorem ggX6_count_X6_ones : GoodIn wsX6_count wsX6_ones := goodIn_r _ [14] (by decide +kernel) (by decide +kernel)
set_option maxRecDepth 20000 in
theorem gX6_count_X6_ones : GoodIn wsX6_count (va_wsS RX6 150 yX6_ones wsX6_ones) := goodIn_app (goodIn_of _ (by decide +kernel)) ggX6_count_X6_ones
set_option maxRecDepth 20000 in
theorem ggX6_count_X6_isLost : GoodIn wsX6_count wsX6_isLost := goodIn_r _ [18, 2, 1, 19, 20, 21, 22, 23, 24, 25, 26, 27, 28, 29, 30, 31, 32, 33, 34, 35, 36, 37, 38, 39, 40, 41] (by decide +kernel) (by decide +kernel)
set_option maxRecDepth 20000 in
theorem gX6_count_X6_isLost : GoodIn wsX6_count (wsV RX6 112 RX6 yX6_isLost wsX6_isLost) := goodIn_app (goodIn_of _ (by decide +kernel)) ggX6_count_X6_isLost
theorem dX6_count_0 : decode cX6_count 0 = .ok (.iload_n 1, 1) := by decide +kernel
theorem dX6_count_1 : decode cX6_count 1 = .ok (.tableswitch 161 0 11 #[63, 70, 77, 85, 95, 114, 121, 128, 141, 146, 151, 156], 63) := by decide +kernel
theorem dX6_count_64 : decode cX6_count 64 = .ok (.aload_n 0, 1) := by decide +kernel
theorem dX6_count_65 : decode cX6_count 65 = .ok (.getfield 13, 3) := by decide +kernel
theorem dX6_count_68 : decode cX6_count 68 = .ok (.iconst 0, 1) := by decide +kernel
theorem dX6_count_69 : decode cX6_count 69 = .ok (.iaload, 1) := by decide +kernel
theorem dX6_count_70 : decode cX6_count 70 = .ok (.ireturn, 1) := by decide +kernel
theorem dX6_count_71 : decode cX6_count 71 = .ok (.aload_n 0, 1) := by decide +kernel
theorem dX6_count_72 : decode cX6_count 72 = .ok (.getfield 13, 3) := by decide +kernel
theorem dX6_count_75 : decode cX6_count 75 = .ok (.iconst 1, 1) := by decide +kernel
theorem dX6_count_76 : decode cX6_count 76 = .ok (.iaload, 1) := by decide +kernel
theorem dX6_count_77 : decode cX6_count 77 = .ok (.ireturn, 1) := by decide +kernel
theorem dX6_count_78 : decode cX6_count 78 = .ok (.aload_n 0, 1) := by decide +kernel
theorem dX6_count_79 : decode cX6_count 79 = .ok (.invokevirtual 116, 3) := by decide +kernel
theorem dX6_count_82 : decode cX6_count 82 = .ok (.invokestatic 150, 3) := by decide +kernel
theorem dX6_count_85 : decode cX6_count 85 = .ok (.ireturn, 1) := by decide +kernel
theorem dX6_count_86 : decode cX6_count 86 = .ok (.aload_n 0, 1) := by decide +kernel
theorem dX6_count_87 : decode cX6_count 87 = .ok (.getfield 19, 3) := by decide +kernel
theorem dX6_count_90 : decode cX6_count 90 = .ok (.iconst 1, 1) := by decide +kernel
theorem dX6_count_91 : decode cX6_count 91 = .ok (.iaload, 1) := by decide +kernel
theorem dX6_count_92 : decode cX6_count 92 = .ok (.invokestatic 150, 3) := by decide +kernel
theorem dX6_count_95 : decode cX6_count 95 = .ok (.ireturn, 1) := by decide +kernel
theorem dX6_count_96 : decode cX6_count 96 = .ok (.aload_n 0, 1) := by decide +kernel
theorem dX6_count_97 : decode cX6_count 97 = .ok (.getfield 19, 3) := by decide +kernel
theorem dX6_count_100 : decode cX6_count 100 = .ok (.iconst 2, 1) := by decide +kernel
theorem dX6_count_101 : decode cX6_count 101 = .ok (.iaload, 1) := by decide +kernel
theorem dX6_count_102 : decode cX6_count 102 = .ok (.aload_n 0, 1) := by decide +kernel
theorem dX6_count_103 : decode cX6_count 103 = .ok (.getfield 19, 3) := by decide +kernel
theorem dX6_count_106 : decode cX6_count 106 = .ok (.iconst 3, 1) := by decide +kernel
theorem dX6_count_107 : decode cX6_count 107 = .ok (.iaload, 1) := by decide +kernel
theorem dX6_count_108 : decode cX6_count 108 = .ok (.iconst (-1), 1) := by decide +kernel
theorem dX6_count_109 : decode cX6_count 109 = .ok (.ixor, 1) := by decide +kernel
theorem dX6_count_110 : decode cX6_count 110 = .ok (.iand, 1) := by decide +kernel
theorem dX6_count_111 : decode cX6_count 111 = .ok (.invokestatic 150, 3) := by decide +kernel
theorem dX6_count_114 : decode cX6_count 114 = .ok (.ireturn, 1) := by decide +kernel
theorem dX6_count_115 : decode cX6_count 115 = .ok (.aload_n 0, 1) := by decide +kernel
theorem dX6_count_116 : decode cX6_count 116 = .ok (.getfield 19, 3) := by decide +kernel
theorem dX6_count_119 : decode cX6_count 119 = .ok (.iconst 4, 1) := by decide +kernel
theorem dX6_count_120 : decode cX6_count 120 = .ok (.iaload, 1) := by decide +kernel
theorem dX6_count_121 : decode cX6_count 121 = .ok (.ireturn, 1) := by decide +kernel
theorem dX6_count_122 : decode cX6_count 122 = .ok (.aload_n 0, 1) := by decide +kernel
theorem dX6_count_123 : decode cX6_count 123 = .ok (.getfield 19, 3) := by decide +kernel
theorem dX6_count_126 : decode cX6_count 126 = .ok (.iconst 5, 1) := by decide +kernel
theorem dX6_count_127 : decode cX6_count 127 = .ok (.iaload, 1) := by decide +kernel
theorem dX6_count_128 : decode cX6_count 128 = .ok (.ireturn, 1) := by decide +kernel
theorem dX6_count_129 : decode cX6_count 129 = .ok (.aload_n 0, 1) := by decide +kernel
theorem dX6_count_130 : decode cX6_count 130 = .ok (.invokevirtual 112, 3) := by decide +kernel
theorem dX6_count_133 : decode cX6_count 133 = .ok (.ifCond .eq 7, 3) := by decide +kernel
theorem dX6_count_136 : decode cX6_count 136 = .ok (.iconst 1, 1) := by decide +kernel
theorem dX6_count_137 : decode cX6_count 137 = .ok (.goto 4, 3) := by decide +kernel
theorem dX6_count_140 : decode cX6_count 140 = .ok (.iconst 0, 1) := by decide +kernel
theorem dX6_count_141 : decode cX6_count 141 = .ok (.ireturn, 1) := by decide +kernel
theorem dX6_count_142 : decode cX6_count 142 = .ok (.aload_n 0, 1) := by decide +kernel
theorem dX6_count_143 : decode cX6_count 143 = .ok (.getfield 105, 3) := by decide +kernel
theorem dX6_count_146 : decode cX6_count 146 = .ok (.ireturn, 1) := by decide +kernel
theorem dX6_count_147 : decode cX6_count 147 = .ok (.aload_n 0, 1) := by decide +kernel
theorem dX6_count_148 : decode cX6_count 148 = .ok (.getfield 99, 3) := by decide +kernel
theorem dX6_count_151 : decode cX6_count 151 = .ok (.ireturn, 1) := by decide +kernel
theorem dX6_count_152 : decode cX6_count 152 = .ok (.aload_n 0, 1) := by decide +kernel
theorem dX6_count_153 : decode cX6_count 153 = .ok (.getfield 102, 3) := by decide +kernel
theorem dX6_count_156 : decode cX6_count 156 = .ok (.ireturn, 1) := by decide +kernel
theorem dX6_count_157 : decode cX6_count 157 = .ok (.aload_n 0, 1) := by decide +kernel
theorem dX6_count_158 : decode cX6_count 158 = .ok (.getfield 73, 3) := by decide +kernel
theorem dX6_count_161 : decode cX6_count 161 = .ok (.ireturn, 1) := by decide +kernel
theorem dX6_count_162 : decode cX6_count 162 = .ok (.iconst (-1), 1) := by decide +kernel
theorem dX6_count_163 : decode cX6_count 163 = .ok (.ireturn, 1) := by decide +kernel
