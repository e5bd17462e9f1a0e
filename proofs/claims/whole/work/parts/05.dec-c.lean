theorem dX6_init_0 : decode cX6_init 0 = .ok (.aload_n 0, 1) := by decide +kernel
theorem dX6_init_1 : decode cX6_init 1 = .ok (.invokespecial 1, 3) := by decide +kernel
theorem dX6_init_4 : decode cX6_init 4 = .ok (.aload_n 0, 1) := by decide +kernel
theorem dX6_init_5 : decode cX6_init 5 = .ok (.bipush 6, 2) := by decide +kernel
theorem dX6_init_7 : decode cX6_init 7 = .ok (.newarray .int, 2) := by decide +kernel
theorem dX6_init_9 : decode cX6_init 9 = .ok (.putfield 7, 3) := by decide +kernel
theorem dX6_init_12 : decode cX6_init 12 = .ok (.aload_n 0, 1) := by decide +kernel
theorem dX6_init_13 : decode cX6_init 13 = .ok (.bipush 6, 2) := by decide +kernel
theorem dX6_init_15 : decode cX6_init 15 = .ok (.newarray .int, 2) := by decide +kernel
theorem dX6_init_17 : decode cX6_init 17 = .ok (.putfield 13, 3) := by decide +kernel
theorem dX6_init_20 : decode cX6_init 20 = .ok (.aload_n 0, 1) := by decide +kernel
theorem dX6_init_21 : decode cX6_init 21 = .ok (.sipush 240, 3) := by decide +kernel
theorem dX6_init_24 : decode cX6_init 24 = .ok (.newarray .int, 2) := by decide +kernel
theorem dX6_init_26 : decode cX6_init 26 = .ok (.putfield 16, 3) := by decide +kernel
theorem dX6_init_29 : decode cX6_init 29 = .ok (.aload_n 0, 1) := by decide +kernel
theorem dX6_init_30 : decode cX6_init 30 = .ok (.bipush 40, 2) := by decide +kernel
theorem dX6_init_32 : decode cX6_init 32 = .ok (.newarray .int, 2) := by decide +kernel
theorem dX6_init_34 : decode cX6_init 34 = .ok (.putfield 19, 3) := by decide +kernel
theorem dX6_init_37 : decode cX6_init 37 = .ok (.aload_n 0, 1) := by decide +kernel
theorem dX6_init_38 : decode cX6_init 38 = .ok (.iconst 4, 1) := by decide +kernel
theorem dX6_init_39 : decode cX6_init 39 = .ok (.newarray .int, 2) := by decide +kernel
theorem dX6_init_41 : decode cX6_init 41 = .ok (.putfield 22, 3) := by decide +kernel
theorem dX6_init_44 : decode cX6_init 44 = .ok (.aload_n 0, 1) := by decide +kernel
theorem dX6_init_45 : decode cX6_init 45 = .ok (.sipush 320, 3) := by decide +kernel
theorem dX6_init_48 : decode cX6_init 48 = .ok (.newarray .int, 2) := by decide +kernel
theorem dX6_init_50 : decode cX6_init 50 = .ok (.putfield 25, 3) := by decide +kernel
theorem dX6_init_53 : decode cX6_init 53 = .ok (.aload_n 0, 1) := by decide +kernel
theorem dX6_init_54 : decode cX6_init 54 = .ok (.bipush 10, 2) := by decide +kernel
theorem dX6_init_56 : decode cX6_init 56 = .ok (.newarray .int, 2) := by decide +kernel
theorem dX6_init_58 : decode cX6_init 58 = .ok (.putfield 28, 3) := by decide +kernel
theorem dX6_init_61 : decode cX6_init 61 = .ok (.aload_n 0, 1) := by decide +kernel
theorem dX6_init_62 : decode cX6_init 62 = .ok (.iconst 3, 1) := by decide +kernel
theorem dX6_init_63 : decode cX6_init 63 = .ok (.newarray .int, 2) := by decide +kernel
theorem dX6_init_65 : decode cX6_init 65 = .ok (.putfield 31, 3) := by decide +kernel
theorem dX6_init_68 : decode cX6_init 68 = .ok (.aload_n 0, 1) := by decide +kernel
theorem dX6_init_69 : decode cX6_init 69 = .ok (.iconst 3, 1) := by decide +kernel
theorem dX6_init_70 : decode cX6_init 70 = .ok (.newarray .int, 2) := by decide +kernel
theorem dX6_init_72 : decode cX6_init 72 = .ok (.putfield 34, 3) := by decide +kernel
theorem dX6_init_75 : decode cX6_init 75 = .ok (.aload_n 0, 1) := by decide +kernel
theorem dX6_init_76 : decode cX6_init 76 = .ok (.iconst 3, 1) := by decide +kernel
theorem dX6_init_77 : decode cX6_init 77 = .ok (.newarray .int, 2) := by decide +kernel
theorem dX6_init_79 : decode cX6_init 79 = .ok (.putfield 37, 3) := by decide +kernel
theorem dX6_init_82 : decode cX6_init 82 = .ok (.aload_n 0, 1) := by decide +kernel
theorem dX6_init_83 : decode cX6_init 83 = .ok (.iconst 3, 1) := by decide +kernel
theorem dX6_init_84 : decode cX6_init 84 = .ok (.newarray .int, 2) := by decide +kernel
theorem dX6_init_86 : decode cX6_init 86 = .ok (.putfield 40, 3) := by decide +kernel
theorem dX6_init_89 : decode cX6_init 89 = .ok (.aload_n 0, 1) := by decide +kernel
theorem dX6_init_90 : decode cX6_init 90 = .ok (.bipush 10, 2) := by decide +kernel
theorem dX6_init_92 : decode cX6_init 92 = .ok (.newarray .int, 2) := by decide +kernel
theorem dX6_init_94 : decode cX6_init 94 = .ok (.putfield 43, 3) := by decide +kernel
theorem dX6_init_97 : decode cX6_init 97 = .ok (.aload_n 0, 1) := by decide +kernel
theorem dX6_init_98 : decode cX6_init 98 = .ok (.iconst 3, 1) := by decide +kernel
theorem dX6_init_99 : decode cX6_init 99 = .ok (.newarray .int, 2) := by decide +kernel
theorem dX6_init_101 : decode cX6_init 101 = .ok (.putfield 46, 3) := by decide +kernel
theorem dX6_init_104 : decode cX6_init 104 = .ok (.aload_n 0, 1) := by decide +kernel
theorem dX6_init_105 : decode cX6_init 105 = .ok (.iconst 3, 1) := by decide +kernel
theorem dX6_init_106 : decode cX6_init 106 = .ok (.newarray .int, 2) := by decide +kernel
theorem dX6_init_108 : decode cX6_init 108 = .ok (.putfield 49, 3) := by decide +kernel
theorem dX6_init_111 : decode cX6_init 111 = .ok (.aload_n 0, 1) := by decide +kernel
theorem dX6_init_112 : decode cX6_init 112 = .ok (.iconst 3, 1) := by decide +kernel
theorem dX6_init_113 : decode cX6_init 113 = .ok (.newarray .int, 2) := by decide +kernel
theorem dX6_init_115 : decode cX6_init 115 = .ok (.putfield 52, 3) := by decide +kernel
theorem dX6_init_118 : decode cX6_init 118 = .ok (.aload_n 0, 1) := by decide +kernel
theorem dX6_init_119 : decode cX6_init 119 = .ok (.bipush 14, 2) := by decide +kernel
theorem dX6_init_121 : decode cX6_init 121 = .ok (.newarray .int, 2) := by decide +kernel
theorem dX6_init_123 : decode cX6_init 123 = .ok (.putfield 55, 3) := by decide +kernel
theorem dX6_init_126 : decode cX6_init 126 = .ok (.aload_n 0, 1) := by decide +kernel
theorem dX6_init_127 : decode cX6_init 127 = .ok (.bipush 60, 2) := by decide +kernel
theorem dX6_init_129 : decode cX6_init 129 = .ok (.newarray .int, 2) := by decide +kernel
theorem dX6_init_131 : decode cX6_init 131 = .ok (.putfield 58, 3) := by decide +kernel
theorem dX6_init_134 : decode cX6_init 134 = .ok (.aload_n 0, 1) := by decide +kernel
theorem dX6_init_135 : decode cX6_init 135 = .ok (.sipush 840, 3) := by decide +kernel
theorem dX6_init_138 : decode cX6_init 138 = .ok (.newarray .int, 2) := by decide +kernel
theorem dX6_init_140 : decode cX6_init 140 = .ok (.putfield 61, 3) := by decide +kernel
theorem dX6_init_143 : decode cX6_init 143 = .ok (.aload_n 0, 1) := by decide +kernel
theorem dX6_init_144 : decode cX6_init 144 = .ok (.sipush 2760, 3) := by decide +kernel
theorem dX6_init_147 : decode cX6_init 147 = .ok (.newarray .int, 2) := by decide +kernel
theorem dX6_init_149 : decode cX6_init 149 = .ok (.putfield 64, 3) := by decide +kernel
theorem dX6_init_152 : decode cX6_init 152 = .ok (.aload_n 0, 1) := by decide +kernel
theorem dX6_init_153 : decode cX6_init 153 = .ok (.bipush 14, 2) := by decide +kernel
theorem dX6_init_155 : decode cX6_init 155 = .ok (.newarray .int, 2) := by decide +kernel
theorem dX6_init_157 : decode cX6_init 157 = .ok (.putfield 67, 3) := by decide +kernel
theorem dX6_init_160 : decode cX6_init 160 = .ok (.aload_n 0, 1) := by decide +kernel
theorem dX6_init_161 : decode cX6_init 161 = .ok (.bipush 10, 2) := by decide +kernel
theorem dX6_init_163 : decode cX6_init 163 = .ok (.newarray .int, 2) := by decide +kernel
theorem dX6_init_165 : decode cX6_init 165 = .ok (.putfield 70, 3) := by decide +kernel
theorem dX6_init_168 : decode cX6_init 168 = .ok (.aload_n 0, 1) := by decide +kernel
theorem dX6_init_169 : decode cX6_init 169 = .ok (.bipush 98, 2) := by decide +kernel
theorem dX6_init_171 : decode cX6_init 171 = .ok (.newarray .int, 2) := by decide +kernel
theorem dX6_init_173 : decode cX6_init 173 = .ok (.putfield 73, 3) := by decide +kernel
theorem dX6_init_176 : decode cX6_init 176 = .ok (.aload_n 0, 1) := by decide +kernel
theorem dX6_init_177 : decode cX6_init 177 = .ok (.iconst 3, 1) := by decide +kernel
theorem dX6_init_178 : decode cX6_init 178 = .ok (.newarray .int, 2) := by decide +kernel
theorem dX6_init_180 : decode cX6_init 180 = .ok (.putfield 76, 3) := by decide +kernel
theorem dX6_init_183 : decode cX6_init 183 = .ok (.aload_n 0, 1) := by decide +kernel
theorem dX6_init_184 : decode cX6_init 184 = .ok (.iconst 3, 1) := by decide +kernel
theorem dX6_init_185 : decode cX6_init 185 = .ok (.newarray .int, 2) := by decide +kernel
theorem dX6_init_187 : decode cX6_init 187 = .ok (.putfield 79, 3) := by decide +kernel
theorem dX6_init_190 : decode cX6_init 190 = .ok (.aload_n 0, 1) := by decide +kernel
theorem dX6_init_191 : decode cX6_init 191 = .ok (.iconst 3, 1) := by decide +kernel
theorem dX6_init_192 : decode cX6_init 192 = .ok (.newarray .int, 2) := by decide +kernel
theorem dX6_init_194 : decode cX6_init 194 = .ok (.putfield 82, 3) := by decide +kernel
theorem dX6_init_197 : decode cX6_init 197 = .ok (.iconst 0, 1) := by decide +kernel
theorem dX6_init_198 : decode cX6_init 198 = .ok (.istore_n 1, 1) := by decide +kernel
theorem dX6_init_199 : decode cX6_init 199 = .ok (.iload_n 1, 1) := by decide +kernel
theorem dX6_init_200 : decode cX6_init 200 = .ok (.bipush 6, 2) := by decide +kernel
theorem dX6_init_202 : decode cX6_init 202 = .ok (.if_icmp .ge 17, 3) := by decide +kernel
theorem dX6_init_205 : decode cX6_init 205 = .ok (.aload_n 0, 1) := by decide +kernel
theorem dX6_init_206 : decode cX6_init 206 = .ok (.getfield 13, 3) := by decide +kernel
theorem dX6_init_209 : decode cX6_init 209 = .ok (.iload_n 1, 1) := by decide +kernel
theorem dX6_init_210 : decode cX6_init 210 = .ok (.bipush (-9), 2) := by decide +kernel
theorem dX6_init_212 : decode cX6_init 212 = .ok (.iastore, 1) := by decide +kernel
theorem dX6_init_213 : decode cX6_init 213 = .ok (.iinc 1 1, 3) := by decide +kernel
theorem dX6_init_216 : decode cX6_init 216 = .ok (.goto (-17), 3) := by decide +kernel
theorem dX6_init_219 : decode cX6_init 219 = .ok (.iconst 0, 1) := by decide +kernel
theorem dX6_init_220 : decode cX6_init 220 = .ok (.istore_n 1, 1) := by decide +kernel
theorem dX6_init_221 : decode cX6_init 221 = .ok (.iload_n 1, 1) := by decide +kernel
theorem dX6_init_222 : decode cX6_init 222 = .ok (.iconst 4, 1) := by decide +kernel
theorem dX6_init_223 : decode cX6_init 223 = .ok (.if_icmp .ge 17, 3) := by decide +kernel
theorem dX6_init_226 : decode cX6_init 226 = .ok (.aload_n 0, 1) := by decide +kernel
theorem dX6_init_227 : decode cX6_init 227 = .ok (.getfield 22, 3) := by decide +kernel
theorem dX6_init_230 : decode cX6_init 230 = .ok (.iload_n 1, 1) := by decide +kernel
theorem dX6_init_231 : decode cX6_init 231 = .ok (.bipush (-9), 2) := by decide +kernel
theorem dX6_init_233 : decode cX6_init 233 = .ok (.iastore, 1) := by decide +kernel
theorem dX6_init_234 : decode cX6_init 234 = .ok (.iinc 1 1, 3) := by decide +kernel
theorem dX6_init_237 : decode cX6_init 237 = .ok (.goto (-16), 3) := by decide +kernel
theorem dX6_init_240 : decode cX6_init 240 = .ok (.iconst 0, 1) := by decide +kernel
theorem dX6_init_241 : decode cX6_init 241 = .ok (.istore_n 1, 1) := by decide +kernel
theorem dX6_init_242 : decode cX6_init 242 = .ok (.iload_n 1, 1) := by decide +kernel
theorem dX6_init_243 : decode cX6_init 243 = .ok (.iconst 3, 1) := by decide +kernel
theorem dX6_init_244 : decode cX6_init 244 = .ok (.if_icmp .ge 21, 3) := by decide +kernel
theorem dX6_init_247 : decode cX6_init 247 = .ok (.aload_n 0, 1) := by decide +kernel
theorem dX6_init_248 : decode cX6_init 248 = .ok (.getfield 64, 3) := by decide +kernel
theorem dX6_init_251 : decode cX6_init 251 = .ok (.sipush 920, 3) := by decide +kernel
theorem dX6_init_254 : decode cX6_init 254 = .ok (.iload_n 1, 1) := by decide +kernel
theorem dX6_init_255 : decode cX6_init 255 = .ok (.imul, 1) := by decide +kernel
theorem dX6_init_256 : decode cX6_init 256 = .ok (.bipush (-9), 2) := by decide +kernel
theorem dX6_init_258 : decode cX6_init 258 = .ok (.iastore, 1) := by decide +kernel
theorem dX6_init_259 : decode cX6_init 259 = .ok (.iinc 1 1, 3) := by decide +kernel
theorem dX6_init_262 : decode cX6_init 262 = .ok (.goto (-20), 3) := by decide +kernel
theorem dX6_init_265 : decode cX6_init 265 = .ok (.return_, 1) := by decide +kernel
theorem dX6_in_0 : decode cX6_in 0 = .ok (.iload_n 0, 1) := by decide +kernel
theorem dX6_in_1 : decode cX6_in 1 = .ok (.iload_n 1, 1) := by decide +kernel
theorem dX6_in_2 : decode cX6_in 2 = .ok (.if_icmp .lt 12, 3) := by decide +kernel
theorem dX6_in_5 : decode cX6_in 5 = .ok (.iload_n 0, 1) := by decide +kernel
theorem dX6_in_6 : decode cX6_in 6 = .ok (.iload_n 2, 1) := by decide +kernel
theorem dX6_in_7 : decode cX6_in 7 = .ok (.if_icmp .gt 7, 3) := by decide +kernel
theorem dX6_in_10 : decode cX6_in 10 = .ok (.iconst 1, 1) := by decide +kernel
theorem dX6_in_11 : decode cX6_in 11 = .ok (.goto 4, 3) := by decide +kernel
theorem dX6_in_14 : decode cX6_in 14 = .ok (.iconst 0, 1) := by decide +kernel
theorem dX6_in_15 : decode cX6_in 15 = .ok (.ireturn, 1) := by decide +kernel
theorem dX6_meet_0 : decode cX6_meet 0 = .ok (.aload_n 0, 1) := by decide +kernel
theorem dX6_meet_1 : decode cX6_meet 1 = .ok (.iload_n 1, 1) := by decide +kernel
theorem dX6_meet_2 : decode cX6_meet 2 = .ok (.putfield 85, 3) := by decide +kernel
theorem dX6_meet_5 : decode cX6_meet 5 = .ok (.aload_n 0, 1) := by decide +kernel
theorem dX6_meet_6 : decode cX6_meet 6 = .ok (.getfield 7, 3) := by decide +kernel
theorem dX6_meet_9 : decode cX6_meet 9 = .ok (.iload_n 1, 1) := by decide +kernel
theorem dX6_meet_10 : decode cX6_meet 10 = .ok (.dup2, 1) := by decide +kernel
theorem dX6_meet_11 : decode cX6_meet 11 = .ok (.iaload, 1) := by decide +kernel
theorem dX6_meet_12 : decode cX6_meet 12 = .ok (.iconst 1, 1) := by decide +kernel
theorem dX6_meet_13 : decode cX6_meet 13 = .ok (.iadd, 1) := by decide +kernel
theorem dX6_meet_14 : decode cX6_meet 14 = .ok (.iastore, 1) := by decide +kernel
theorem dX6_meet_15 : decode cX6_meet 15 = .ok (.bipush (-3), 2) := by decide +kernel
theorem dX6_meet_17 : decode cX6_meet 17 = .ok (.ireturn, 1) := by decide +kernel
theorem dX6_ask_0 : decode cX6_ask 0 = .ok (.aload_n 0, 1) := by decide +kernel
theorem dX6_ask_1 : decode cX6_ask 1 = .ok (.iload_n 1, 1) := by decide +kernel
theorem dX6_ask_2 : decode cX6_ask 2 = .ok (.putfield 89, 3) := by decide +kernel
theorem dX6_ask_5 : decode cX6_ask 5 = .ok (.iload_n 2, 1) := by decide +kernel
theorem dX6_ask_6 : decode cX6_ask 6 = .ok (.ireturn, 1) := by decide +kernel
theorem dX6_has_0 : decode cX6_has 0 = .ok (.iload_n 0, 1) := by decide +kernel
theorem dX6_has_1 : decode cX6_has 1 = .ok (.iload_n 1, 1) := by decide +kernel
theorem dX6_has_2 : decode cX6_has 2 = .ok (.ishr, 1) := by decide +kernel
theorem dX6_has_3 : decode cX6_has 3 = .ok (.iconst 1, 1) := by decide +kernel
theorem dX6_has_4 : decode cX6_has 4 = .ok (.iand, 1) := by decide +kernel
theorem dX6_has_5 : decode cX6_has 5 = .ok (.iconst 1, 1) := by decide +kernel
theorem dX6_has_6 : decode cX6_has 6 = .ok (.if_icmp .ne 7, 3) := by decide +kernel
theorem dX6_has_9 : decode cX6_has 9 = .ok (.iconst 1, 1) := by decide +kernel
theorem dX6_has_10 : decode cX6_has 10 = .ok (.goto 4, 3) := by decide +kernel
theorem dX6_has_13 : decode cX6_has 13 = .ok (.iconst 0, 1) := by decide +kernel
theorem dX6_has_14 : decode cX6_has 14 = .ok (.ireturn, 1) := by decide +kernel
theorem dX6_sizeOf_0 : decode cX6_sizeOf 0 = .ok (.iconst 0, 1) := by decide +kernel
theorem dX6_sizeOf_1 : decode cX6_sizeOf 1 = .ok (.istore_n 1, 1) := by decide +kernel
theorem dX6_sizeOf_2 : decode cX6_sizeOf 2 = .ok (.iconst 0, 1) := by decide +kernel
theorem dX6_sizeOf_3 : decode cX6_sizeOf 3 = .ok (.istore_n 2, 1) := by decide +kernel
theorem dX6_sizeOf_4 : decode cX6_sizeOf 4 = .ok (.iload_n 2, 1) := by decide +kernel
theorem dX6_sizeOf_5 : decode cX6_sizeOf 5 = .ok (.bipush 10, 2) := by decide +kernel
theorem dX6_sizeOf_7 : decode cX6_sizeOf 7 = .ok (.if_icmp .ge 17, 3) := by decide +kernel
theorem dX6_sizeOf_10 : decode cX6_sizeOf 10 = .ok (.iload_n 1, 1) := by decide +kernel
theorem dX6_sizeOf_11 : decode cX6_sizeOf 11 = .ok (.iload_n 0, 1) := by decide +kernel
theorem dX6_sizeOf_12 : decode cX6_sizeOf 12 = .ok (.iload_n 2, 1) := by decide +kernel
theorem dX6_sizeOf_13 : decode cX6_sizeOf 13 = .ok (.ishr, 1) := by decide +kernel
theorem dX6_sizeOf_14 : decode cX6_sizeOf 14 = .ok (.iconst 1, 1) := by decide +kernel
theorem dX6_sizeOf_15 : decode cX6_sizeOf 15 = .ok (.iand, 1) := by decide +kernel
theorem dX6_sizeOf_16 : decode cX6_sizeOf 16 = .ok (.iadd, 1) := by decide +kernel
theorem dX6_sizeOf_17 : decode cX6_sizeOf 17 = .ok (.istore_n 1, 1) := by decide +kernel
theorem dX6_sizeOf_18 : decode cX6_sizeOf 18 = .ok (.iinc 2 1, 3) := by decide +kernel
theorem dX6_sizeOf_21 : decode cX6_sizeOf 21 = .ok (.goto (-17), 3) := by decide +kernel
theorem dX6_sizeOf_24 : decode cX6_sizeOf 24 = .ok (.iload_n 1, 1) := by decide +kernel
theorem dX6_sizeOf_25 : decode cX6_sizeOf 25 = .ok (.ireturn, 1) := by decide +kernel
theorem dX6_isRow_0 : decode cX6_isRow 0 = .ok (.iload_n 0, 1) := by decide +kernel
theorem dX6_isRow_1 : decode cX6_isRow 1 = .ok (.iconst 0, 1) := by decide +kernel
theorem dX6_isRow_2 : decode cX6_isRow 2 = .ok (.iconst 5, 1) := by decide +kernel
theorem dX6_isRow_3 : decode cX6_isRow 3 = .ok (.invokestatic 92, 3) := by decide +kernel
theorem dX6_isRow_6 : decode cX6_isRow 6 = .ok (.ireturn, 1) := by decide +kernel
theorem dX6_isText_0 : decode cX6_isText 0 = .ok (.iload_n 0, 1) := by decide +kernel
theorem dX6_isText_1 : decode cX6_isText 1 = .ok (.iconst 0, 1) := by decide +kernel
theorem dX6_isText_2 : decode cX6_isText 2 = .ok (.iconst 3, 1) := by decide +kernel
theorem dX6_isText_3 : decode cX6_isText 3 = .ok (.invokestatic 92, 3) := by decide +kernel
theorem dX6_isText_6 : decode cX6_isText 6 = .ok (.ireturn, 1) := by decide +kernel
theorem dX6_askedRow_0 : decode cX6_askedRow 0 = .ok (.iload_n 1, 1) := by decide +kernel
theorem dX6_askedRow_1 : decode cX6_askedRow 1 = .ok (.invokestatic 96, 3) := by decide +kernel
theorem dX6_askedRow_4 : decode cX6_askedRow 4 = .ok (.ifCond .ne 7, 3) := by decide +kernel
theorem dX6_askedRow_7 : decode cX6_askedRow 7 = .ok (.iconst (-1), 1) := by decide +kernel
theorem dX6_askedRow_8 : decode cX6_askedRow 8 = .ok (.goto 21, 3) := by decide +kernel
theorem dX6_askedRow_11 : decode cX6_askedRow 11 = .ok (.aload_n 0, 1) := by decide +kernel
theorem dX6_askedRow_12 : decode cX6_askedRow 12 = .ok (.getfield 13, 3) := by decide +kernel
theorem dX6_askedRow_15 : decode cX6_askedRow 15 = .ok (.iload_n 1, 1) := by decide +kernel
theorem dX6_askedRow_16 : decode cX6_askedRow 16 = .ok (.iaload, 1) := by decide +kernel
theorem dX6_askedRow_17 : decode cX6_askedRow 17 = .ok (.ifCond .ge 11, 3) := by decide +kernel
theorem dX6_askedRow_20 : decode cX6_askedRow 20 = .ok (.aload_n 0, 1) := by decide +kernel
theorem dX6_askedRow_21 : decode cX6_askedRow 21 = .ok (.iconst 1, 1) := by decide +kernel
theorem dX6_askedRow_22 : decode cX6_askedRow 22 = .ok (.invokevirtual 100, 3) := by decide +kernel
theorem dX6_askedRow_25 : decode cX6_askedRow 25 = .ok (.goto 4, 3) := by decide +kernel
theorem dX6_askedRow_28 : decode cX6_askedRow 28 = .ok (.iconst 0, 1) := by decide +kernel
theorem dX6_askedRow_29 : decode cX6_askedRow 29 = .ok (.ireturn, 1) := by decide +kernel
theorem dX6_askedText_0 : decode cX6_askedText 0 = .ok (.iload_n 1, 1) := by decide +kernel
theorem dX6_askedText_1 : decode cX6_askedText 1 = .ok (.invokestatic 104, 3) := by decide +kernel
theorem dX6_askedText_4 : decode cX6_askedText 4 = .ok (.ifCond .ne 7, 3) := by decide +kernel
theorem dX6_askedText_7 : decode cX6_askedText 7 = .ok (.iconst (-1), 1) := by decide +kernel
theorem dX6_askedText_8 : decode cX6_askedText 8 = .ok (.goto 21, 3) := by decide +kernel
theorem dX6_askedText_11 : decode cX6_askedText 11 = .ok (.aload_n 0, 1) := by decide +kernel
theorem dX6_askedText_12 : decode cX6_askedText 12 = .ok (.getfield 22, 3) := by decide +kernel
theorem dX6_askedText_15 : decode cX6_askedText 15 = .ok (.iload_n 1, 1) := by decide +kernel
theorem dX6_askedText_16 : decode cX6_askedText 16 = .ok (.iaload, 1) := by decide +kernel
theorem dX6_askedText_17 : decode cX6_askedText 17 = .ok (.ifCond .ge 11, 3) := by decide +kernel
theorem dX6_askedText_20 : decode cX6_askedText 20 = .ok (.aload_n 0, 1) := by decide +kernel
theorem dX6_askedText_21 : decode cX6_askedText 21 = .ok (.iconst 1, 1) := by decide +kernel
theorem dX6_askedText_22 : decode cX6_askedText 22 = .ok (.invokevirtual 100, 3) := by decide +kernel
theorem dX6_askedText_25 : decode cX6_askedText 25 = .ok (.goto 4, 3) := by decide +kernel
theorem dX6_askedText_28 : decode cX6_askedText 28 = .ok (.iconst 0, 1) := by decide +kernel
theorem dX6_askedText_29 : decode cX6_askedText 29 = .ok (.ireturn, 1) := by decide +kernel
theorem dX6_rowAt_0 : decode cX6_rowAt 0 = .ok (.aload_n 0, 1) := by decide +kernel
theorem dX6_rowAt_1 : decode cX6_rowAt 1 = .ok (.getfield 16, 3) := by decide +kernel
theorem dX6_rowAt_4 : decode cX6_rowAt 4 = .ok (.bipush 40, 2) := by decide +kernel
theorem dX6_rowAt_6 : decode cX6_rowAt 6 = .ok (.iload_n 1, 1) := by decide +kernel
theorem dX6_rowAt_7 : decode cX6_rowAt 7 = .ok (.imul, 1) := by decide +kernel
theorem dX6_rowAt_8 : decode cX6_rowAt 8 = .ok (.iload_n 2, 1) := by decide +kernel
theorem dX6_rowAt_9 : decode cX6_rowAt 9 = .ok (.iadd, 1) := by decide +kernel
theorem dX6_rowAt_10 : decode cX6_rowAt 10 = .ok (.iaload, 1) := by decide +kernel
theorem dX6_rowAt_11 : decode cX6_rowAt 11 = .ok (.ireturn, 1) := by decide +kernel
theorem dX6_setRow_0 : decode cX6_setRow 0 = .ok (.aload_n 0, 1) := by decide +kernel
theorem dX6_setRow_1 : decode cX6_setRow 1 = .ok (.getfield 16, 3) := by decide +kernel
theorem dX6_setRow_4 : decode cX6_setRow 4 = .ok (.bipush 40, 2) := by decide +kernel
theorem dX6_setRow_6 : decode cX6_setRow 6 = .ok (.iload_n 1, 1) := by decide +kernel
theorem dX6_setRow_7 : decode cX6_setRow 7 = .ok (.imul, 1) := by decide +kernel
theorem dX6_setRow_8 : decode cX6_setRow 8 = .ok (.iload_n 2, 1) := by decide +kernel
theorem dX6_setRow_9 : decode cX6_setRow 9 = .ok (.iadd, 1) := by decide +kernel
theorem dX6_setRow_10 : decode cX6_setRow 10 = .ok (.iload_n 3, 1) := by decide +kernel
theorem dX6_setRow_11 : decode cX6_setRow 11 = .ok (.iastore, 1) := by decide +kernel
theorem dX6_setRow_12 : decode cX6_setRow 12 = .ok (.return_, 1) := by decide +kernel
theorem dX6_row_0 : decode cX6_row 0 = .ok (.iload_n 1, 1) := by decide +kernel
theorem dX6_row_1 : decode cX6_row 1 = .ok (.invokestatic 96, 3) := by decide +kernel
theorem dX6_row_4 : decode cX6_row 4 = .ok (.ifCond .eq 9, 3) := by decide +kernel
theorem dX6_row_7 : decode cX6_row 7 = .ok (.iload_n 2, 1) := by decide +kernel
theorem dX6_row_8 : decode cX6_row 8 = .ok (.bipush 40, 2) := by decide +kernel
theorem dX6_row_10 : decode cX6_row 10 = .ok (.if_icmp .le 5, 3) := by decide +kernel
theorem dX6_row_13 : decode cX6_row 13 = .ok (.iconst (-1), 1) := by decide +kernel
theorem dX6_row_14 : decode cX6_row 14 = .ok (.ireturn, 1) := by decide +kernel
theorem dX6_row_15 : decode cX6_row 15 = .ok (.iload_n 2, 1) := by decide +kernel
theorem dX6_row_16 : decode cX6_row 16 = .ok (.ifCond .ge 9, 3) := by decide +kernel
theorem dX6_row_19 : decode cX6_row 19 = .ok (.aload_n 0, 1) := by decide +kernel
theorem dX6_row_20 : decode cX6_row 20 = .ok (.iconst 5, 1) := by decide +kernel
theorem dX6_row_21 : decode cX6_row 21 = .ok (.invokevirtual 100, 3) := by decide +kernel
theorem dX6_row_24 : decode cX6_row 24 = .ok (.ireturn, 1) := by decide +kernel
theorem dX6_row_25 : decode cX6_row 25 = .ok (.aload_n 0, 1) := by decide +kernel
theorem dX6_row_26 : decode cX6_row 26 = .ok (.getfield 13, 3) := by decide +kernel
theorem dX6_row_29 : decode cX6_row 29 = .ok (.iload_n 1, 1) := by decide +kernel
theorem dX6_row_30 : decode cX6_row 30 = .ok (.iload_n 2, 1) := by decide +kernel
theorem dX6_row_31 : decode cX6_row 31 = .ok (.iastore, 1) := by decide +kernel
theorem dX6_row_32 : decode cX6_row 32 = .ok (.iconst 0, 1) := by decide +kernel
theorem dX6_row_33 : decode cX6_row 33 = .ok (.istore_n 3, 1) := by decide +kernel
theorem dX6_row_34 : decode cX6_row 34 = .ok (.iload_n 3, 1) := by decide +kernel
theorem dX6_row_35 : decode cX6_row 35 = .ok (.bipush 40, 2) := by decide +kernel
theorem dX6_row_37 : decode cX6_row 37 = .ok (.if_icmp .ge 16, 3) := by decide +kernel
theorem dX6_row_40 : decode cX6_row 40 = .ok (.aload_n 0, 1) := by decide +kernel
theorem dX6_row_41 : decode cX6_row 41 = .ok (.iload_n 1, 1) := by decide +kernel
theorem dX6_row_42 : decode cX6_row 42 = .ok (.iload_n 3, 1) := by decide +kernel
theorem dX6_row_43 : decode cX6_row 43 = .ok (.iconst 0, 1) := by decide +kernel
theorem dX6_row_44 : decode cX6_row 44 = .ok (.invokevirtual 107, 3) := by decide +kernel
theorem dX6_row_47 : decode cX6_row 47 = .ok (.iinc 3 1, 3) := by decide +kernel
theorem dX6_row_50 : decode cX6_row 50 = .ok (.goto (-16), 3) := by decide +kernel
theorem dX6_row_53 : decode cX6_row 53 = .ok (.iload_n 2, 1) := by decide +kernel
theorem dX6_row_54 : decode cX6_row 54 = .ok (.ireturn, 1) := by decide +kernel
theorem dX6_at_0 : decode cX6_at 0 = .ok (.aload_n 0, 1) := by decide +kernel
theorem dX6_at_1 : decode cX6_at 1 = .ok (.iload_n 1, 1) := by decide +kernel
theorem dX6_at_2 : decode cX6_at 2 = .ok (.invokevirtual 111, 3) := by decide +kernel
theorem dX6_at_5 : decode cX6_at 5 = .ok (.istore_n 3, 1) := by decide +kernel
theorem dX6_at_6 : decode cX6_at 6 = .ok (.iload_n 3, 1) := by decide +kernel
theorem dX6_at_7 : decode cX6_at 7 = .ok (.ifCond .ge 5, 3) := by decide +kernel
theorem dX6_at_10 : decode cX6_at 10 = .ok (.iload_n 3, 1) := by decide +kernel
theorem dX6_at_11 : decode cX6_at 11 = .ok (.ireturn, 1) := by decide +kernel
theorem dX6_at_12 : decode cX6_at 12 = .ok (.iload_n 2, 1) := by decide +kernel
theorem dX6_at_13 : decode cX6_at 13 = .ok (.iconst 0, 1) := by decide +kernel
theorem dX6_at_14 : decode cX6_at 14 = .ok (.aload_n 0, 1) := by decide +kernel
theorem dX6_at_15 : decode cX6_at 15 = .ok (.getfield 13, 3) := by decide +kernel
theorem dX6_at_18 : decode cX6_at 18 = .ok (.iload_n 1, 1) := by decide +kernel
theorem dX6_at_19 : decode cX6_at 19 = .ok (.iaload, 1) := by decide +kernel
theorem dX6_at_20 : decode cX6_at 20 = .ok (.iconst 1, 1) := by decide +kernel
theorem dX6_at_21 : decode cX6_at 21 = .ok (.isub, 1) := by decide +kernel
theorem dX6_at_22 : decode cX6_at 22 = .ok (.invokestatic 92, 3) := by decide +kernel
theorem dX6_at_25 : decode cX6_at 25 = .ok (.ifCond .eq 17, 3) := by decide +kernel
theorem dX6_at_28 : decode cX6_at 28 = .ok (.aload_n 0, 1) := by decide +kernel
theorem dX6_at_29 : decode cX6_at 29 = .ok (.aload_n 0, 1) := by decide +kernel
theorem dX6_at_30 : decode cX6_at 30 = .ok (.iload_n 1, 1) := by decide +kernel
theorem dX6_at_31 : decode cX6_at 31 = .ok (.iload_n 2, 1) := by decide +kernel
theorem dX6_at_32 : decode cX6_at 32 = .ok (.invokevirtual 114, 3) := by decide +kernel
theorem dX6_at_35 : decode cX6_at 35 = .ok (.iconst 1, 1) := by decide +kernel
theorem dX6_at_36 : decode cX6_at 36 = .ok (.invokevirtual 118, 3) := by decide +kernel
theorem dX6_at_39 : decode cX6_at 39 = .ok (.goto 8, 3) := by decide +kernel
theorem dX6_at_42 : decode cX6_at 42 = .ok (.aload_n 0, 1) := by decide +kernel
theorem dX6_at_43 : decode cX6_at 43 = .ok (.iconst 2, 1) := by decide +kernel
theorem dX6_at_44 : decode cX6_at 44 = .ok (.invokevirtual 100, 3) := by decide +kernel
theorem dX6_at_47 : decode cX6_at 47 = .ok (.ireturn, 1) := by decide +kernel
theorem dX6_lay_0 : decode cX6_lay 0 = .ok (.aload_n 0, 1) := by decide +kernel
theorem dX6_lay_1 : decode cX6_lay 1 = .ok (.iload_n 1, 1) := by decide +kernel
theorem dX6_lay_2 : decode cX6_lay 2 = .ok (.iload_n 2, 1) := by decide +kernel
theorem dX6_lay_3 : decode cX6_lay 3 = .ok (.invokevirtual 121, 3) := by decide +kernel
theorem dX6_lay_6 : decode cX6_lay 6 = .ok (.istore 4, 2) := by decide +kernel
theorem dX6_lay_8 : decode cX6_lay 8 = .ok (.iload 4, 2) := by decide +kernel
theorem dX6_lay_10 : decode cX6_lay 10 = .ok (.ifCond .ge 6, 3) := by decide +kernel
theorem dX6_lay_13 : decode cX6_lay 13 = .ok (.iload 4, 2) := by decide +kernel
theorem dX6_lay_15 : decode cX6_lay 15 = .ok (.ireturn, 1) := by decide +kernel
theorem dX6_lay_16 : decode cX6_lay 16 = .ok (.aload_n 0, 1) := by decide +kernel
theorem dX6_lay_17 : decode cX6_lay 17 = .ok (.iload_n 1, 1) := by decide +kernel
theorem dX6_lay_18 : decode cX6_lay 18 = .ok (.iload_n 2, 1) := by decide +kernel
theorem dX6_lay_19 : decode cX6_lay 19 = .ok (.iload_n 3, 1) := by decide +kernel
theorem dX6_lay_20 : decode cX6_lay 20 = .ok (.invokevirtual 107, 3) := by decide +kernel
theorem dX6_lay_23 : decode cX6_lay 23 = .ok (.iconst 1, 1) := by decide +kernel
theorem dX6_lay_24 : decode cX6_lay 24 = .ok (.ireturn, 1) := by decide +kernel
theorem dX6_tear_0 : decode cX6_tear 0 = .ok (.aload_n 0, 1) := by decide +kernel
theorem dX6_tear_1 : decode cX6_tear 1 = .ok (.iload_n 1, 1) := by decide +kernel
theorem dX6_tear_2 : decode cX6_tear 2 = .ok (.invokevirtual 111, 3) := by decide +kernel
theorem dX6_tear_5 : decode cX6_tear 5 = .ok (.istore_n 2, 1) := by decide +kernel
theorem dX6_tear_6 : decode cX6_tear 6 = .ok (.iload_n 2, 1) := by decide +kernel
theorem dX6_tear_7 : decode cX6_tear 7 = .ok (.ifCond .ge 5, 3) := by decide +kernel
theorem dX6_tear_10 : decode cX6_tear 10 = .ok (.iload_n 2, 1) := by decide +kernel
theorem dX6_tear_11 : decode cX6_tear 11 = .ok (.ireturn, 1) := by decide +kernel
theorem dX6_tear_12 : decode cX6_tear 12 = .ok (.aload_n 0, 1) := by decide +kernel
theorem dX6_tear_13 : decode cX6_tear 13 = .ok (.getfield 13, 3) := by decide +kernel
theorem dX6_tear_16 : decode cX6_tear 16 = .ok (.iload_n 1, 1) := by decide +kernel
theorem dX6_tear_17 : decode cX6_tear 17 = .ok (.bipush (-9), 2) := by decide +kernel
theorem dX6_tear_19 : decode cX6_tear 19 = .ok (.iastore, 1) := by decide +kernel
theorem dX6_tear_20 : decode cX6_tear 20 = .ok (.iconst 1, 1) := by decide +kernel
theorem dX6_tear_21 : decode cX6_tear 21 = .ok (.ireturn, 1) := by decide +kernel
theorem dX6_copy_0 : decode cX6_copy 0 = .ok (.iload_n 1, 1) := by decide +kernel
theorem dX6_copy_1 : decode cX6_copy 1 = .ok (.invokestatic 96, 3) := by decide +kernel
theorem dX6_copy_4 : decode cX6_copy 4 = .ok (.ifCond .eq 10, 3) := by decide +kernel
theorem dX6_copy_7 : decode cX6_copy 7 = .ok (.iload_n 3, 1) := by decide +kernel
theorem dX6_copy_8 : decode cX6_copy 8 = .ok (.invokestatic 96, 3) := by decide +kernel
theorem dX6_copy_11 : decode cX6_copy 11 = .ok (.ifCond .ne 5, 3) := by decide +kernel
theorem dX6_copy_14 : decode cX6_copy 14 = .ok (.iconst (-1), 1) := by decide +kernel
theorem dX6_copy_15 : decode cX6_copy 15 = .ok (.ireturn, 1) := by decide +kernel
theorem dX6_copy_16 : decode cX6_copy 16 = .ok (.iload 5, 2) := by decide +kernel
theorem dX6_copy_18 : decode cX6_copy 18 = .ok (.ifCond .ge 9, 3) := by decide +kernel
theorem dX6_copy_21 : decode cX6_copy 21 = .ok (.aload_n 0, 1) := by decide +kernel
theorem dX6_copy_22 : decode cX6_copy 22 = .ok (.iconst 5, 1) := by decide +kernel
theorem dX6_copy_23 : decode cX6_copy 23 = .ok (.invokevirtual 100, 3) := by decide +kernel
theorem dX6_copy_26 : decode cX6_copy 26 = .ok (.ireturn, 1) := by decide +kernel
theorem dX6_copy_27 : decode cX6_copy 27 = .ok (.aload_n 0, 1) := by decide +kernel
theorem dX6_copy_28 : decode cX6_copy 28 = .ok (.getfield 13, 3) := by decide +kernel
theorem dX6_copy_31 : decode cX6_copy 31 = .ok (.iload_n 1, 1) := by decide +kernel
theorem dX6_copy_32 : decode cX6_copy 32 = .ok (.iaload, 1) := by decide +kernel
theorem dX6_copy_33 : decode cX6_copy 33 = .ok (.ifCond .lt 12, 3) := by decide +kernel
theorem dX6_copy_36 : decode cX6_copy 36 = .ok (.aload_n 0, 1) := by decide +kernel
theorem dX6_copy_37 : decode cX6_copy 37 = .ok (.getfield 13, 3) := by decide +kernel
theorem dX6_copy_40 : decode cX6_copy 40 = .ok (.iload_n 3, 1) := by decide +kernel
theorem dX6_copy_41 : decode cX6_copy 41 = .ok (.iaload, 1) := by decide +kernel
theorem dX6_copy_42 : decode cX6_copy 42 = .ok (.ifCond .ge 9, 3) := by decide +kernel
theorem dX6_copy_45 : decode cX6_copy 45 = .ok (.aload_n 0, 1) := by decide +kernel
theorem dX6_copy_46 : decode cX6_copy 46 = .ok (.iconst 1, 1) := by decide +kernel
theorem dX6_copy_47 : decode cX6_copy 47 = .ok (.invokevirtual 100, 3) := by decide +kernel
theorem dX6_copy_50 : decode cX6_copy 50 = .ok (.ireturn, 1) := by decide +kernel
theorem dX6_copy_51 : decode cX6_copy 51 = .ok (.iload_n 2, 1) := by decide +kernel
theorem dX6_copy_52 : decode cX6_copy 52 = .ok (.ifCond .lt 43, 3) := by decide +kernel
theorem dX6_copy_55 : decode cX6_copy 55 = .ok (.iload 4, 2) := by decide +kernel
theorem dX6_copy_57 : decode cX6_copy 57 = .ok (.ifCond .lt 38, 3) := by decide +kernel
theorem dX6_copy_60 : decode cX6_copy 60 = .ok (.iload_n 2, 1) := by decide +kernel
theorem dX6_copy_61 : decode cX6_copy 61 = .ok (.i2l, 1) := by decide +kernel
theorem dX6_copy_62 : decode cX6_copy 62 = .ok (.iload 5, 2) := by decide +kernel
theorem dX6_copy_64 : decode cX6_copy 64 = .ok (.i2l, 1) := by decide +kernel
theorem dX6_copy_65 : decode cX6_copy 65 = .ok (.ladd, 1) := by decide +kernel
theorem dX6_copy_66 : decode cX6_copy 66 = .ok (.aload_n 0, 1) := by decide +kernel
theorem dX6_copy_67 : decode cX6_copy 67 = .ok (.getfield 13, 3) := by decide +kernel
theorem dX6_copy_70 : decode cX6_copy 70 = .ok (.iload_n 1, 1) := by decide +kernel
theorem dX6_copy_71 : decode cX6_copy 71 = .ok (.iaload, 1) := by decide +kernel
theorem dX6_copy_72 : decode cX6_copy 72 = .ok (.i2l, 1) := by decide +kernel
theorem dX6_copy_73 : decode cX6_copy 73 = .ok (.lcmp, 1) := by decide +kernel
theorem dX6_copy_74 : decode cX6_copy 74 = .ok (.ifCond .gt 21, 3) := by decide +kernel
theorem dX6_copy_77 : decode cX6_copy 77 = .ok (.iload 4, 2) := by decide +kernel
theorem dX6_copy_79 : decode cX6_copy 79 = .ok (.i2l, 1) := by decide +kernel
theorem dX6_copy_80 : decode cX6_copy 80 = .ok (.iload 5, 2) := by decide +kernel
theorem dX6_copy_82 : decode cX6_copy 82 = .ok (.i2l, 1) := by decide +kernel
theorem dX6_copy_83 : decode cX6_copy 83 = .ok (.ladd, 1) := by decide +kernel
theorem dX6_copy_84 : decode cX6_copy 84 = .ok (.aload_n 0, 1) := by decide +kernel
theorem dX6_copy_85 : decode cX6_copy 85 = .ok (.getfield 13, 3) := by decide +kernel
theorem dX6_copy_88 : decode cX6_copy 88 = .ok (.iload_n 3, 1) := by decide +kernel
theorem dX6_copy_89 : decode cX6_copy 89 = .ok (.iaload, 1) := by decide +kernel
theorem dX6_copy_90 : decode cX6_copy 90 = .ok (.i2l, 1) := by decide +kernel
theorem dX6_copy_91 : decode cX6_copy 91 = .ok (.lcmp, 1) := by decide +kernel
theorem dX6_copy_92 : decode cX6_copy 92 = .ok (.ifCond .le 9, 3) := by decide +kernel
theorem dX6_copy_95 : decode cX6_copy 95 = .ok (.aload_n 0, 1) := by decide +kernel
theorem dX6_copy_96 : decode cX6_copy 96 = .ok (.iconst 2, 1) := by decide +kernel
theorem dX6_copy_97 : decode cX6_copy 97 = .ok (.invokevirtual 100, 3) := by decide +kernel
theorem dX6_copy_100 : decode cX6_copy 100 = .ok (.ireturn, 1) := by decide +kernel
theorem dX6_copy_101 : decode cX6_copy 101 = .ok (.iconst 0, 1) := by decide +kernel
theorem dX6_copy_102 : decode cX6_copy 102 = .ok (.istore 6, 2) := by decide +kernel
theorem dX6_copy_104 : decode cX6_copy 104 = .ok (.iload 6, 2) := by decide +kernel
theorem dX6_copy_106 : decode cX6_copy 106 = .ok (.iload 5, 2) := by decide +kernel
theorem dX6_copy_108 : decode cX6_copy 108 = .ok (.if_icmp .ge 25, 3) := by decide +kernel
theorem dX6_copy_111 : decode cX6_copy 111 = .ok (.aload_n 0, 1) := by decide +kernel
theorem dX6_copy_112 : decode cX6_copy 112 = .ok (.getfield 19, 3) := by decide +kernel
theorem dX6_copy_115 : decode cX6_copy 115 = .ok (.iload 6, 2) := by decide +kernel
theorem dX6_copy_117 : decode cX6_copy 117 = .ok (.aload_n 0, 1) := by decide +kernel
theorem dX6_copy_118 : decode cX6_copy 118 = .ok (.iload_n 1, 1) := by decide +kernel
theorem dX6_copy_119 : decode cX6_copy 119 = .ok (.iload_n 2, 1) := by decide +kernel
theorem dX6_copy_120 : decode cX6_copy 120 = .ok (.iload 6, 2) := by decide +kernel
theorem dX6_copy_122 : decode cX6_copy 122 = .ok (.iadd, 1) := by decide +kernel
theorem dX6_copy_123 : decode cX6_copy 123 = .ok (.invokevirtual 114, 3) := by decide +kernel
theorem dX6_copy_126 : decode cX6_copy 126 = .ok (.iastore, 1) := by decide +kernel
theorem dX6_copy_127 : decode cX6_copy 127 = .ok (.iinc 6 1, 3) := by decide +kernel
theorem dX6_copy_130 : decode cX6_copy 130 = .ok (.goto (-26), 3) := by decide +kernel
theorem dX6_copy_133 : decode cX6_copy 133 = .ok (.iconst 0, 1) := by decide +kernel
theorem dX6_copy_134 : decode cX6_copy 134 = .ok (.istore 6, 2) := by decide +kernel
theorem dX6_copy_136 : decode cX6_copy 136 = .ok (.iload 6, 2) := by decide +kernel
theorem dX6_copy_138 : decode cX6_copy 138 = .ok (.iload 5, 2) := by decide +kernel
theorem dX6_copy_140 : decode cX6_copy 140 = .ok (.if_icmp .ge 26, 3) := by decide +kernel
theorem dX6_copy_143 : decode cX6_copy 143 = .ok (.aload_n 0, 1) := by decide +kernel
theorem dX6_copy_144 : decode cX6_copy 144 = .ok (.iload_n 3, 1) := by decide +kernel
theorem dX6_copy_145 : decode cX6_copy 145 = .ok (.iload 4, 2) := by decide +kernel
theorem dX6_copy_147 : decode cX6_copy 147 = .ok (.iload 6, 2) := by decide +kernel
theorem dX6_copy_149 : decode cX6_copy 149 = .ok (.iadd, 1) := by decide +kernel
theorem dX6_copy_150 : decode cX6_copy 150 = .ok (.aload_n 0, 1) := by decide +kernel
theorem dX6_copy_151 : decode cX6_copy 151 = .ok (.getfield 19, 3) := by decide +kernel
theorem dX6_copy_154 : decode cX6_copy 154 = .ok (.iload 6, 2) := by decide +kernel
theorem dX6_copy_156 : decode cX6_copy 156 = .ok (.iaload, 1) := by decide +kernel
theorem dX6_copy_157 : decode cX6_copy 157 = .ok (.invokevirtual 107, 3) := by decide +kernel
theorem dX6_copy_160 : decode cX6_copy 160 = .ok (.iinc 6 1, 3) := by decide +kernel
theorem dX6_copy_163 : decode cX6_copy 163 = .ok (.goto (-27), 3) := by decide +kernel
theorem dX6_copy_166 : decode cX6_copy 166 = .ok (.iconst 1, 1) := by decide +kernel
theorem dX6_copy_167 : decode cX6_copy 167 = .ok (.ireturn, 1) := by decide +kernel
theorem dX6_mean_0 : decode cX6_mean 0 = .ok (.aload_n 0, 1) := by decide +kernel
theorem dX6_mean_1 : decode cX6_mean 1 = .ok (.iload_n 1, 1) := by decide +kernel
theorem dX6_mean_2 : decode cX6_mean 2 = .ok (.invokevirtual 111, 3) := by decide +kernel
theorem dX6_mean_5 : decode cX6_mean 5 = .ok (.istore_n 2, 1) := by decide +kernel
theorem dX6_mean_6 : decode cX6_mean 6 = .ok (.iload_n 2, 1) := by decide +kernel
theorem dX6_mean_7 : decode cX6_mean 7 = .ok (.ifCond .ge 5, 3) := by decide +kernel
theorem dX6_mean_10 : decode cX6_mean 10 = .ok (.iload_n 2, 1) := by decide +kernel
theorem dX6_mean_11 : decode cX6_mean 11 = .ok (.ireturn, 1) := by decide +kernel
theorem dX6_mean_12 : decode cX6_mean 12 = .ok (.lconst 0, 1) := by decide +kernel
theorem dX6_mean_13 : decode cX6_mean 13 = .ok (.lstore_n 3, 1) := by decide +kernel
theorem dX6_mean_14 : decode cX6_mean 14 = .ok (.iconst 0, 1) := by decide +kernel
theorem dX6_mean_15 : decode cX6_mean 15 = .ok (.istore 5, 2) := by decide +kernel
theorem dX6_mean_17 : decode cX6_mean 17 = .ok (.iload 5, 2) := by decide +kernel
theorem dX6_mean_19 : decode cX6_mean 19 = .ok (.aload_n 0, 1) := by decide +kernel
theorem dX6_mean_20 : decode cX6_mean 20 = .ok (.getfield 13, 3) := by decide +kernel
theorem dX6_mean_23 : decode cX6_mean 23 = .ok (.iload_n 1, 1) := by decide +kernel
theorem dX6_mean_24 : decode cX6_mean 24 = .ok (.iaload, 1) := by decide +kernel
theorem dX6_mean_25 : decode cX6_mean 25 = .ok (.if_icmp .ge 20, 3) := by decide +kernel
theorem dX6_mean_28 : decode cX6_mean 28 = .ok (.lload_n 3, 1) := by decide +kernel
theorem dX6_mean_29 : decode cX6_mean 29 = .ok (.aload_n 0, 1) := by decide +kernel
theorem dX6_mean_30 : decode cX6_mean 30 = .ok (.iload_n 1, 1) := by decide +kernel
theorem dX6_mean_31 : decode cX6_mean 31 = .ok (.iload 5, 2) := by decide +kernel
theorem dX6_mean_33 : decode cX6_mean 33 = .ok (.invokevirtual 114, 3) := by decide +kernel
theorem dX6_mean_36 : decode cX6_mean 36 = .ok (.i2l, 1) := by decide +kernel
theorem dX6_mean_37 : decode cX6_mean 37 = .ok (.ladd, 1) := by decide +kernel
theorem dX6_mean_38 : decode cX6_mean 38 = .ok (.lstore_n 3, 1) := by decide +kernel
theorem dX6_mean_39 : decode cX6_mean 39 = .ok (.iinc 5 1, 3) := by decide +kernel
theorem dX6_mean_42 : decode cX6_mean 42 = .ok (.goto (-25), 3) := by decide +kernel
theorem dX6_mean_45 : decode cX6_mean 45 = .ok (.aload_n 0, 1) := by decide +kernel
theorem dX6_mean_46 : decode cX6_mean 46 = .ok (.getfield 13, 3) := by decide +kernel
theorem dX6_mean_49 : decode cX6_mean 49 = .ok (.iload_n 1, 1) := by decide +kernel
theorem dX6_mean_50 : decode cX6_mean 50 = .ok (.iaload, 1) := by decide +kernel
theorem dX6_mean_51 : decode cX6_mean 51 = .ok (.ifCond .ne 11, 3) := by decide +kernel
theorem dX6_mean_54 : decode cX6_mean 54 = .ok (.aload_n 0, 1) := by decide +kernel
theorem dX6_mean_55 : decode cX6_mean 55 = .ok (.iconst 4, 1) := by decide +kernel
theorem dX6_mean_56 : decode cX6_mean 56 = .ok (.invokevirtual 100, 3) := by decide +kernel
theorem dX6_mean_59 : decode cX6_mean 59 = .ok (.goto 18, 3) := by decide +kernel
theorem dX6_mean_62 : decode cX6_mean 62 = .ok (.aload_n 0, 1) := by decide +kernel
theorem dX6_mean_63 : decode cX6_mean 63 = .ok (.lload_n 3, 1) := by decide +kernel
theorem dX6_mean_64 : decode cX6_mean 64 = .ok (.aload_n 0, 1) := by decide +kernel
theorem dX6_mean_65 : decode cX6_mean 65 = .ok (.getfield 13, 3) := by decide +kernel
theorem dX6_mean_68 : decode cX6_mean 68 = .ok (.iload_n 1, 1) := by decide +kernel
theorem dX6_mean_69 : decode cX6_mean 69 = .ok (.iaload, 1) := by decide +kernel
theorem dX6_mean_70 : decode cX6_mean 70 = .ok (.i2l, 1) := by decide +kernel
theorem dX6_mean_71 : decode cX6_mean 71 = .ok (.ldiv, 1) := by decide +kernel
theorem dX6_mean_72 : decode cX6_mean 72 = .ok (.l2i, 1) := by decide +kernel
theorem dX6_mean_73 : decode cX6_mean 73 = .ok (.iconst 1, 1) := by decide +kernel
theorem dX6_mean_74 : decode cX6_mean 74 = .ok (.invokevirtual 118, 3) := by decide +kernel
theorem dX6_mean_77 : decode cX6_mean 77 = .ok (.ireturn, 1) := by decide +kernel
theorem dX6_text_0 : decode cX6_text 0 = .ok (.iload_n 1, 1) := by decide +kernel
theorem dX6_text_1 : decode cX6_text 1 = .ok (.invokestatic 104, 3) := by decide +kernel
theorem dX6_text_4 : decode cX6_text 4 = .ok (.ifCond .eq 9, 3) := by decide +kernel
theorem dX6_text_7 : decode cX6_text 7 = .ok (.iload_n 2, 1) := by decide +kernel
theorem dX6_text_8 : decode cX6_text 8 = .ok (.bipush 80, 2) := by decide +kernel
theorem dX6_text_10 : decode cX6_text 10 = .ok (.if_icmp .le 5, 3) := by decide +kernel
theorem dX6_text_13 : decode cX6_text 13 = .ok (.iconst (-1), 1) := by decide +kernel
theorem dX6_text_14 : decode cX6_text 14 = .ok (.ireturn, 1) := by decide +kernel
theorem dX6_text_15 : decode cX6_text 15 = .ok (.iload_n 2, 1) := by decide +kernel
theorem dX6_text_16 : decode cX6_text 16 = .ok (.ifCond .ge 9, 3) := by decide +kernel
theorem dX6_text_19 : decode cX6_text 19 = .ok (.aload_n 0, 1) := by decide +kernel
theorem dX6_text_20 : decode cX6_text 20 = .ok (.iconst 5, 1) := by decide +kernel
theorem dX6_text_21 : decode cX6_text 21 = .ok (.invokevirtual 100, 3) := by decide +kernel
theorem dX6_text_24 : decode cX6_text 24 = .ok (.ireturn, 1) := by decide +kernel
theorem dX6_text_25 : decode cX6_text 25 = .ok (.aload_n 0, 1) := by decide +kernel
theorem dX6_text_26 : decode cX6_text 26 = .ok (.getfield 22, 3) := by decide +kernel
theorem dX6_text_29 : decode cX6_text 29 = .ok (.iload_n 1, 1) := by decide +kernel
theorem dX6_text_30 : decode cX6_text 30 = .ok (.iload_n 2, 1) := by decide +kernel
theorem dX6_text_31 : decode cX6_text 31 = .ok (.iastore, 1) := by decide +kernel
theorem dX6_text_32 : decode cX6_text 32 = .ok (.iconst 0, 1) := by decide +kernel
theorem dX6_text_33 : decode cX6_text 33 = .ok (.istore_n 3, 1) := by decide +kernel
theorem dX6_text_34 : decode cX6_text 34 = .ok (.iload_n 3, 1) := by decide +kernel
theorem dX6_text_35 : decode cX6_text 35 = .ok (.bipush 80, 2) := by decide +kernel
theorem dX6_text_37 : decode cX6_text 37 = .ok (.if_icmp .ge 22, 3) := by decide +kernel
theorem dX6_text_40 : decode cX6_text 40 = .ok (.aload_n 0, 1) := by decide +kernel
theorem dX6_text_41 : decode cX6_text 41 = .ok (.getfield 25, 3) := by decide +kernel
theorem dX6_text_44 : decode cX6_text 44 = .ok (.bipush 80, 2) := by decide +kernel
theorem dX6_text_46 : decode cX6_text 46 = .ok (.iload_n 1, 1) := by decide +kernel
theorem dX6_text_47 : decode cX6_text 47 = .ok (.imul, 1) := by decide +kernel
theorem dX6_text_48 : decode cX6_text 48 = .ok (.iload_n 3, 1) := by decide +kernel
theorem dX6_text_49 : decode cX6_text 49 = .ok (.iadd, 1) := by decide +kernel
theorem dX6_text_50 : decode cX6_text 50 = .ok (.bipush 32, 2) := by decide +kernel
theorem dX6_text_52 : decode cX6_text 52 = .ok (.iastore, 1) := by decide +kernel
theorem dX6_text_53 : decode cX6_text 53 = .ok (.iinc 3 1, 3) := by decide +kernel
theorem dX6_text_56 : decode cX6_text 56 = .ok (.goto (-22), 3) := by decide +kernel
theorem dX6_text_59 : decode cX6_text 59 = .ok (.iload_n 2, 1) := by decide +kernel
theorem dX6_text_60 : decode cX6_text 60 = .ok (.ireturn, 1) := by decide +kernel
theorem dX6_put_0 : decode cX6_put 0 = .ok (.aload_n 0, 1) := by decide +kernel
theorem dX6_put_1 : decode cX6_put 1 = .ok (.iload_n 1, 1) := by decide +kernel
theorem dX6_put_2 : decode cX6_put 2 = .ok (.invokevirtual 124, 3) := by decide +kernel
theorem dX6_put_5 : decode cX6_put 5 = .ok (.istore 4, 2) := by decide +kernel
theorem dX6_put_7 : decode cX6_put 7 = .ok (.iload 4, 2) := by decide +kernel
theorem dX6_put_9 : decode cX6_put 9 = .ok (.ifCond .ge 6, 3) := by decide +kernel
theorem dX6_put_12 : decode cX6_put 12 = .ok (.iload 4, 2) := by decide +kernel
theorem dX6_put_14 : decode cX6_put 14 = .ok (.ireturn, 1) := by decide +kernel
theorem dX6_put_15 : decode cX6_put 15 = .ok (.iload_n 2, 1) := by decide +kernel
theorem dX6_put_16 : decode cX6_put 16 = .ok (.iconst 0, 1) := by decide +kernel
theorem dX6_put_17 : decode cX6_put 17 = .ok (.aload_n 0, 1) := by decide +kernel
theorem dX6_put_18 : decode cX6_put 18 = .ok (.getfield 22, 3) := by decide +kernel
theorem dX6_put_21 : decode cX6_put 21 = .ok (.iload_n 1, 1) := by decide +kernel
theorem dX6_put_22 : decode cX6_put 22 = .ok (.iaload, 1) := by decide +kernel
theorem dX6_put_23 : decode cX6_put 23 = .ok (.iconst 1, 1) := by decide +kernel
theorem dX6_put_24 : decode cX6_put 24 = .ok (.isub, 1) := by decide +kernel
theorem dX6_put_25 : decode cX6_put 25 = .ok (.invokestatic 92, 3) := by decide +kernel
theorem dX6_put_28 : decode cX6_put 28 = .ok (.ifCond .ne 9, 3) := by decide +kernel
theorem dX6_put_31 : decode cX6_put 31 = .ok (.aload_n 0, 1) := by decide +kernel
theorem dX6_put_32 : decode cX6_put 32 = .ok (.iconst 2, 1) := by decide +kernel
theorem dX6_put_33 : decode cX6_put 33 = .ok (.invokevirtual 100, 3) := by decide +kernel
theorem dX6_put_36 : decode cX6_put 36 = .ok (.ireturn, 1) := by decide +kernel
theorem dX6_put_37 : decode cX6_put 37 = .ok (.aload_n 0, 1) := by decide +kernel
theorem dX6_put_38 : decode cX6_put 38 = .ok (.getfield 25, 3) := by decide +kernel
theorem dX6_put_41 : decode cX6_put 41 = .ok (.bipush 80, 2) := by decide +kernel
theorem dX6_put_43 : decode cX6_put 43 = .ok (.iload_n 1, 1) := by decide +kernel
theorem dX6_put_44 : decode cX6_put 44 = .ok (.imul, 1) := by decide +kernel
theorem dX6_put_45 : decode cX6_put 45 = .ok (.iload_n 2, 1) := by decide +kernel
theorem dX6_put_46 : decode cX6_put 46 = .ok (.iadd, 1) := by decide +kernel
theorem dX6_put_47 : decode cX6_put 47 = .ok (.iaload, 1) := by decide +kernel
theorem dX6_put_48 : decode cX6_put 48 = .ok (.istore 5, 2) := by decide +kernel
theorem dX6_put_50 : decode cX6_put 50 = .ok (.aload_n 0, 1) := by decide +kernel
theorem dX6_put_51 : decode cX6_put 51 = .ok (.getfield 25, 3) := by decide +kernel
theorem dX6_put_54 : decode cX6_put 54 = .ok (.bipush 80, 2) := by decide +kernel
theorem dX6_put_56 : decode cX6_put 56 = .ok (.iload_n 1, 1) := by decide +kernel
theorem dX6_put_57 : decode cX6_put 57 = .ok (.imul, 1) := by decide +kernel
theorem dX6_put_58 : decode cX6_put 58 = .ok (.iload_n 2, 1) := by decide +kernel
theorem dX6_put_59 : decode cX6_put 59 = .ok (.iadd, 1) := by decide +kernel
theorem dX6_put_60 : decode cX6_put 60 = .ok (.iload_n 3, 1) := by decide +kernel
theorem dX6_put_61 : decode cX6_put 61 = .ok (.i2b, 1) := by decide +kernel
theorem dX6_put_62 : decode cX6_put 62 = .ok (.iastore, 1) := by decide +kernel
theorem dX6_put_63 : decode cX6_put 63 = .ok (.iload 5, 2) := by decide +kernel
theorem dX6_put_65 : decode cX6_put 65 = .ok (.sipush 1000, 3) := by decide +kernel
theorem dX6_put_68 : decode cX6_put 68 = .ok (.iadd, 1) := by decide +kernel
theorem dX6_put_69 : decode cX6_put 69 = .ok (.ireturn, 1) := by decide +kernel
theorem dX6_here_0 : decode cX6_here 0 = .ok (.aload_n 0, 1) := by decide +kernel
theorem dX6_here_1 : decode cX6_here 1 = .ok (.getfield 127, 3) := by decide +kernel
theorem dX6_here_4 : decode cX6_here 4 = .ok (.aload_n 0, 1) := by decide +kernel
theorem dX6_here_5 : decode cX6_here 5 = .ok (.getfield 22, 3) := by decide +kernel
theorem dX6_here_8 : decode cX6_here 8 = .ok (.iload_n 1, 1) := by decide +kernel
theorem dX6_here_9 : decode cX6_here 9 = .ok (.iaload, 1) := by decide +kernel
theorem dX6_here_10 : decode cX6_here 10 = .ok (.if_icmp .ge 20, 3) := by decide +kernel
theorem dX6_here_13 : decode cX6_here 13 = .ok (.aload_n 0, 1) := by decide +kernel
theorem dX6_here_14 : decode cX6_here 14 = .ok (.getfield 25, 3) := by decide +kernel
theorem dX6_here_17 : decode cX6_here 17 = .ok (.bipush 80, 2) := by decide +kernel
theorem dX6_here_19 : decode cX6_here 19 = .ok (.iload_n 1, 1) := by decide +kernel
theorem dX6_here_20 : decode cX6_here 20 = .ok (.imul, 1) := by decide +kernel
theorem dX6_here_21 : decode cX6_here 21 = .ok (.aload_n 0, 1) := by decide +kernel
theorem dX6_here_22 : decode cX6_here 22 = .ok (.getfield 127, 3) := by decide +kernel
theorem dX6_here_25 : decode cX6_here 25 = .ok (.iadd, 1) := by decide +kernel
theorem dX6_here_26 : decode cX6_here 26 = .ok (.iaload, 1) := by decide +kernel
theorem dX6_here_27 : decode cX6_here 27 = .ok (.goto 5, 3) := by decide +kernel
theorem dX6_here_30 : decode cX6_here 30 = .ok (.bipush (-9), 2) := by decide +kernel
theorem dX6_here_32 : decode cX6_here 32 = .ok (.ireturn, 1) := by decide +kernel
theorem dX6_kindOf_0 : decode cX6_kindOf 0 = .ok (.iload_n 0, 1) := by decide +kernel
theorem dX6_kindOf_1 : decode cX6_kindOf 1 = .ok (.bipush 98, 2) := by decide +kernel
theorem dX6_kindOf_3 : decode cX6_kindOf 3 = .ok (.if_icmp .ne 7, 3) := by decide +kernel
theorem dX6_kindOf_6 : decode cX6_kindOf 6 = .ok (.iconst 0, 1) := by decide +kernel
theorem dX6_kindOf_7 : decode cX6_kindOf 7 = .ok (.goto 55, 3) := by decide +kernel
theorem dX6_kindOf_10 : decode cX6_kindOf 10 = .ok (.iload_n 0, 1) := by decide +kernel
theorem dX6_kindOf_11 : decode cX6_kindOf 11 = .ok (.bipush 100, 2) := by decide +kernel
theorem dX6_kindOf_13 : decode cX6_kindOf 13 = .ok (.if_icmp .ne 7, 3) := by decide +kernel
theorem dX6_kindOf_16 : decode cX6_kindOf 16 = .ok (.iconst 1, 1) := by decide +kernel
theorem dX6_kindOf_17 : decode cX6_kindOf 17 = .ok (.goto 45, 3) := by decide +kernel
theorem dX6_kindOf_20 : decode cX6_kindOf 20 = .ok (.iload_n 0, 1) := by decide +kernel
theorem dX6_kindOf_21 : decode cX6_kindOf 21 = .ok (.bipush 112, 2) := by decide +kernel
theorem dX6_kindOf_23 : decode cX6_kindOf 23 = .ok (.if_icmp .ne 7, 3) := by decide +kernel
theorem dX6_kindOf_26 : decode cX6_kindOf 26 = .ok (.iconst 2, 1) := by decide +kernel
theorem dX6_kindOf_27 : decode cX6_kindOf 27 = .ok (.goto 35, 3) := by decide +kernel
theorem dX6_kindOf_30 : decode cX6_kindOf 30 = .ok (.iload_n 0, 1) := by decide +kernel
theorem dX6_kindOf_31 : decode cX6_kindOf 31 = .ok (.bipush 99, 2) := by decide +kernel
theorem dX6_kindOf_33 : decode cX6_kindOf 33 = .ok (.if_icmp .ne 7, 3) := by decide +kernel
theorem dX6_kindOf_36 : decode cX6_kindOf 36 = .ok (.iconst 3, 1) := by decide +kernel
theorem dX6_kindOf_37 : decode cX6_kindOf 37 = .ok (.goto 25, 3) := by decide +kernel
theorem dX6_kindOf_40 : decode cX6_kindOf 40 = .ok (.iload_n 0, 1) := by decide +kernel
theorem dX6_kindOf_41 : decode cX6_kindOf 41 = .ok (.bipush 116, 2) := by decide +kernel
theorem dX6_kindOf_43 : decode cX6_kindOf 43 = .ok (.if_icmp .ne 7, 3) := by decide +kernel
theorem dX6_kindOf_46 : decode cX6_kindOf 46 = .ok (.iconst 4, 1) := by decide +kernel
theorem dX6_kindOf_47 : decode cX6_kindOf 47 = .ok (.goto 15, 3) := by decide +kernel
theorem dX6_kindOf_50 : decode cX6_kindOf 50 = .ok (.iload_n 0, 1) := by decide +kernel
theorem dX6_kindOf_51 : decode cX6_kindOf 51 = .ok (.bipush 101, 2) := by decide +kernel
theorem dX6_kindOf_53 : decode cX6_kindOf 53 = .ok (.if_icmp .ne 7, 3) := by decide +kernel
theorem dX6_kindOf_56 : decode cX6_kindOf 56 = .ok (.iconst 5, 1) := by decide +kernel
theorem dX6_kindOf_57 : decode cX6_kindOf 57 = .ok (.goto 5, 3) := by decide +kernel
theorem dX6_kindOf_60 : decode cX6_kindOf 60 = .ok (.bipush (-9), 2) := by decide +kernel
theorem dX6_kindOf_62 : decode cX6_kindOf 62 = .ok (.ireturn, 1) := by decide +kernel
theorem dX6_readsGround_0 : decode cX6_readsGround 0 = .ok (.aload_n 0, 1) := by decide +kernel
theorem dX6_readsGround_1 : decode cX6_readsGround 1 = .ok (.iload_n 1, 1) := by decide +kernel
theorem dX6_readsGround_2 : decode cX6_readsGround 2 = .ok (.invokevirtual 130, 3) := by decide +kernel
theorem dX6_readsGround_5 : decode cX6_readsGround 5 = .ok (.bipush 103, 2) := by decide +kernel
theorem dX6_readsGround_7 : decode cX6_readsGround 7 = .ok (.if_icmp .eq 5, 3) := by decide +kernel
theorem dX6_readsGround_10 : decode cX6_readsGround 10 = .ok (.iconst 0, 1) := by decide +kernel
theorem dX6_readsGround_11 : decode cX6_readsGround 11 = .ok (.ireturn, 1) := by decide +kernel
theorem dX6_readsGround_12 : decode cX6_readsGround 12 = .ok (.aload_n 0, 1) := by decide +kernel
theorem dX6_readsGround_13 : decode cX6_readsGround 13 = .ok (.dup, 1) := by decide +kernel
theorem dX6_readsGround_14 : decode cX6_readsGround 14 = .ok (.getfield 127, 3) := by decide +kernel
theorem dX6_readsGround_17 : decode cX6_readsGround 17 = .ok (.iconst 1, 1) := by decide +kernel
theorem dX6_readsGround_18 : decode cX6_readsGround 18 = .ok (.iadd, 1) := by decide +kernel
theorem dX6_readsGround_19 : decode cX6_readsGround 19 = .ok (.putfield 127, 3) := by decide +kernel
theorem dX6_readsGround_22 : decode cX6_readsGround 22 = .ok (.iconst 0, 1) := by decide +kernel
theorem dX6_readsGround_23 : decode cX6_readsGround 23 = .ok (.istore_n 2, 1) := by decide +kernel
theorem dX6_readsGround_24 : decode cX6_readsGround 24 = .ok (.iload_n 2, 1) := by decide +kernel
theorem dX6_readsGround_25 : decode cX6_readsGround 25 = .ok (.bipush 10, 2) := by decide +kernel
theorem dX6_readsGround_27 : decode cX6_readsGround 27 = .ok (.if_icmp .ge 48, 3) := by decide +kernel
theorem dX6_readsGround_30 : decode cX6_readsGround 30 = .ok (.aload_n 0, 1) := by decide +kernel
theorem dX6_readsGround_31 : decode cX6_readsGround 31 = .ok (.iload_n 1, 1) := by decide +kernel
theorem dX6_readsGround_32 : decode cX6_readsGround 32 = .ok (.invokevirtual 130, 3) := by decide +kernel
theorem dX6_readsGround_35 : decode cX6_readsGround 35 = .ok (.bipush 48, 2) := by decide +kernel
theorem dX6_readsGround_37 : decode cX6_readsGround 37 = .ok (.bipush 57, 2) := by decide +kernel
theorem dX6_readsGround_39 : decode cX6_readsGround 39 = .ok (.invokestatic 92, 3) := by decide +kernel
theorem dX6_readsGround_42 : decode cX6_readsGround 42 = .ok (.ifCond .eq 33, 3) := by decide +kernel
theorem dX6_readsGround_45 : decode cX6_readsGround 45 = .ok (.aload_n 0, 1) := by decide +kernel
theorem dX6_readsGround_46 : decode cX6_readsGround 46 = .ok (.getfield 43, 3) := by decide +kernel
theorem dX6_readsGround_49 : decode cX6_readsGround 49 = .ok (.iload_n 2, 1) := by decide +kernel
theorem dX6_readsGround_50 : decode cX6_readsGround 50 = .ok (.aload_n 0, 1) := by decide +kernel
theorem dX6_readsGround_51 : decode cX6_readsGround 51 = .ok (.iload_n 1, 1) := by decide +kernel
theorem dX6_readsGround_52 : decode cX6_readsGround 52 = .ok (.invokevirtual 130, 3) := by decide +kernel
theorem dX6_readsGround_55 : decode cX6_readsGround 55 = .ok (.bipush 48, 2) := by decide +kernel
theorem dX6_readsGround_57 : decode cX6_readsGround 57 = .ok (.isub, 1) := by decide +kernel
theorem dX6_readsGround_58 : decode cX6_readsGround 58 = .ok (.iastore, 1) := by decide +kernel
theorem dX6_readsGround_59 : decode cX6_readsGround 59 = .ok (.iinc 2 1, 3) := by decide +kernel
theorem dX6_readsGround_62 : decode cX6_readsGround 62 = .ok (.aload_n 0, 1) := by decide +kernel
theorem dX6_readsGround_63 : decode cX6_readsGround 63 = .ok (.dup, 1) := by decide +kernel
theorem dX6_readsGround_64 : decode cX6_readsGround 64 = .ok (.getfield 127, 3) := by decide +kernel
theorem dX6_readsGround_67 : decode cX6_readsGround 67 = .ok (.iconst 1, 1) := by decide +kernel
theorem dX6_readsGround_68 : decode cX6_readsGround 68 = .ok (.iadd, 1) := by decide +kernel
theorem dX6_readsGround_69 : decode cX6_readsGround 69 = .ok (.putfield 127, 3) := by decide +kernel
theorem dX6_readsGround_72 : decode cX6_readsGround 72 = .ok (.goto (-48), 3) := by decide +kernel
theorem dX6_readsGround_75 : decode cX6_readsGround 75 = .ok (.iload_n 2, 1) := by decide +kernel
theorem dX6_readsGround_76 : decode cX6_readsGround 76 = .ok (.iconst 2, 1) := by decide +kernel
theorem dX6_readsGround_77 : decode cX6_readsGround 77 = .ok (.if_icmp .lt 18, 3) := by decide +kernel
theorem dX6_readsGround_80 : decode cX6_readsGround 80 = .ok (.aload_n 0, 1) := by decide +kernel
theorem dX6_readsGround_81 : decode cX6_readsGround 81 = .ok (.iload_n 1, 1) := by decide +kernel
theorem dX6_readsGround_82 : decode cX6_readsGround 82 = .ok (.invokevirtual 130, 3) := by decide +kernel
theorem dX6_readsGround_85 : decode cX6_readsGround 85 = .ok (.bipush 48, 2) := by decide +kernel
theorem dX6_readsGround_87 : decode cX6_readsGround 87 = .ok (.bipush 57, 2) := by decide +kernel
theorem dX6_readsGround_89 : decode cX6_readsGround 89 = .ok (.invokestatic 92, 3) := by decide +kernel
theorem dX6_readsGround_92 : decode cX6_readsGround 92 = .ok (.ifCond .eq 5, 3) := by decide +kernel
theorem dX6_readsGround_95 : decode cX6_readsGround 95 = .ok (.iconst 0, 1) := by decide +kernel
theorem dX6_readsGround_96 : decode cX6_readsGround 96 = .ok (.ireturn, 1) := by decide +kernel
theorem dX6_readsGround_97 : decode cX6_readsGround 97 = .ok (.aload_n 0, 1) := by decide +kernel
theorem dX6_readsGround_98 : decode cX6_readsGround 98 = .ok (.iload_n 2, 1) := by decide +kernel
theorem dX6_readsGround_99 : decode cX6_readsGround 99 = .ok (.putfield 133, 3) := by decide +kernel
theorem dX6_readsGround_102 : decode cX6_readsGround 102 = .ok (.iconst 1, 1) := by decide +kernel
theorem dX6_readsGround_103 : decode cX6_readsGround 103 = .ok (.ireturn, 1) := by decide +kernel
theorem dX6_readsBand_0 : decode cX6_readsBand 0 = .ok (.aload_n 0, 1) := by decide +kernel
theorem dX6_readsBand_1 : decode cX6_readsBand 1 = .ok (.iload_n 1, 1) := by decide +kernel
theorem dX6_readsBand_2 : decode cX6_readsBand 2 = .ok (.invokevirtual 130, 3) := by decide +kernel
theorem dX6_readsBand_5 : decode cX6_readsBand 5 = .ok (.invokestatic 136, 3) := by decide +kernel
theorem dX6_readsBand_8 : decode cX6_readsBand 8 = .ok (.istore_n 2, 1) := by decide +kernel
theorem dX6_readsBand_9 : decode cX6_readsBand 9 = .ok (.iload_n 2, 1) := by decide +kernel
theorem dX6_readsBand_10 : decode cX6_readsBand 10 = .ok (.bipush (-9), 2) := by decide +kernel
theorem dX6_readsBand_12 : decode cX6_readsBand 12 = .ok (.if_icmp .eq 11, 3) := by decide +kernel
theorem dX6_readsBand_15 : decode cX6_readsBand 15 = .ok (.aload_n 0, 1) := by decide +kernel
theorem dX6_readsBand_16 : decode cX6_readsBand 16 = .ok (.getfield 139, 3) := by decide +kernel
theorem dX6_readsBand_19 : decode cX6_readsBand 19 = .ok (.iconst 3, 1) := by decide +kernel
theorem dX6_readsBand_20 : decode cX6_readsBand 20 = .ok (.if_icmp .ne 5, 3) := by decide +kernel
theorem dX6_readsBand_23 : decode cX6_readsBand 23 = .ok (.iconst 0, 1) := by decide +kernel
theorem dX6_readsBand_24 : decode cX6_readsBand 24 = .ok (.ireturn, 1) := by decide +kernel
theorem dX6_readsBand_25 : decode cX6_readsBand 25 = .ok (.aload_n 0, 1) := by decide +kernel
theorem dX6_readsBand_26 : decode cX6_readsBand 26 = .ok (.dup, 1) := by decide +kernel
theorem dX6_readsBand_27 : decode cX6_readsBand 27 = .ok (.getfield 127, 3) := by decide +kernel
theorem dX6_readsBand_30 : decode cX6_readsBand 30 = .ok (.iconst 1, 1) := by decide +kernel
theorem dX6_readsBand_31 : decode cX6_readsBand 31 = .ok (.iadd, 1) := by decide +kernel
theorem dX6_readsBand_32 : decode cX6_readsBand 32 = .ok (.putfield 127, 3) := by decide +kernel
theorem dX6_readsBand_35 : decode cX6_readsBand 35 = .ok (.aload_n 0, 1) := by decide +kernel
theorem dX6_readsBand_36 : decode cX6_readsBand 36 = .ok (.iload_n 1, 1) := by decide +kernel
theorem dX6_readsBand_37 : decode cX6_readsBand 37 = .ok (.invokevirtual 130, 3) := by decide +kernel
theorem dX6_readsBand_40 : decode cX6_readsBand 40 = .ok (.bipush 48, 2) := by decide +kernel
theorem dX6_readsBand_42 : decode cX6_readsBand 42 = .ok (.bipush 47, 2) := by decide +kernel
theorem dX6_readsBand_44 : decode cX6_readsBand 44 = .ok (.aload_n 0, 1) := by decide +kernel
theorem dX6_readsBand_45 : decode cX6_readsBand 45 = .ok (.getfield 133, 3) := by decide +kernel
theorem dX6_readsBand_48 : decode cX6_readsBand 48 = .ok (.iadd, 1) := by decide +kernel
theorem dX6_readsBand_49 : decode cX6_readsBand 49 = .ok (.invokestatic 92, 3) := by decide +kernel
theorem dX6_readsBand_52 : decode cX6_readsBand 52 = .ok (.ifCond .ne 5, 3) := by decide +kernel
theorem dX6_readsBand_55 : decode cX6_readsBand 55 = .ok (.iconst 0, 1) := by decide +kernel
theorem dX6_readsBand_56 : decode cX6_readsBand 56 = .ok (.ireturn, 1) := by decide +kernel
theorem dX6_readsBand_57 : decode cX6_readsBand 57 = .ok (.aload_n 0, 1) := by decide +kernel
theorem dX6_readsBand_58 : decode cX6_readsBand 58 = .ok (.getfield 49, 3) := by decide +kernel
theorem dX6_readsBand_61 : decode cX6_readsBand 61 = .ok (.aload_n 0, 1) := by decide +kernel
theorem dX6_readsBand_62 : decode cX6_readsBand 62 = .ok (.getfield 139, 3) := by decide +kernel
theorem dX6_readsBand_65 : decode cX6_readsBand 65 = .ok (.aload_n 0, 1) := by decide +kernel
theorem dX6_readsBand_66 : decode cX6_readsBand 66 = .ok (.iload_n 1, 1) := by decide +kernel
theorem dX6_readsBand_67 : decode cX6_readsBand 67 = .ok (.invokevirtual 130, 3) := by decide +kernel
theorem dX6_readsBand_70 : decode cX6_readsBand 70 = .ok (.bipush 48, 2) := by decide +kernel
theorem dX6_readsBand_72 : decode cX6_readsBand 72 = .ok (.isub, 1) := by decide +kernel
theorem dX6_readsBand_73 : decode cX6_readsBand 73 = .ok (.iastore, 1) := by decide +kernel
theorem dX6_readsBand_74 : decode cX6_readsBand 74 = .ok (.aload_n 0, 1) := by decide +kernel
theorem dX6_readsBand_75 : decode cX6_readsBand 75 = .ok (.dup, 1) := by decide +kernel
theorem dX6_readsBand_76 : decode cX6_readsBand 76 = .ok (.getfield 127, 3) := by decide +kernel
theorem dX6_readsBand_79 : decode cX6_readsBand 79 = .ok (.iconst 1, 1) := by decide +kernel
theorem dX6_readsBand_80 : decode cX6_readsBand 80 = .ok (.iadd, 1) := by decide +kernel
theorem dX6_readsBand_81 : decode cX6_readsBand 81 = .ok (.putfield 127, 3) := by decide +kernel
theorem dX6_readsBand_84 : decode cX6_readsBand 84 = .ok (.aload_n 0, 1) := by decide +kernel
theorem dX6_readsBand_85 : decode cX6_readsBand 85 = .ok (.iload_n 1, 1) := by decide +kernel
theorem dX6_readsBand_86 : decode cX6_readsBand 86 = .ok (.invokevirtual 130, 3) := by decide +kernel
theorem dX6_readsBand_89 : decode cX6_readsBand 89 = .ok (.bipush 49, 2) := by decide +kernel
theorem dX6_readsBand_91 : decode cX6_readsBand 91 = .ok (.bipush 57, 2) := by decide +kernel
theorem dX6_readsBand_93 : decode cX6_readsBand 93 = .ok (.invokestatic 92, 3) := by decide +kernel
theorem dX6_readsBand_96 : decode cX6_readsBand 96 = .ok (.ifCond .ne 5, 3) := by decide +kernel
theorem dX6_readsBand_99 : decode cX6_readsBand 99 = .ok (.iconst 0, 1) := by decide +kernel
theorem dX6_readsBand_100 : decode cX6_readsBand 100 = .ok (.ireturn, 1) := by decide +kernel
theorem dX6_readsBand_101 : decode cX6_readsBand 101 = .ok (.aload_n 0, 1) := by decide +kernel
theorem dX6_readsBand_102 : decode cX6_readsBand 102 = .ok (.getfield 52, 3) := by decide +kernel
theorem dX6_readsBand_105 : decode cX6_readsBand 105 = .ok (.aload_n 0, 1) := by decide +kernel
theorem dX6_readsBand_106 : decode cX6_readsBand 106 = .ok (.getfield 139, 3) := by decide +kernel
theorem dX6_readsBand_109 : decode cX6_readsBand 109 = .ok (.aload_n 0, 1) := by decide +kernel
theorem dX6_readsBand_110 : decode cX6_readsBand 110 = .ok (.iload_n 1, 1) := by decide +kernel
theorem dX6_readsBand_111 : decode cX6_readsBand 111 = .ok (.invokevirtual 130, 3) := by decide +kernel
theorem dX6_readsBand_114 : decode cX6_readsBand 114 = .ok (.bipush 48, 2) := by decide +kernel
theorem dX6_readsBand_116 : decode cX6_readsBand 116 = .ok (.isub, 1) := by decide +kernel
theorem dX6_readsBand_117 : decode cX6_readsBand 117 = .ok (.iastore, 1) := by decide +kernel
theorem dX6_readsBand_118 : decode cX6_readsBand 118 = .ok (.aload_n 0, 1) := by decide +kernel
theorem dX6_readsBand_119 : decode cX6_readsBand 119 = .ok (.dup, 1) := by decide +kernel
theorem dX6_readsBand_120 : decode cX6_readsBand 120 = .ok (.getfield 127, 3) := by decide +kernel
theorem dX6_readsBand_123 : decode cX6_readsBand 123 = .ok (.iconst 1, 1) := by decide +kernel
theorem dX6_readsBand_124 : decode cX6_readsBand 124 = .ok (.iadd, 1) := by decide +kernel
theorem dX6_readsBand_125 : decode cX6_readsBand 125 = .ok (.putfield 127, 3) := by decide +kernel
theorem dX6_readsBand_128 : decode cX6_readsBand 128 = .ok (.aload_n 0, 1) := by decide +kernel
theorem dX6_readsBand_129 : decode cX6_readsBand 129 = .ok (.getfield 46, 3) := by decide +kernel
theorem dX6_readsBand_132 : decode cX6_readsBand 132 = .ok (.aload_n 0, 1) := by decide +kernel
theorem dX6_readsBand_133 : decode cX6_readsBand 133 = .ok (.getfield 139, 3) := by decide +kernel
theorem dX6_readsBand_136 : decode cX6_readsBand 136 = .ok (.iload_n 2, 1) := by decide +kernel
theorem dX6_readsBand_137 : decode cX6_readsBand 137 = .ok (.iastore, 1) := by decide +kernel
theorem dX6_readsBand_138 : decode cX6_readsBand 138 = .ok (.aload_n 0, 1) := by decide +kernel
theorem dX6_readsBand_139 : decode cX6_readsBand 139 = .ok (.dup, 1) := by decide +kernel
theorem dX6_readsBand_140 : decode cX6_readsBand 140 = .ok (.getfield 139, 3) := by decide +kernel
theorem dX6_readsBand_143 : decode cX6_readsBand 143 = .ok (.iconst 1, 1) := by decide +kernel
theorem dX6_readsBand_144 : decode cX6_readsBand 144 = .ok (.iadd, 1) := by decide +kernel
theorem dX6_readsBand_145 : decode cX6_readsBand 145 = .ok (.putfield 139, 3) := by decide +kernel
theorem dX6_readsBand_148 : decode cX6_readsBand 148 = .ok (.iconst 1, 1) := by decide +kernel
theorem dX6_readsBand_149 : decode cX6_readsBand 149 = .ok (.ireturn, 1) := by decide +kernel
theorem dX6_goesOn_0 : decode cX6_goesOn 0 = .ok (.aload_n 0, 1) := by decide +kernel
theorem dX6_goesOn_1 : decode cX6_goesOn 1 = .ok (.iconst 0, 1) := by decide +kernel
theorem dX6_goesOn_2 : decode cX6_goesOn 2 = .ok (.putfield 127, 3) := by decide +kernel
theorem dX6_goesOn_5 : decode cX6_goesOn 5 = .ok (.aload_n 0, 1) := by decide +kernel
theorem dX6_goesOn_6 : decode cX6_goesOn 6 = .ok (.iconst 0, 1) := by decide +kernel
theorem dX6_goesOn_7 : decode cX6_goesOn 7 = .ok (.putfield 133, 3) := by decide +kernel
theorem dX6_goesOn_10 : decode cX6_goesOn 10 = .ok (.aload_n 0, 1) := by decide +kernel
theorem dX6_goesOn_11 : decode cX6_goesOn 11 = .ok (.iconst 0, 1) := by decide +kernel
theorem dX6_goesOn_12 : decode cX6_goesOn 12 = .ok (.putfield 139, 3) := by decide +kernel
theorem dX6_goesOn_15 : decode cX6_goesOn 15 = .ok (.aload_n 0, 1) := by decide +kernel
theorem dX6_goesOn_16 : decode cX6_goesOn 16 = .ok (.getfield 127, 3) := by decide +kernel
theorem dX6_goesOn_19 : decode cX6_goesOn 19 = .ok (.aload_n 0, 1) := by decide +kernel
theorem dX6_goesOn_20 : decode cX6_goesOn 20 = .ok (.getfield 22, 3) := by decide +kernel
theorem dX6_goesOn_23 : decode cX6_goesOn 23 = .ok (.iload_n 1, 1) := by decide +kernel
theorem dX6_goesOn_24 : decode cX6_goesOn 24 = .ok (.iaload, 1) := by decide +kernel
theorem dX6_goesOn_25 : decode cX6_goesOn 25 = .ok (.if_icmp .ge 57, 3) := by decide +kernel
theorem dX6_goesOn_28 : decode cX6_goesOn 28 = .ok (.aload_n 0, 1) := by decide +kernel
theorem dX6_goesOn_29 : decode cX6_goesOn 29 = .ok (.iload_n 1, 1) := by decide +kernel
theorem dX6_goesOn_30 : decode cX6_goesOn 30 = .ok (.invokevirtual 130, 3) := by decide +kernel
theorem dX6_goesOn_33 : decode cX6_goesOn 33 = .ok (.bipush 32, 2) := by decide +kernel
theorem dX6_goesOn_35 : decode cX6_goesOn 35 = .ok (.if_icmp .ne 16, 3) := by decide +kernel
theorem dX6_goesOn_38 : decode cX6_goesOn 38 = .ok (.aload_n 0, 1) := by decide +kernel
theorem dX6_goesOn_39 : decode cX6_goesOn 39 = .ok (.dup, 1) := by decide +kernel
theorem dX6_goesOn_40 : decode cX6_goesOn 40 = .ok (.getfield 127, 3) := by decide +kernel
theorem dX6_goesOn_43 : decode cX6_goesOn 43 = .ok (.iconst 1, 1) := by decide +kernel
theorem dX6_goesOn_44 : decode cX6_goesOn 44 = .ok (.iadd, 1) := by decide +kernel
theorem dX6_goesOn_45 : decode cX6_goesOn 45 = .ok (.putfield 127, 3) := by decide +kernel
theorem dX6_goesOn_48 : decode cX6_goesOn 48 = .ok (.goto (-33), 3) := by decide +kernel
theorem dX6_goesOn_51 : decode cX6_goesOn 51 = .ok (.aload_n 0, 1) := by decide +kernel
theorem dX6_goesOn_52 : decode cX6_goesOn 52 = .ok (.getfield 133, 3) := by decide +kernel
theorem dX6_goesOn_55 : decode cX6_goesOn 55 = .ok (.ifCond .ne 14, 3) := by decide +kernel
theorem dX6_goesOn_58 : decode cX6_goesOn 58 = .ok (.aload_n 0, 1) := by decide +kernel
theorem dX6_goesOn_59 : decode cX6_goesOn 59 = .ok (.iload_n 1, 1) := by decide +kernel
theorem dX6_goesOn_60 : decode cX6_goesOn 60 = .ok (.invokevirtual 142, 3) := by decide +kernel
theorem dX6_goesOn_63 : decode cX6_goesOn 63 = .ok (.ifCond .ne (-48), 3) := by decide +kernel
theorem dX6_goesOn_66 : decode cX6_goesOn 66 = .ok (.goto 11, 3) := by decide +kernel
theorem dX6_goesOn_69 : decode cX6_goesOn 69 = .ok (.aload_n 0, 1) := by decide +kernel
theorem dX6_goesOn_70 : decode cX6_goesOn 70 = .ok (.iload_n 1, 1) := by decide +kernel
theorem dX6_goesOn_71 : decode cX6_goesOn 71 = .ok (.invokevirtual 145, 3) := by decide +kernel
theorem dX6_goesOn_74 : decode cX6_goesOn 74 = .ok (.ifCond .ne (-59), 3) := by decide +kernel
theorem dX6_goesOn_77 : decode cX6_goesOn 77 = .ok (.aload_n 0, 1) := by decide +kernel
theorem dX6_goesOn_78 : decode cX6_goesOn 78 = .ok (.getfield 127, 3) := by decide +kernel
theorem dX6_goesOn_81 : decode cX6_goesOn 81 = .ok (.ireturn, 1) := by decide +kernel
theorem dX6_goesOn_82 : decode cX6_goesOn 82 = .ok (.aload_n 0, 1) := by decide +kernel
theorem dX6_goesOn_83 : decode cX6_goesOn 83 = .ok (.getfield 133, 3) := by decide +kernel
theorem dX6_goesOn_86 : decode cX6_goesOn 86 = .ok (.ifCond .ne 12, 3) := by decide +kernel
theorem dX6_goesOn_89 : decode cX6_goesOn 89 = .ok (.aload_n 0, 1) := by decide +kernel
theorem dX6_goesOn_90 : decode cX6_goesOn 90 = .ok (.getfield 22, 3) := by decide +kernel
theorem dX6_goesOn_93 : decode cX6_goesOn 93 = .ok (.iload_n 1, 1) := by decide +kernel
theorem dX6_goesOn_94 : decode cX6_goesOn 94 = .ok (.iaload, 1) := by decide +kernel
theorem dX6_goesOn_95 : decode cX6_goesOn 95 = .ok (.goto 5, 3) := by decide +kernel
theorem dX6_goesOn_98 : decode cX6_goesOn 98 = .ok (.bipush (-9), 2) := by decide +kernel
theorem dX6_goesOn_100 : decode cX6_goesOn 100 = .ok (.ireturn, 1) := by decide +kernel
theorem dX6_fault_0 : decode cX6_fault 0 = .ok (.aload_n 0, 1) := by decide +kernel
theorem dX6_fault_1 : decode cX6_fault 1 = .ok (.iload_n 1, 1) := by decide +kernel
theorem dX6_fault_2 : decode cX6_fault 2 = .ok (.invokevirtual 124, 3) := by decide +kernel
theorem dX6_fault_5 : decode cX6_fault 5 = .ok (.istore_n 2, 1) := by decide +kernel
theorem dX6_fault_6 : decode cX6_fault 6 = .ok (.iload_n 2, 1) := by decide +kernel
theorem dX6_fault_7 : decode cX6_fault 7 = .ok (.ifCond .ge 7, 3) := by decide +kernel
theorem dX6_fault_10 : decode cX6_fault 10 = .ok (.iload_n 2, 1) := by decide +kernel
theorem dX6_fault_11 : decode cX6_fault 11 = .ok (.goto 8, 3) := by decide +kernel
theorem dX6_fault_14 : decode cX6_fault 14 = .ok (.aload_n 0, 1) := by decide +kernel
theorem dX6_fault_15 : decode cX6_fault 15 = .ok (.iload_n 1, 1) := by decide +kernel
theorem dX6_fault_16 : decode cX6_fault 16 = .ok (.invokevirtual 148, 3) := by decide +kernel
theorem dX6_fault_19 : decode cX6_fault 19 = .ok (.ireturn, 1) := by decide +kernel
theorem dX6_land_0 : decode cX6_land 0 = .ok (.aload_n 0, 1) := by decide +kernel
theorem dX6_land_1 : decode cX6_land 1 = .ok (.iload_n 1, 1) := by decide +kernel
theorem dX6_land_2 : decode cX6_land 2 = .ok (.invokevirtual 124, 3) := by decide +kernel
theorem dX6_land_5 : decode cX6_land 5 = .ok (.istore_n 2, 1) := by decide +kernel
theorem dX6_land_6 : decode cX6_land 6 = .ok (.iload_n 2, 1) := by decide +kernel
theorem dX6_land_7 : decode cX6_land 7 = .ok (.ifCond .ge 5, 3) := by decide +kernel
theorem dX6_land_10 : decode cX6_land 10 = .ok (.iload_n 2, 1) := by decide +kernel
theorem dX6_land_11 : decode cX6_land 11 = .ok (.ireturn, 1) := by decide +kernel
theorem dX6_land_12 : decode cX6_land 12 = .ok (.aload_n 0, 1) := by decide +kernel
theorem dX6_land_13 : decode cX6_land 13 = .ok (.iload_n 1, 1) := by decide +kernel
theorem dX6_land_14 : decode cX6_land 14 = .ok (.invokevirtual 148, 3) := by decide +kernel
theorem dX6_land_17 : decode cX6_land 17 = .ok (.bipush (-9), 2) := by decide +kernel
theorem dX6_land_19 : decode cX6_land 19 = .ok (.if_icmp .eq 6, 3) := by decide +kernel
theorem dX6_land_22 : decode cX6_land 22 = .ok (.bipush (-4), 2) := by decide +kernel
theorem dX6_land_24 : decode cX6_land 24 = .ok (.ireturn, 1) := by decide +kernel
theorem dX6_land_25 : decode cX6_land 25 = .ok (.aload_n 0, 1) := by decide +kernel
theorem dX6_land_26 : decode cX6_land 26 = .ok (.aload_n 0, 1) := by decide +kernel
theorem dX6_land_27 : decode cX6_land 27 = .ok (.getfield 133, 3) := by decide +kernel
theorem dX6_land_30 : decode cX6_land 30 = .ok (.putfield 151, 3) := by decide +kernel
theorem dX6_land_33 : decode cX6_land 33 = .ok (.aload_n 0, 1) := by decide +kernel
theorem dX6_land_34 : decode cX6_land 34 = .ok (.aload_n 0, 1) := by decide +kernel
theorem dX6_land_35 : decode cX6_land 35 = .ok (.getfield 139, 3) := by decide +kernel
theorem dX6_land_38 : decode cX6_land 38 = .ok (.putfield 154, 3) := by decide +kernel
theorem dX6_land_41 : decode cX6_land 41 = .ok (.iconst 0, 1) := by decide +kernel
theorem dX6_land_42 : decode cX6_land 42 = .ok (.istore_n 3, 1) := by decide +kernel
theorem dX6_land_43 : decode cX6_land 43 = .ok (.iload_n 3, 1) := by decide +kernel
theorem dX6_land_44 : decode cX6_land 44 = .ok (.bipush 10, 2) := by decide +kernel
theorem dX6_land_46 : decode cX6_land 46 = .ok (.if_icmp .ge 33, 3) := by decide +kernel
theorem dX6_land_49 : decode cX6_land 49 = .ok (.aload_n 0, 1) := by decide +kernel
theorem dX6_land_50 : decode cX6_land 50 = .ok (.getfield 28, 3) := by decide +kernel
theorem dX6_land_53 : decode cX6_land 53 = .ok (.iload_n 3, 1) := by decide +kernel
theorem dX6_land_54 : decode cX6_land 54 = .ok (.iload_n 3, 1) := by decide +kernel
theorem dX6_land_55 : decode cX6_land 55 = .ok (.aload_n 0, 1) := by decide +kernel
theorem dX6_land_56 : decode cX6_land 56 = .ok (.getfield 151, 3) := by decide +kernel
theorem dX6_land_59 : decode cX6_land 59 = .ok (.if_icmp .ge 12, 3) := by decide +kernel
theorem dX6_land_62 : decode cX6_land 62 = .ok (.aload_n 0, 1) := by decide +kernel
theorem dX6_land_63 : decode cX6_land 63 = .ok (.getfield 43, 3) := by decide +kernel
theorem dX6_land_66 : decode cX6_land 66 = .ok (.iload_n 3, 1) := by decide +kernel
theorem dX6_land_67 : decode cX6_land 67 = .ok (.iaload, 1) := by decide +kernel
theorem dX6_land_68 : decode cX6_land 68 = .ok (.goto 4, 3) := by decide +kernel
theorem dX6_land_71 : decode cX6_land 71 = .ok (.iconst 0, 1) := by decide +kernel
theorem dX6_land_72 : decode cX6_land 72 = .ok (.iastore, 1) := by decide +kernel
theorem dX6_land_73 : decode cX6_land 73 = .ok (.iinc 3 1, 3) := by decide +kernel
theorem dX6_land_76 : decode cX6_land 76 = .ok (.goto (-33), 3) := by decide +kernel
theorem dX6_land_79 : decode cX6_land 79 = .ok (.iconst 0, 1) := by decide +kernel
theorem dX6_land_80 : decode cX6_land 80 = .ok (.istore_n 3, 1) := by decide +kernel
theorem dX6_land_81 : decode cX6_land 81 = .ok (.iload_n 3, 1) := by decide +kernel
theorem dX6_land_82 : decode cX6_land 82 = .ok (.iconst 3, 1) := by decide +kernel
theorem dX6_land_83 : decode cX6_land 83 = .ok (.if_icmp .ge 52, 3) := by decide +kernel
theorem dX6_land_86 : decode cX6_land 86 = .ok (.aload_n 0, 1) := by decide +kernel
theorem dX6_land_87 : decode cX6_land 87 = .ok (.getfield 31, 3) := by decide +kernel
theorem dX6_land_90 : decode cX6_land 90 = .ok (.iload_n 3, 1) := by decide +kernel
theorem dX6_land_91 : decode cX6_land 91 = .ok (.aload_n 0, 1) := by decide +kernel
theorem dX6_land_92 : decode cX6_land 92 = .ok (.getfield 46, 3) := by decide +kernel
theorem dX6_land_95 : decode cX6_land 95 = .ok (.iload_n 3, 1) := by decide +kernel
theorem dX6_land_96 : decode cX6_land 96 = .ok (.iaload, 1) := by decide +kernel
theorem dX6_land_97 : decode cX6_land 97 = .ok (.iastore, 1) := by decide +kernel
theorem dX6_land_98 : decode cX6_land 98 = .ok (.aload_n 0, 1) := by decide +kernel
theorem dX6_land_99 : decode cX6_land 99 = .ok (.getfield 34, 3) := by decide +kernel
theorem dX6_land_102 : decode cX6_land 102 = .ok (.iload_n 3, 1) := by decide +kernel
theorem dX6_land_103 : decode cX6_land 103 = .ok (.aload_n 0, 1) := by decide +kernel
theorem dX6_land_104 : decode cX6_land 104 = .ok (.getfield 49, 3) := by decide +kernel
theorem dX6_land_107 : decode cX6_land 107 = .ok (.iload_n 3, 1) := by decide +kernel
theorem dX6_land_108 : decode cX6_land 108 = .ok (.iaload, 1) := by decide +kernel
theorem dX6_land_109 : decode cX6_land 109 = .ok (.iastore, 1) := by decide +kernel
theorem dX6_land_110 : decode cX6_land 110 = .ok (.aload_n 0, 1) := by decide +kernel
theorem dX6_land_111 : decode cX6_land 111 = .ok (.getfield 37, 3) := by decide +kernel
theorem dX6_land_114 : decode cX6_land 114 = .ok (.iload_n 3, 1) := by decide +kernel
theorem dX6_land_115 : decode cX6_land 115 = .ok (.aload_n 0, 1) := by decide +kernel
theorem dX6_land_116 : decode cX6_land 116 = .ok (.getfield 52, 3) := by decide +kernel
theorem dX6_land_119 : decode cX6_land 119 = .ok (.iload_n 3, 1) := by decide +kernel
theorem dX6_land_120 : decode cX6_land 120 = .ok (.iaload, 1) := by decide +kernel
theorem dX6_land_121 : decode cX6_land 121 = .ok (.iastore, 1) := by decide +kernel
theorem dX6_land_122 : decode cX6_land 122 = .ok (.aload_n 0, 1) := by decide +kernel
theorem dX6_land_123 : decode cX6_land 123 = .ok (.getfield 40, 3) := by decide +kernel
theorem dX6_land_126 : decode cX6_land 126 = .ok (.iload_n 3, 1) := by decide +kernel
theorem dX6_land_127 : decode cX6_land 127 = .ok (.iconst 0, 1) := by decide +kernel
theorem dX6_land_128 : decode cX6_land 128 = .ok (.iastore, 1) := by decide +kernel
theorem dX6_land_129 : decode cX6_land 129 = .ok (.iinc 3 1, 3) := by decide +kernel
theorem dX6_land_132 : decode cX6_land 132 = .ok (.goto (-51), 3) := by decide +kernel
theorem dX6_land_135 : decode cX6_land 135 = .ok (.aload_n 0, 1) := by decide +kernel
theorem dX6_land_136 : decode cX6_land 136 = .ok (.iconst 0, 1) := by decide +kernel
theorem dX6_land_137 : decode cX6_land 137 = .ok (.putfield 157, 3) := by decide +kernel
theorem dX6_land_140 : decode cX6_land 140 = .ok (.aload_n 0, 1) := by decide +kernel
theorem dX6_land_141 : decode cX6_land 141 = .ok (.iconst 0, 1) := by decide +kernel
theorem dX6_land_142 : decode cX6_land 142 = .ok (.putfield 160, 3) := by decide +kernel
theorem dX6_land_145 : decode cX6_land 145 = .ok (.iconst 0, 1) := by decide +kernel
theorem dX6_land_146 : decode cX6_land 146 = .ok (.istore_n 3, 1) := by decide +kernel
theorem dX6_land_147 : decode cX6_land 147 = .ok (.iload_n 3, 1) := by decide +kernel
theorem dX6_land_148 : decode cX6_land 148 = .ok (.iconst 3, 1) := by decide +kernel
theorem dX6_land_149 : decode cX6_land 149 = .ok (.if_icmp .ge 21, 3) := by decide +kernel
theorem dX6_land_152 : decode cX6_land 152 = .ok (.aload_n 0, 1) := by decide +kernel
theorem dX6_land_153 : decode cX6_land 153 = .ok (.getfield 64, 3) := by decide +kernel
theorem dX6_land_156 : decode cX6_land 156 = .ok (.sipush 920, 3) := by decide +kernel
theorem dX6_land_159 : decode cX6_land 159 = .ok (.iload_n 3, 1) := by decide +kernel
theorem dX6_land_160 : decode cX6_land 160 = .ok (.imul, 1) := by decide +kernel
theorem dX6_land_161 : decode cX6_land 161 = .ok (.bipush (-9), 2) := by decide +kernel
theorem dX6_land_163 : decode cX6_land 163 = .ok (.iastore, 1) := by decide +kernel
theorem dX6_land_164 : decode cX6_land 164 = .ok (.iinc 3 1, 3) := by decide +kernel
theorem dX6_land_167 : decode cX6_land 167 = .ok (.goto (-20), 3) := by decide +kernel
theorem dX6_land_170 : decode cX6_land 170 = .ok (.aload_n 0, 1) := by decide +kernel
theorem dX6_land_171 : decode cX6_land 171 = .ok (.getfield 151, 3) := by decide +kernel
theorem dX6_land_174 : decode cX6_land 174 = .ok (.ireturn, 1) := by decide +kernel
theorem dX6_isSpot_0 : decode cX6_isSpot 0 = .ok (.iload_n 1, 1) := by decide +kernel
theorem dX6_isSpot_1 : decode cX6_isSpot 1 = .ok (.iconst 0, 1) := by decide +kernel
theorem dX6_isSpot_2 : decode cX6_isSpot 2 = .ok (.aload_n 0, 1) := by decide +kernel
theorem dX6_isSpot_3 : decode cX6_isSpot 3 = .ok (.getfield 151, 3) := by decide +kernel
theorem dX6_isSpot_6 : decode cX6_isSpot 6 = .ok (.iconst 1, 1) := by decide +kernel
theorem dX6_isSpot_7 : decode cX6_isSpot 7 = .ok (.isub, 1) := by decide +kernel
theorem dX6_isSpot_8 : decode cX6_isSpot 8 = .ok (.invokestatic 92, 3) := by decide +kernel
theorem dX6_isSpot_11 : decode cX6_isSpot 11 = .ok (.ireturn, 1) := by decide +kernel
theorem dX6_isBand_0 : decode cX6_isBand 0 = .ok (.iload_n 1, 1) := by decide +kernel
theorem dX6_isBand_1 : decode cX6_isBand 1 = .ok (.iconst 0, 1) := by decide +kernel
theorem dX6_isBand_2 : decode cX6_isBand 2 = .ok (.aload_n 0, 1) := by decide +kernel
theorem dX6_isBand_3 : decode cX6_isBand 3 = .ok (.getfield 154, 3) := by decide +kernel
theorem dX6_isBand_6 : decode cX6_isBand 6 = .ok (.iconst 1, 1) := by decide +kernel
theorem dX6_isBand_7 : decode cX6_isBand 7 = .ok (.isub, 1) := by decide +kernel
theorem dX6_isBand_8 : decode cX6_isBand 8 = .ok (.invokestatic 92, 3) := by decide +kernel
theorem dX6_isBand_11 : decode cX6_isBand 11 = .ok (.ireturn, 1) := by decide +kernel
theorem dX6_isA_0 : decode cX6_isA 0 = .ok (.aload_n 0, 1) := by decide +kernel
theorem dX6_isA_1 : decode cX6_isA 1 = .ok (.getfield 31, 3) := by decide +kernel
theorem dX6_isA_4 : decode cX6_isA 4 = .ok (.iload_n 1, 1) := by decide +kernel
theorem dX6_isA_5 : decode cX6_isA 5 = .ok (.iaload, 1) := by decide +kernel
theorem dX6_isA_6 : decode cX6_isA 6 = .ok (.iload_n 2, 1) := by decide +kernel
theorem dX6_isA_7 : decode cX6_isA 7 = .ok (.if_icmp .eq 33, 3) := by decide +kernel
theorem dX6_isA_10 : decode cX6_isA 10 = .ok (.iload_n 2, 1) := by decide +kernel
theorem dX6_isA_11 : decode cX6_isA 11 = .ok (.iconst 1, 1) := by decide +kernel
theorem dX6_isA_12 : decode cX6_isA 12 = .ok (.if_icmp .ne 13, 3) := by decide +kernel
theorem dX6_isA_15 : decode cX6_isA 15 = .ok (.aload_n 0, 1) := by decide +kernel
theorem dX6_isA_16 : decode cX6_isA 16 = .ok (.getfield 31, 3) := by decide +kernel
theorem dX6_isA_19 : decode cX6_isA 19 = .ok (.iload_n 1, 1) := by decide +kernel
theorem dX6_isA_20 : decode cX6_isA 20 = .ok (.iaload, 1) := by decide +kernel
theorem dX6_isA_21 : decode cX6_isA 21 = .ok (.iconst 4, 1) := by decide +kernel
theorem dX6_isA_22 : decode cX6_isA 22 = .ok (.if_icmp .eq 18, 3) := by decide +kernel
theorem dX6_isA_25 : decode cX6_isA 25 = .ok (.iload_n 2, 1) := by decide +kernel
theorem dX6_isA_26 : decode cX6_isA 26 = .ok (.iconst 2, 1) := by decide +kernel
theorem dX6_isA_27 : decode cX6_isA 27 = .ok (.if_icmp .ne 17, 3) := by decide +kernel
theorem dX6_isA_30 : decode cX6_isA 30 = .ok (.aload_n 0, 1) := by decide +kernel
theorem dX6_isA_31 : decode cX6_isA 31 = .ok (.getfield 31, 3) := by decide +kernel
theorem dX6_isA_34 : decode cX6_isA 34 = .ok (.iload_n 1, 1) := by decide +kernel
theorem dX6_isA_35 : decode cX6_isA 35 = .ok (.iaload, 1) := by decide +kernel
theorem dX6_isA_36 : decode cX6_isA 36 = .ok (.iconst 5, 1) := by decide +kernel
theorem dX6_isA_37 : decode cX6_isA 37 = .ok (.if_icmp .ne 7, 3) := by decide +kernel
theorem dX6_isA_40 : decode cX6_isA 40 = .ok (.iconst 1, 1) := by decide +kernel
theorem dX6_isA_41 : decode cX6_isA 41 = .ok (.goto 4, 3) := by decide +kernel
theorem dX6_isA_44 : decode cX6_isA 44 = .ok (.iconst 0, 1) := by decide +kernel
theorem dX6_isA_45 : decode cX6_isA 45 = .ok (.ireturn, 1) := by decide +kernel
theorem dX6_spot_0 : decode cX6_spot 0 = .ok (.aload_n 0, 1) := by decide +kernel
theorem dX6_spot_1 : decode cX6_spot 1 = .ok (.iload_n 1, 1) := by decide +kernel
theorem dX6_spot_2 : decode cX6_spot 2 = .ok (.invokevirtual 163, 3) := by decide +kernel
theorem dX6_spot_5 : decode cX6_spot 5 = .ok (.ifCond .eq 24, 3) := by decide +kernel
theorem dX6_spot_8 : decode cX6_spot 8 = .ok (.aload_n 0, 1) := by decide +kernel
theorem dX6_spot_9 : decode cX6_spot 9 = .ok (.aload_n 0, 1) := by decide +kernel
theorem dX6_spot_10 : decode cX6_spot 10 = .ok (.getfield 28, 3) := by decide +kernel
theorem dX6_spot_13 : decode cX6_spot 13 = .ok (.iload_n 1, 1) := by decide +kernel
theorem dX6_spot_14 : decode cX6_spot 14 = .ok (.iaload, 1) := by decide +kernel
theorem dX6_spot_15 : decode cX6_spot 15 = .ok (.aload_n 0, 1) := by decide +kernel
theorem dX6_spot_16 : decode cX6_spot 16 = .ok (.getfield 157, 3) := by decide +kernel
theorem dX6_spot_19 : decode cX6_spot 19 = .ok (.iload_n 1, 1) := by decide +kernel
theorem dX6_spot_20 : decode cX6_spot 20 = .ok (.ishr, 1) := by decide +kernel
theorem dX6_spot_21 : decode cX6_spot 21 = .ok (.iconst 1, 1) := by decide +kernel
theorem dX6_spot_22 : decode cX6_spot 22 = .ok (.iand, 1) := by decide +kernel
theorem dX6_spot_23 : decode cX6_spot 23 = .ok (.invokevirtual 118, 3) := by decide +kernel
theorem dX6_spot_26 : decode cX6_spot 26 = .ok (.goto 4, 3) := by decide +kernel
theorem dX6_spot_29 : decode cX6_spot 29 = .ok (.iconst (-1), 1) := by decide +kernel
theorem dX6_spot_30 : decode cX6_spot 30 = .ok (.ireturn, 1) := by decide +kernel
theorem dX6_reachOf_0 : decode cX6_reachOf 0 = .ok (.aload_n 0, 1) := by decide +kernel
theorem dX6_reachOf_1 : decode cX6_reachOf 1 = .ok (.getfield 31, 3) := by decide +kernel
theorem dX6_reachOf_4 : decode cX6_reachOf 4 = .ok (.iload_n 1, 1) := by decide +kernel
theorem dX6_reachOf_5 : decode cX6_reachOf 5 = .ok (.iaload, 1) := by decide +kernel
theorem dX6_reachOf_6 : decode cX6_reachOf 6 = .ok (.iconst 4, 1) := by decide +kernel
theorem dX6_reachOf_7 : decode cX6_reachOf 7 = .ok (.if_icmp .ne 14, 3) := by decide +kernel
theorem dX6_reachOf_10 : decode cX6_reachOf 10 = .ok (.iconst 2, 1) := by decide +kernel
theorem dX6_reachOf_11 : decode cX6_reachOf 11 = .ok (.aload_n 0, 1) := by decide +kernel
theorem dX6_reachOf_12 : decode cX6_reachOf 12 = .ok (.getfield 37, 3) := by decide +kernel
theorem dX6_reachOf_15 : decode cX6_reachOf 15 = .ok (.iload_n 1, 1) := by decide +kernel
theorem dX6_reachOf_16 : decode cX6_reachOf 16 = .ok (.iaload, 1) := by decide +kernel
theorem dX6_reachOf_17 : decode cX6_reachOf 17 = .ok (.imul, 1) := by decide +kernel
theorem dX6_reachOf_18 : decode cX6_reachOf 18 = .ok (.goto 9, 3) := by decide +kernel
theorem dX6_reachOf_21 : decode cX6_reachOf 21 = .ok (.aload_n 0, 1) := by decide +kernel
theorem dX6_reachOf_22 : decode cX6_reachOf 22 = .ok (.getfield 37, 3) := by decide +kernel
theorem dX6_reachOf_25 : decode cX6_reachOf 25 = .ok (.iload_n 1, 1) := by decide +kernel
theorem dX6_reachOf_26 : decode cX6_reachOf 26 = .ok (.iaload, 1) := by decide +kernel
theorem dX6_reachOf_27 : decode cX6_reachOf 27 = .ok (.ireturn, 1) := by decide +kernel
theorem dX6_size_0 : decode cX6_size 0 = .ok (.iload_n 0, 1) := by decide +kernel
theorem dX6_size_1 : decode cX6_size 1 = .ok (.ifCond .ge 8, 3) := by decide +kernel
theorem dX6_size_4 : decode cX6_size 4 = .ok (.iload_n 0, 1) := by decide +kernel
theorem dX6_size_5 : decode cX6_size 5 = .ok (.ineg, 1) := by decide +kernel
theorem dX6_size_6 : decode cX6_size 6 = .ok (.goto 4, 3) := by decide +kernel
theorem dX6_size_9 : decode cX6_size 9 = .ok (.iload_n 0, 1) := by decide +kernel
theorem dX6_size_10 : decode cX6_size 10 = .ok (.ireturn, 1) := by decide +kernel
theorem dX6_isHeard_0 : decode cX6_isHeard 0 = .ok (.iload_n 2, 1) := by decide +kernel
theorem dX6_isHeard_1 : decode cX6_isHeard 1 = .ok (.aload_n 0, 1) := by decide +kernel
theorem dX6_isHeard_2 : decode cX6_isHeard 2 = .ok (.getfield 34, 3) := by decide +kernel
theorem dX6_isHeard_5 : decode cX6_isHeard 5 = .ok (.iload_n 1, 1) := by decide +kernel
theorem dX6_isHeard_6 : decode cX6_isHeard 6 = .ok (.iaload, 1) := by decide +kernel
theorem dX6_isHeard_7 : decode cX6_isHeard 7 = .ok (.isub, 1) := by decide +kernel
theorem dX6_isHeard_8 : decode cX6_isHeard 8 = .ok (.invokestatic 166, 3) := by decide +kernel
theorem dX6_isHeard_11 : decode cX6_isHeard 11 = .ok (.istore_n 3, 1) := by decide +kernel
theorem dX6_isHeard_12 : decode cX6_isHeard 12 = .ok (.iload_n 3, 1) := by decide +kernel
theorem dX6_isHeard_13 : decode cX6_isHeard 13 = .ok (.ifCond .le 16, 3) := by decide +kernel
theorem dX6_isHeard_16 : decode cX6_isHeard 16 = .ok (.iload_n 3, 1) := by decide +kernel
theorem dX6_isHeard_17 : decode cX6_isHeard 17 = .ok (.aload_n 0, 1) := by decide +kernel
theorem dX6_isHeard_18 : decode cX6_isHeard 18 = .ok (.iload_n 1, 1) := by decide +kernel
theorem dX6_isHeard_19 : decode cX6_isHeard 19 = .ok (.invokevirtual 169, 3) := by decide +kernel
theorem dX6_isHeard_22 : decode cX6_isHeard 22 = .ok (.if_icmp .gt 7, 3) := by decide +kernel
theorem dX6_isHeard_25 : decode cX6_isHeard 25 = .ok (.iconst 1, 1) := by decide +kernel
theorem dX6_isHeard_26 : decode cX6_isHeard 26 = .ok (.goto 4, 3) := by decide +kernel
theorem dX6_isHeard_29 : decode cX6_isHeard 29 = .ok (.iconst 0, 1) := by decide +kernel
theorem dX6_isHeard_30 : decode cX6_isHeard 30 = .ok (.ireturn, 1) := by decide +kernel
theorem dX6_heardOf_0 : decode cX6_heardOf 0 = .ok (.iconst 0, 1) := by decide +kernel
theorem dX6_heardOf_1 : decode cX6_heardOf 1 = .ok (.istore_n 2, 1) := by decide +kernel
theorem dX6_heardOf_2 : decode cX6_heardOf 2 = .ok (.iconst 0, 1) := by decide +kernel
theorem dX6_heardOf_3 : decode cX6_heardOf 3 = .ok (.istore_n 3, 1) := by decide +kernel
theorem dX6_heardOf_4 : decode cX6_heardOf 4 = .ok (.iload_n 3, 1) := by decide +kernel
theorem dX6_heardOf_5 : decode cX6_heardOf 5 = .ok (.aload_n 0, 1) := by decide +kernel
theorem dX6_heardOf_6 : decode cX6_heardOf 6 = .ok (.getfield 151, 3) := by decide +kernel
theorem dX6_heardOf_9 : decode cX6_heardOf 9 = .ok (.if_icmp .ge 28, 3) := by decide +kernel
theorem dX6_heardOf_12 : decode cX6_heardOf 12 = .ok (.iload_n 2, 1) := by decide +kernel
theorem dX6_heardOf_13 : decode cX6_heardOf 13 = .ok (.aload_n 0, 1) := by decide +kernel
theorem dX6_heardOf_14 : decode cX6_heardOf 14 = .ok (.iload_n 1, 1) := by decide +kernel
theorem dX6_heardOf_15 : decode cX6_heardOf 15 = .ok (.iload_n 3, 1) := by decide +kernel
theorem dX6_heardOf_16 : decode cX6_heardOf 16 = .ok (.invokevirtual 172, 3) := by decide +kernel
theorem dX6_heardOf_19 : decode cX6_heardOf 19 = .ok (.ifCond .eq 9, 3) := by decide +kernel
theorem dX6_heardOf_22 : decode cX6_heardOf 22 = .ok (.iconst 1, 1) := by decide +kernel
theorem dX6_heardOf_23 : decode cX6_heardOf 23 = .ok (.iload_n 3, 1) := by decide +kernel
theorem dX6_heardOf_24 : decode cX6_heardOf 24 = .ok (.ishl, 1) := by decide +kernel
theorem dX6_heardOf_25 : decode cX6_heardOf 25 = .ok (.goto 4, 3) := by decide +kernel
theorem dX6_heardOf_28 : decode cX6_heardOf 28 = .ok (.iconst 0, 1) := by decide +kernel
theorem dX6_heardOf_29 : decode cX6_heardOf 29 = .ok (.ior, 1) := by decide +kernel
theorem dX6_heardOf_30 : decode cX6_heardOf 30 = .ok (.istore_n 2, 1) := by decide +kernel
theorem dX6_heardOf_31 : decode cX6_heardOf 31 = .ok (.iinc 3 1, 3) := by decide +kernel
theorem dX6_heardOf_34 : decode cX6_heardOf 34 = .ok (.goto (-30), 3) := by decide +kernel
theorem dX6_heardOf_37 : decode cX6_heardOf 37 = .ok (.iload_n 2, 1) := by decide +kernel
theorem dX6_heardOf_38 : decode cX6_heardOf 38 = .ok (.ireturn, 1) := by decide +kernel
theorem dX6_bandOf_0 : decode cX6_bandOf 0 = .ok (.iload_n 2, 1) := by decide +kernel
theorem dX6_bandOf_1 : decode cX6_bandOf 1 = .ok (.ifCond .ne 12, 3) := by decide +kernel
theorem dX6_bandOf_4 : decode cX6_bandOf 4 = .ok (.aload_n 0, 1) := by decide +kernel
theorem dX6_bandOf_5 : decode cX6_bandOf 5 = .ok (.getfield 31, 3) := by decide +kernel
theorem dX6_bandOf_8 : decode cX6_bandOf 8 = .ok (.iload_n 1, 1) := by decide +kernel
theorem dX6_bandOf_9 : decode cX6_bandOf 9 = .ok (.iaload, 1) := by decide +kernel
theorem dX6_bandOf_10 : decode cX6_bandOf 10 = .ok (.goto 50, 3) := by decide +kernel
theorem dX6_bandOf_13 : decode cX6_bandOf 13 = .ok (.iload_n 2, 1) := by decide +kernel
theorem dX6_bandOf_14 : decode cX6_bandOf 14 = .ok (.iconst 1, 1) := by decide +kernel
theorem dX6_bandOf_15 : decode cX6_bandOf 15 = .ok (.if_icmp .ne 12, 3) := by decide +kernel
theorem dX6_bandOf_18 : decode cX6_bandOf 18 = .ok (.aload_n 0, 1) := by decide +kernel
theorem dX6_bandOf_19 : decode cX6_bandOf 19 = .ok (.getfield 34, 3) := by decide +kernel
theorem dX6_bandOf_22 : decode cX6_bandOf 22 = .ok (.iload_n 1, 1) := by decide +kernel
theorem dX6_bandOf_23 : decode cX6_bandOf 23 = .ok (.iaload, 1) := by decide +kernel
theorem dX6_bandOf_24 : decode cX6_bandOf 24 = .ok (.goto 36, 3) := by decide +kernel
theorem dX6_bandOf_27 : decode cX6_bandOf 27 = .ok (.iload_n 2, 1) := by decide +kernel
theorem dX6_bandOf_28 : decode cX6_bandOf 28 = .ok (.iconst 2, 1) := by decide +kernel
theorem dX6_bandOf_29 : decode cX6_bandOf 29 = .ok (.if_icmp .ne 12, 3) := by decide +kernel
theorem dX6_bandOf_32 : decode cX6_bandOf 32 = .ok (.aload_n 0, 1) := by decide +kernel
theorem dX6_bandOf_33 : decode cX6_bandOf 33 = .ok (.getfield 37, 3) := by decide +kernel
theorem dX6_bandOf_36 : decode cX6_bandOf 36 = .ok (.iload_n 1, 1) := by decide +kernel
theorem dX6_bandOf_37 : decode cX6_bandOf 37 = .ok (.iaload, 1) := by decide +kernel
theorem dX6_bandOf_38 : decode cX6_bandOf 38 = .ok (.goto 22, 3) := by decide +kernel
theorem dX6_bandOf_41 : decode cX6_bandOf 41 = .ok (.iload_n 2, 1) := by decide +kernel
theorem dX6_bandOf_42 : decode cX6_bandOf 42 = .ok (.iconst 3, 1) := by decide +kernel
theorem dX6_bandOf_43 : decode cX6_bandOf 43 = .ok (.if_icmp .ne 11, 3) := by decide +kernel
theorem dX6_bandOf_46 : decode cX6_bandOf 46 = .ok (.aload_n 0, 1) := by decide +kernel
theorem dX6_bandOf_47 : decode cX6_bandOf 47 = .ok (.iload_n 1, 1) := by decide +kernel
theorem dX6_bandOf_48 : decode cX6_bandOf 48 = .ok (.invokevirtual 176, 3) := by decide +kernel
theorem dX6_bandOf_51 : decode cX6_bandOf 51 = .ok (.goto 9, 3) := by decide +kernel
theorem dX6_bandOf_54 : decode cX6_bandOf 54 = .ok (.aload_n 0, 1) := by decide +kernel
theorem dX6_bandOf_55 : decode cX6_bandOf 55 = .ok (.getfield 40, 3) := by decide +kernel
theorem dX6_bandOf_58 : decode cX6_bandOf 58 = .ok (.iload_n 1, 1) := by decide +kernel
theorem dX6_bandOf_59 : decode cX6_bandOf 59 = .ok (.iaload, 1) := by decide +kernel
theorem dX6_bandOf_60 : decode cX6_bandOf 60 = .ok (.ireturn, 1) := by decide +kernel
theorem dX6_band_0 : decode cX6_band 0 = .ok (.aload_n 0, 1) := by decide +kernel
theorem dX6_band_1 : decode cX6_band 1 = .ok (.iload_n 1, 1) := by decide +kernel
theorem dX6_band_2 : decode cX6_band 2 = .ok (.invokevirtual 179, 3) := by decide +kernel
theorem dX6_band_5 : decode cX6_band 5 = .ok (.ifCond .eq 26, 3) := by decide +kernel
theorem dX6_band_8 : decode cX6_band 8 = .ok (.iload_n 2, 1) := by decide +kernel
theorem dX6_band_9 : decode cX6_band 9 = .ok (.iconst 0, 1) := by decide +kernel
theorem dX6_band_10 : decode cX6_band 10 = .ok (.iconst 4, 1) := by decide +kernel
theorem dX6_band_11 : decode cX6_band 11 = .ok (.invokestatic 92, 3) := by decide +kernel
theorem dX6_band_14 : decode cX6_band 14 = .ok (.ifCond .eq 17, 3) := by decide +kernel
theorem dX6_band_17 : decode cX6_band 17 = .ok (.aload_n 0, 1) := by decide +kernel
theorem dX6_band_18 : decode cX6_band 18 = .ok (.aload_n 0, 1) := by decide +kernel
theorem dX6_band_19 : decode cX6_band 19 = .ok (.iload_n 1, 1) := by decide +kernel
theorem dX6_band_20 : decode cX6_band 20 = .ok (.iload_n 2, 1) := by decide +kernel
theorem dX6_band_21 : decode cX6_band 21 = .ok (.invokevirtual 182, 3) := by decide +kernel
theorem dX6_band_24 : decode cX6_band 24 = .ok (.iconst 1, 1) := by decide +kernel
theorem dX6_band_25 : decode cX6_band 25 = .ok (.invokevirtual 118, 3) := by decide +kernel
theorem dX6_band_28 : decode cX6_band 28 = .ok (.goto 4, 3) := by decide +kernel
theorem dX6_band_31 : decode cX6_band 31 = .ok (.iconst (-1), 1) := by decide +kernel
theorem dX6_band_32 : decode cX6_band 32 = .ok (.ireturn, 1) := by decide +kernel
theorem dX6_inchesOf_0 : decode cX6_inchesOf 0 = .ok (.aload_n 0, 1) := by decide +kernel
theorem dX6_inchesOf_1 : decode cX6_inchesOf 1 = .ok (.getfield 28, 3) := by decide +kernel
theorem dX6_inchesOf_4 : decode cX6_inchesOf 4 = .ok (.iload_n 2, 1) := by decide +kernel
theorem dX6_inchesOf_5 : decode cX6_inchesOf 5 = .ok (.iaload, 1) := by decide +kernel
theorem dX6_inchesOf_6 : decode cX6_inchesOf 6 = .ok (.istore_n 3, 1) := by decide +kernel
theorem dX6_inchesOf_7 : decode cX6_inchesOf 7 = .ok (.aload_n 0, 1) := by decide +kernel
theorem dX6_inchesOf_8 : decode cX6_inchesOf 8 = .ok (.iload_n 1, 1) := by decide +kernel
theorem dX6_inchesOf_9 : decode cX6_inchesOf 9 = .ok (.iload_n 2, 1) := by decide +kernel
theorem dX6_inchesOf_10 : decode cX6_inchesOf 10 = .ok (.invokevirtual 172, 3) := by decide +kernel
theorem dX6_inchesOf_13 : decode cX6_inchesOf 13 = .ok (.ifCond .eq 48, 3) := by decide +kernel
theorem dX6_inchesOf_16 : decode cX6_inchesOf 16 = .ok (.aload_n 0, 1) := by decide +kernel
theorem dX6_inchesOf_17 : decode cX6_inchesOf 17 = .ok (.getfield 157, 3) := by decide +kernel
theorem dX6_inchesOf_20 : decode cX6_inchesOf 20 = .ok (.iload_n 2, 1) := by decide +kernel
theorem dX6_inchesOf_21 : decode cX6_inchesOf 21 = .ok (.invokestatic 185, 3) := by decide +kernel
theorem dX6_inchesOf_24 : decode cX6_inchesOf 24 = .ok (.ifCond .ne 37, 3) := by decide +kernel
theorem dX6_inchesOf_27 : decode cX6_inchesOf 27 = .ok (.aload_n 0, 1) := by decide +kernel
theorem dX6_inchesOf_28 : decode cX6_inchesOf 28 = .ok (.getfield 31, 3) := by decide +kernel
theorem dX6_inchesOf_31 : decode cX6_inchesOf 31 = .ok (.iload_n 1, 1) := by decide +kernel
theorem dX6_inchesOf_32 : decode cX6_inchesOf 32 = .ok (.iaload, 1) := by decide +kernel
theorem dX6_inchesOf_33 : decode cX6_inchesOf 33 = .ok (.iconst 3, 1) := by decide +kernel
theorem dX6_inchesOf_34 : decode cX6_inchesOf 34 = .ok (.if_icmp .ne 13, 3) := by decide +kernel
theorem dX6_inchesOf_37 : decode cX6_inchesOf 37 = .ok (.iload_n 2, 1) := by decide +kernel
theorem dX6_inchesOf_38 : decode cX6_inchesOf 38 = .ok (.aload_n 0, 1) := by decide +kernel
theorem dX6_inchesOf_39 : decode cX6_inchesOf 39 = .ok (.getfield 34, 3) := by decide +kernel
theorem dX6_inchesOf_42 : decode cX6_inchesOf 42 = .ok (.iload_n 1, 1) := by decide +kernel
theorem dX6_inchesOf_43 : decode cX6_inchesOf 43 = .ok (.iaload, 1) := by decide +kernel
theorem dX6_inchesOf_44 : decode cX6_inchesOf 44 = .ok (.if_icmp .lt 17, 3) := by decide +kernel
theorem dX6_inchesOf_47 : decode cX6_inchesOf 47 = .ok (.aload_n 0, 1) := by decide +kernel
theorem dX6_inchesOf_48 : decode cX6_inchesOf 48 = .ok (.iload_n 1, 1) := by decide +kernel
theorem dX6_inchesOf_49 : decode cX6_inchesOf 49 = .ok (.iconst 2, 1) := by decide +kernel
theorem dX6_inchesOf_50 : decode cX6_inchesOf 50 = .ok (.invokevirtual 188, 3) := by decide +kernel
theorem dX6_inchesOf_53 : decode cX6_inchesOf 53 = .ok (.ifCond .eq 10, 3) := by decide +kernel
theorem dX6_inchesOf_56 : decode cX6_inchesOf 56 = .ok (.iload_n 3, 1) := by decide +kernel
theorem dX6_inchesOf_57 : decode cX6_inchesOf 57 = .ok (.iconst 2, 1) := by decide +kernel
theorem dX6_inchesOf_58 : decode cX6_inchesOf 58 = .ok (.if_icmp .ge 5, 3) := by decide +kernel
theorem dX6_inchesOf_61 : decode cX6_inchesOf 61 = .ok (.iconst 0, 1) := by decide +kernel
theorem dX6_inchesOf_62 : decode cX6_inchesOf 62 = .ok (.ireturn, 1) := by decide +kernel
theorem dX6_inchesOf_63 : decode cX6_inchesOf 63 = .ok (.aload_n 0, 1) := by decide +kernel
theorem dX6_inchesOf_64 : decode cX6_inchesOf 64 = .ok (.iload_n 1, 1) := by decide +kernel
theorem dX6_inchesOf_65 : decode cX6_inchesOf 65 = .ok (.iconst 1, 1) := by decide +kernel
theorem dX6_inchesOf_66 : decode cX6_inchesOf 66 = .ok (.invokevirtual 188, 3) := by decide +kernel
theorem dX6_inchesOf_69 : decode cX6_inchesOf 69 = .ok (.ifCond .eq 7, 3) := by decide +kernel
theorem dX6_inchesOf_72 : decode cX6_inchesOf 72 = .ok (.iconst 2, 1) := by decide +kernel
theorem dX6_inchesOf_73 : decode cX6_inchesOf 73 = .ok (.goto 4, 3) := by decide +kernel
theorem dX6_inchesOf_76 : decode cX6_inchesOf 76 = .ok (.iconst 1, 1) := by decide +kernel
theorem dX6_inchesOf_77 : decode cX6_inchesOf 77 = .ok (.istore 4, 2) := by decide +kernel
theorem dX6_inchesOf_79 : decode cX6_inchesOf 79 = .ok (.iload_n 3, 1) := by decide +kernel
theorem dX6_inchesOf_80 : decode cX6_inchesOf 80 = .ok (.iload 4, 2) := by decide +kernel
theorem dX6_inchesOf_82 : decode cX6_inchesOf 82 = .ok (.if_icmp .ge 7, 3) := by decide +kernel
theorem dX6_inchesOf_85 : decode cX6_inchesOf 85 = .ok (.iload_n 3, 1) := by decide +kernel
theorem dX6_inchesOf_86 : decode cX6_inchesOf 86 = .ok (.goto 5, 3) := by decide +kernel
theorem dX6_inchesOf_89 : decode cX6_inchesOf 89 = .ok (.iload 4, 2) := by decide +kernel
theorem dX6_inchesOf_91 : decode cX6_inchesOf 91 = .ok (.ireturn, 1) := by decide +kernel
theorem dX6_goSpot_0 : decode cX6_goSpot 0 = .ok (.aload_n 0, 1) := by decide +kernel
theorem dX6_goSpot_1 : decode cX6_goSpot 1 = .ok (.iload_n 2, 1) := by decide +kernel
theorem dX6_goSpot_2 : decode cX6_goSpot 2 = .ok (.invokevirtual 163, 3) := by decide +kernel
theorem dX6_goSpot_5 : decode cX6_goSpot 5 = .ok (.ifCond .ne 5, 3) := by decide +kernel
theorem dX6_goSpot_8 : decode cX6_goSpot 8 = .ok (.iconst 0, 1) := by decide +kernel
theorem dX6_goSpot_9 : decode cX6_goSpot 9 = .ok (.ireturn, 1) := by decide +kernel
theorem dX6_goSpot_10 : decode cX6_goSpot 10 = .ok (.iload_n 2, 1) := by decide +kernel
theorem dX6_goSpot_11 : decode cX6_goSpot 11 = .ok (.aload_n 0, 1) := by decide +kernel
theorem dX6_goSpot_12 : decode cX6_goSpot 12 = .ok (.getfield 34, 3) := by decide +kernel
theorem dX6_goSpot_15 : decode cX6_goSpot 15 = .ok (.iload_n 1, 1) := by decide +kernel
theorem dX6_goSpot_16 : decode cX6_goSpot 16 = .ok (.iaload, 1) := by decide +kernel
theorem dX6_goSpot_17 : decode cX6_goSpot 17 = .ok (.if_icmp .ge 7, 3) := by decide +kernel
theorem dX6_goSpot_20 : decode cX6_goSpot 20 = .ok (.iconst 1, 1) := by decide +kernel
theorem dX6_goSpot_21 : decode cX6_goSpot 21 = .ok (.goto 4, 3) := by decide +kernel
theorem dX6_goSpot_24 : decode cX6_goSpot 24 = .ok (.iconst (-1), 1) := by decide +kernel
theorem dX6_goSpot_25 : decode cX6_goSpot 25 = .ok (.istore 4, 2) := by decide +kernel
theorem dX6_goSpot_27 : decode cX6_goSpot 27 = .ok (.iload_n 3, 1) := by decide +kernel
theorem dX6_goSpot_28 : decode cX6_goSpot 28 = .ok (.ifCond .eq 10, 3) := by decide +kernel
theorem dX6_goSpot_31 : decode cX6_goSpot 31 = .ok (.iload_n 2, 1) := by decide +kernel
theorem dX6_goSpot_32 : decode cX6_goSpot 32 = .ok (.iload 4, 2) := by decide +kernel
theorem dX6_goSpot_34 : decode cX6_goSpot 34 = .ok (.iadd, 1) := by decide +kernel
theorem dX6_goSpot_35 : decode cX6_goSpot 35 = .ok (.goto 7, 3) := by decide +kernel
theorem dX6_goSpot_38 : decode cX6_goSpot 38 = .ok (.iload_n 2, 1) := by decide +kernel
theorem dX6_goSpot_39 : decode cX6_goSpot 39 = .ok (.iload 4, 2) := by decide +kernel
theorem dX6_goSpot_41 : decode cX6_goSpot 41 = .ok (.isub, 1) := by decide +kernel
theorem dX6_goSpot_42 : decode cX6_goSpot 42 = .ok (.istore 5, 2) := by decide +kernel
theorem dX6_goSpot_44 : decode cX6_goSpot 44 = .ok (.aload_n 0, 1) := by decide +kernel
theorem dX6_goSpot_45 : decode cX6_goSpot 45 = .ok (.iload 5, 2) := by decide +kernel
theorem dX6_goSpot_47 : decode cX6_goSpot 47 = .ok (.invokevirtual 163, 3) := by decide +kernel
theorem dX6_goSpot_50 : decode cX6_goSpot 50 = .ok (.ifCond .eq 12, 3) := by decide +kernel
theorem dX6_goSpot_53 : decode cX6_goSpot 53 = .ok (.aload_n 0, 1) := by decide +kernel
theorem dX6_goSpot_54 : decode cX6_goSpot 54 = .ok (.iload_n 1, 1) := by decide +kernel
theorem dX6_goSpot_55 : decode cX6_goSpot 55 = .ok (.iload_n 2, 1) := by decide +kernel
theorem dX6_goSpot_56 : decode cX6_goSpot 56 = .ok (.invokevirtual 191, 3) := by decide +kernel
theorem dX6_goSpot_59 : decode cX6_goSpot 59 = .ok (.goto 4, 3) := by decide +kernel
theorem dX6_goSpot_62 : decode cX6_goSpot 62 = .ok (.iconst 0, 1) := by decide +kernel
theorem dX6_goSpot_63 : decode cX6_goSpot 63 = .ok (.istore 6, 2) := by decide +kernel
theorem dX6_goSpot_65 : decode cX6_goSpot 65 = .ok (.iload 6, 2) := by decide +kernel
theorem dX6_goSpot_67 : decode cX6_goSpot 67 = .ok (.ifCond .le 26, 3) := by decide +kernel
theorem dX6_goSpot_70 : decode cX6_goSpot 70 = .ok (.aload_n 0, 1) := by decide +kernel
theorem dX6_goSpot_71 : decode cX6_goSpot 71 = .ok (.getfield 28, 3) := by decide +kernel
theorem dX6_goSpot_74 : decode cX6_goSpot 74 = .ok (.iload_n 2, 1) := by decide +kernel
theorem dX6_goSpot_75 : decode cX6_goSpot 75 = .ok (.dup2, 1) := by decide +kernel
theorem dX6_goSpot_76 : decode cX6_goSpot 76 = .ok (.iaload, 1) := by decide +kernel
theorem dX6_goSpot_77 : decode cX6_goSpot 77 = .ok (.iload 6, 2) := by decide +kernel
theorem dX6_goSpot_79 : decode cX6_goSpot 79 = .ok (.isub, 1) := by decide +kernel
theorem dX6_goSpot_80 : decode cX6_goSpot 80 = .ok (.iastore, 1) := by decide +kernel
theorem dX6_goSpot_81 : decode cX6_goSpot 81 = .ok (.aload_n 0, 1) := by decide +kernel
theorem dX6_goSpot_82 : decode cX6_goSpot 82 = .ok (.getfield 28, 3) := by decide +kernel
theorem dX6_goSpot_85 : decode cX6_goSpot 85 = .ok (.iload 5, 2) := by decide +kernel
theorem dX6_goSpot_87 : decode cX6_goSpot 87 = .ok (.dup2, 1) := by decide +kernel
theorem dX6_goSpot_88 : decode cX6_goSpot 88 = .ok (.iaload, 1) := by decide +kernel
theorem dX6_goSpot_89 : decode cX6_goSpot 89 = .ok (.iload 6, 2) := by decide +kernel
theorem dX6_goSpot_91 : decode cX6_goSpot 91 = .ok (.iadd, 1) := by decide +kernel
theorem dX6_goSpot_92 : decode cX6_goSpot 92 = .ok (.iastore, 1) := by decide +kernel
theorem dX6_goSpot_93 : decode cX6_goSpot 93 = .ok (.iload 6, 2) := by decide +kernel
theorem dX6_goSpot_95 : decode cX6_goSpot 95 = .ok (.ireturn, 1) := by decide +kernel
theorem dX6_play_0 : decode cX6_play 0 = .ok (.iload_n 2, 1) := by decide +kernel
theorem dX6_play_1 : decode cX6_play 1 = .ok (.ifCond .ne 5, 3) := by decide +kernel
theorem dX6_play_4 : decode cX6_play 4 = .ok (.iconst 0, 1) := by decide +kernel
theorem dX6_play_5 : decode cX6_play 5 = .ok (.ireturn, 1) := by decide +kernel
theorem dX6_play_6 : decode cX6_play 6 = .ok (.iload_n 2, 1) := by decide +kernel
theorem dX6_play_7 : decode cX6_play 7 = .ok (.iconst 1, 1) := by decide +kernel
theorem dX6_play_8 : decode cX6_play 8 = .ok (.if_icmp .ne 7, 3) := by decide +kernel
theorem dX6_play_11 : decode cX6_play 11 = .ok (.iconst 1, 1) := by decide +kernel
theorem dX6_play_12 : decode cX6_play 12 = .ok (.goto 4, 3) := by decide +kernel
theorem dX6_play_15 : decode cX6_play 15 = .ok (.iconst 0, 1) := by decide +kernel
theorem dX6_play_16 : decode cX6_play 16 = .ok (.aload_n 0, 1) := by decide +kernel
theorem dX6_play_17 : decode cX6_play 17 = .ok (.getfield 31, 3) := by decide +kernel
theorem dX6_play_20 : decode cX6_play 20 = .ok (.iload_n 1, 1) := by decide +kernel
theorem dX6_play_21 : decode cX6_play 21 = .ok (.iaload, 1) := by decide +kernel
theorem dX6_play_22 : decode cX6_play 22 = .ok (.iconst 5, 1) := by decide +kernel
theorem dX6_play_23 : decode cX6_play 23 = .ok (.if_icmp .ne 7, 3) := by decide +kernel
theorem dX6_play_26 : decode cX6_play 26 = .ok (.iconst 1, 1) := by decide +kernel
theorem dX6_play_27 : decode cX6_play 27 = .ok (.goto 4, 3) := by decide +kernel
theorem dX6_play_30 : decode cX6_play 30 = .ok (.iconst 0, 1) := by decide +kernel
theorem dX6_play_31 : decode cX6_play 31 = .ok (.if_icmp .eq 7, 3) := by decide +kernel
theorem dX6_play_34 : decode cX6_play 34 = .ok (.iconst 1, 1) := by decide +kernel
theorem dX6_play_35 : decode cX6_play 35 = .ok (.goto 4, 3) := by decide +kernel
theorem dX6_play_38 : decode cX6_play 38 = .ok (.iconst 0, 1) := by decide +kernel
theorem dX6_play_39 : decode cX6_play 39 = .ok (.istore_n 3, 1) := by decide +kernel
theorem dX6_play_40 : decode cX6_play 40 = .ok (.iconst 0, 1) := by decide +kernel
theorem dX6_play_41 : decode cX6_play 41 = .ok (.istore 4, 2) := by decide +kernel
theorem dX6_play_43 : decode cX6_play 43 = .ok (.iconst 1, 1) := by decide +kernel
theorem dX6_play_44 : decode cX6_play 44 = .ok (.istore 5, 2) := by decide +kernel
theorem dX6_play_46 : decode cX6_play 46 = .ok (.iload 5, 2) := by decide +kernel
theorem dX6_play_48 : decode cX6_play 48 = .ok (.bipush 10, 2) := by decide +kernel
theorem dX6_play_50 : decode cX6_play 50 = .ok (.if_icmp .ge 65, 3) := by decide +kernel
theorem dX6_play_53 : decode cX6_play 53 = .ok (.iload_n 3, 1) := by decide +kernel
theorem dX6_play_54 : decode cX6_play 54 = .ok (.ifCond .eq 8, 3) := by decide +kernel
theorem dX6_play_57 : decode cX6_play 57 = .ok (.iload 5, 2) := by decide +kernel
theorem dX6_play_59 : decode cX6_play 59 = .ok (.goto 8, 3) := by decide +kernel
theorem dX6_play_62 : decode cX6_play 62 = .ok (.bipush 10, 2) := by decide +kernel
theorem dX6_play_64 : decode cX6_play 64 = .ok (.iload 5, 2) := by decide +kernel
theorem dX6_play_66 : decode cX6_play 66 = .ok (.isub, 1) := by decide +kernel
theorem dX6_play_67 : decode cX6_play 67 = .ok (.istore 6, 2) := by decide +kernel
theorem dX6_play_69 : decode cX6_play 69 = .ok (.iload 4, 2) := by decide +kernel
theorem dX6_play_71 : decode cX6_play 71 = .ok (.aload_n 0, 1) := by decide +kernel
theorem dX6_play_72 : decode cX6_play 72 = .ok (.iload_n 1, 1) := by decide +kernel
theorem dX6_play_73 : decode cX6_play 73 = .ok (.aload_n 0, 1) := by decide +kernel
theorem dX6_play_74 : decode cX6_play 74 = .ok (.getfield 34, 3) := by decide +kernel
theorem dX6_play_77 : decode cX6_play 77 = .ok (.iload_n 1, 1) := by decide +kernel
theorem dX6_play_78 : decode cX6_play 78 = .ok (.iaload, 1) := by decide +kernel
theorem dX6_play_79 : decode cX6_play 79 = .ok (.iload 6, 2) := by decide +kernel
theorem dX6_play_81 : decode cX6_play 81 = .ok (.isub, 1) := by decide +kernel
theorem dX6_play_82 : decode cX6_play 82 = .ok (.iload_n 3, 1) := by decide +kernel
theorem dX6_play_83 : decode cX6_play 83 = .ok (.invokevirtual 194, 3) := by decide +kernel
theorem dX6_play_86 : decode cX6_play 86 = .ok (.iadd, 1) := by decide +kernel
theorem dX6_play_87 : decode cX6_play 87 = .ok (.istore 4, 2) := by decide +kernel
theorem dX6_play_89 : decode cX6_play 89 = .ok (.iload 4, 2) := by decide +kernel
theorem dX6_play_91 : decode cX6_play 91 = .ok (.aload_n 0, 1) := by decide +kernel
theorem dX6_play_92 : decode cX6_play 92 = .ok (.iload_n 1, 1) := by decide +kernel
theorem dX6_play_93 : decode cX6_play 93 = .ok (.aload_n 0, 1) := by decide +kernel
theorem dX6_play_94 : decode cX6_play 94 = .ok (.getfield 34, 3) := by decide +kernel
theorem dX6_play_97 : decode cX6_play 97 = .ok (.iload_n 1, 1) := by decide +kernel
theorem dX6_play_98 : decode cX6_play 98 = .ok (.iaload, 1) := by decide +kernel
theorem dX6_play_99 : decode cX6_play 99 = .ok (.iload 6, 2) := by decide +kernel
theorem dX6_play_101 : decode cX6_play 101 = .ok (.iadd, 1) := by decide +kernel
theorem dX6_play_102 : decode cX6_play 102 = .ok (.iload_n 3, 1) := by decide +kernel
theorem dX6_play_103 : decode cX6_play 103 = .ok (.invokevirtual 194, 3) := by decide +kernel
theorem dX6_play_106 : decode cX6_play 106 = .ok (.iadd, 1) := by decide +kernel
theorem dX6_play_107 : decode cX6_play 107 = .ok (.istore 4, 2) := by decide +kernel
theorem dX6_play_109 : decode cX6_play 109 = .ok (.iinc 5 1, 3) := by decide +kernel
theorem dX6_play_112 : decode cX6_play 112 = .ok (.goto (-66), 3) := by decide +kernel
theorem dX6_play_115 : decode cX6_play 115 = .ok (.iload 4, 2) := by decide +kernel
theorem dX6_play_117 : decode cX6_play 117 = .ok (.ireturn, 1) := by decide +kernel
theorem dX6_programs_0 : decode cX6_programs 0 = .ok (.iconst 1, 1) := by decide +kernel
theorem dX6_programs_1 : decode cX6_programs 1 = .ok (.istore_n 1, 1) := by decide +kernel
theorem dX6_programs_2 : decode cX6_programs 2 = .ok (.iconst 0, 1) := by decide +kernel
theorem dX6_programs_3 : decode cX6_programs 3 = .ok (.istore_n 2, 1) := by decide +kernel
theorem dX6_programs_4 : decode cX6_programs 4 = .ok (.iload_n 2, 1) := by decide +kernel
theorem dX6_programs_5 : decode cX6_programs 5 = .ok (.aload_n 0, 1) := by decide +kernel
theorem dX6_programs_6 : decode cX6_programs 6 = .ok (.getfield 154, 3) := by decide +kernel
theorem dX6_programs_9 : decode cX6_programs 9 = .ok (.if_icmp .ge 13, 3) := by decide +kernel
theorem dX6_programs_12 : decode cX6_programs 12 = .ok (.iload_n 1, 1) := by decide +kernel
theorem dX6_programs_13 : decode cX6_programs 13 = .ok (.iconst 3, 1) := by decide +kernel
theorem dX6_programs_14 : decode cX6_programs 14 = .ok (.imul, 1) := by decide +kernel
theorem dX6_programs_15 : decode cX6_programs 15 = .ok (.istore_n 1, 1) := by decide +kernel
theorem dX6_programs_16 : decode cX6_programs 16 = .ok (.iinc 2 1, 3) := by decide +kernel
theorem dX6_programs_19 : decode cX6_programs 19 = .ok (.goto (-15), 3) := by decide +kernel
theorem dX6_programs_22 : decode cX6_programs 22 = .ok (.iload_n 1, 1) := by decide +kernel
theorem dX6_programs_23 : decode cX6_programs 23 = .ok (.ireturn, 1) := by decide +kernel
theorem dX6_tuneOf_0 : decode cX6_tuneOf 0 = .ok (.iload_n 1, 1) := by decide +kernel
theorem dX6_tuneOf_1 : decode cX6_tuneOf 1 = .ok (.ifCond .ne 9, 3) := by decide +kernel
theorem dX6_tuneOf_4 : decode cX6_tuneOf 4 = .ok (.iload_n 0, 1) := by decide +kernel
theorem dX6_tuneOf_5 : decode cX6_tuneOf 5 = .ok (.iconst 3, 1) := by decide +kernel
theorem dX6_tuneOf_6 : decode cX6_tuneOf 6 = .ok (.irem, 1) := by decide +kernel
theorem dX6_tuneOf_7 : decode cX6_tuneOf 7 = .ok (.goto 22, 3) := by decide +kernel
theorem dX6_tuneOf_10 : decode cX6_tuneOf 10 = .ok (.iload_n 1, 1) := by decide +kernel
theorem dX6_tuneOf_11 : decode cX6_tuneOf 11 = .ok (.iconst 1, 1) := by decide +kernel
theorem dX6_tuneOf_12 : decode cX6_tuneOf 12 = .ok (.if_icmp .ne 11, 3) := by decide +kernel
theorem dX6_tuneOf_15 : decode cX6_tuneOf 15 = .ok (.iload_n 0, 1) := by decide +kernel
theorem dX6_tuneOf_16 : decode cX6_tuneOf 16 = .ok (.iconst 3, 1) := by decide +kernel
theorem dX6_tuneOf_17 : decode cX6_tuneOf 17 = .ok (.idiv, 1) := by decide +kernel
theorem dX6_tuneOf_18 : decode cX6_tuneOf 18 = .ok (.iconst 3, 1) := by decide +kernel
theorem dX6_tuneOf_19 : decode cX6_tuneOf 19 = .ok (.irem, 1) := by decide +kernel
theorem dX6_tuneOf_20 : decode cX6_tuneOf 20 = .ok (.goto 9, 3) := by decide +kernel
theorem dX6_tuneOf_23 : decode cX6_tuneOf 23 = .ok (.iload_n 0, 1) := by decide +kernel
theorem dX6_tuneOf_24 : decode cX6_tuneOf 24 = .ok (.bipush 9, 2) := by decide +kernel
theorem dX6_tuneOf_26 : decode cX6_tuneOf 26 = .ok (.idiv, 1) := by decide +kernel
theorem dX6_tuneOf_27 : decode cX6_tuneOf 27 = .ok (.iconst 3, 1) := by decide +kernel
theorem dX6_tuneOf_28 : decode cX6_tuneOf 28 = .ok (.irem, 1) := by decide +kernel
theorem dX6_tuneOf_29 : decode cX6_tuneOf 29 = .ok (.ireturn, 1) := by decide +kernel
theorem dX6_breathOf_0 : decode cX6_breathOf 0 = .ok (.iconst 0, 1) := by decide +kernel
theorem dX6_breathOf_1 : decode cX6_breathOf 1 = .ok (.istore_n 2, 1) := by decide +kernel
theorem dX6_breathOf_2 : decode cX6_breathOf 2 = .ok (.iconst 0, 1) := by decide +kernel
theorem dX6_breathOf_3 : decode cX6_breathOf 3 = .ok (.istore_n 3, 1) := by decide +kernel
theorem dX6_breathOf_4 : decode cX6_breathOf 4 = .ok (.iload_n 3, 1) := by decide +kernel
theorem dX6_breathOf_5 : decode cX6_breathOf 5 = .ok (.aload_n 0, 1) := by decide +kernel
theorem dX6_breathOf_6 : decode cX6_breathOf 6 = .ok (.getfield 154, 3) := by decide +kernel
theorem dX6_breathOf_9 : decode cX6_breathOf 9 = .ok (.if_icmp .ge 30, 3) := by decide +kernel
theorem dX6_breathOf_12 : decode cX6_breathOf 12 = .ok (.iload_n 2, 1) := by decide +kernel
theorem dX6_breathOf_13 : decode cX6_breathOf 13 = .ok (.iload_n 1, 1) := by decide +kernel
theorem dX6_breathOf_14 : decode cX6_breathOf 14 = .ok (.iload_n 3, 1) := by decide +kernel
theorem dX6_breathOf_15 : decode cX6_breathOf 15 = .ok (.invokestatic 198, 3) := by decide +kernel
theorem dX6_breathOf_18 : decode cX6_breathOf 18 = .ok (.ifCond .ne 7, 3) := by decide +kernel
theorem dX6_breathOf_21 : decode cX6_breathOf 21 = .ok (.iconst 0, 1) := by decide +kernel
theorem dX6_breathOf_22 : decode cX6_breathOf 22 = .ok (.goto 9, 3) := by decide +kernel
theorem dX6_breathOf_25 : decode cX6_breathOf 25 = .ok (.aload_n 0, 1) := by decide +kernel
theorem dX6_breathOf_26 : decode cX6_breathOf 26 = .ok (.getfield 37, 3) := by decide +kernel
theorem dX6_breathOf_29 : decode cX6_breathOf 29 = .ok (.iload_n 3, 1) := by decide +kernel
theorem dX6_breathOf_30 : decode cX6_breathOf 30 = .ok (.iaload, 1) := by decide +kernel
theorem dX6_breathOf_31 : decode cX6_breathOf 31 = .ok (.iadd, 1) := by decide +kernel
theorem dX6_breathOf_32 : decode cX6_breathOf 32 = .ok (.istore_n 2, 1) := by decide +kernel
theorem dX6_breathOf_33 : decode cX6_breathOf 33 = .ok (.iinc 3 1, 3) := by decide +kernel
theorem dX6_breathOf_36 : decode cX6_breathOf 36 = .ok (.goto (-32), 3) := by decide +kernel
theorem dX6_breathOf_39 : decode cX6_breathOf 39 = .ok (.iload_n 2, 1) := by decide +kernel
theorem dX6_breathOf_40 : decode cX6_breathOf 40 = .ok (.ireturn, 1) := by decide +kernel
theorem dX6_passEvening_0 : decode cX6_passEvening 0 = .ok (.iconst 0, 1) := by decide +kernel
theorem dX6_passEvening_1 : decode cX6_passEvening 1 = .ok (.istore_n 2, 1) := by decide +kernel
theorem dX6_passEvening_2 : decode cX6_passEvening 2 = .ok (.iconst 0, 1) := by decide +kernel
theorem dX6_passEvening_3 : decode cX6_passEvening 3 = .ok (.istore_n 3, 1) := by decide +kernel
theorem dX6_passEvening_4 : decode cX6_passEvening 4 = .ok (.iload_n 3, 1) := by decide +kernel
theorem dX6_passEvening_5 : decode cX6_passEvening 5 = .ok (.aload_n 0, 1) := by decide +kernel
theorem dX6_passEvening_6 : decode cX6_passEvening 6 = .ok (.getfield 154, 3) := by decide +kernel
theorem dX6_passEvening_9 : decode cX6_passEvening 9 = .ok (.if_icmp .ge 37, 3) := by decide +kernel
theorem dX6_passEvening_12 : decode cX6_passEvening 12 = .ok (.aload_n 0, 1) := by decide +kernel
theorem dX6_passEvening_13 : decode cX6_passEvening 13 = .ok (.iload_n 3, 1) := by decide +kernel
theorem dX6_passEvening_14 : decode cX6_passEvening 14 = .ok (.iload_n 1, 1) := by decide +kernel
theorem dX6_passEvening_15 : decode cX6_passEvening 15 = .ok (.iload_n 3, 1) := by decide +kernel
theorem dX6_passEvening_16 : decode cX6_passEvening 16 = .ok (.invokestatic 198, 3) := by decide +kernel
theorem dX6_passEvening_19 : decode cX6_passEvening 19 = .ok (.invokevirtual 201, 3) := by decide +kernel
theorem dX6_passEvening_22 : decode cX6_passEvening 22 = .ok (.istore 4, 2) := by decide +kernel
theorem dX6_passEvening_24 : decode cX6_passEvening 24 = .ok (.aload_n 0, 1) := by decide +kernel
theorem dX6_passEvening_25 : decode cX6_passEvening 25 = .ok (.getfield 40, 3) := by decide +kernel
theorem dX6_passEvening_28 : decode cX6_passEvening 28 = .ok (.iload_n 3, 1) := by decide +kernel
theorem dX6_passEvening_29 : decode cX6_passEvening 29 = .ok (.dup2, 1) := by decide +kernel
theorem dX6_passEvening_30 : decode cX6_passEvening 30 = .ok (.iaload, 1) := by decide +kernel
theorem dX6_passEvening_31 : decode cX6_passEvening 31 = .ok (.iload 4, 2) := by decide +kernel
theorem dX6_passEvening_33 : decode cX6_passEvening 33 = .ok (.iadd, 1) := by decide +kernel
theorem dX6_passEvening_34 : decode cX6_passEvening 34 = .ok (.iastore, 1) := by decide +kernel
theorem dX6_passEvening_35 : decode cX6_passEvening 35 = .ok (.iload_n 2, 1) := by decide +kernel
theorem dX6_passEvening_36 : decode cX6_passEvening 36 = .ok (.iload 4, 2) := by decide +kernel
theorem dX6_passEvening_38 : decode cX6_passEvening 38 = .ok (.iadd, 1) := by decide +kernel
theorem dX6_passEvening_39 : decode cX6_passEvening 39 = .ok (.istore_n 2, 1) := by decide +kernel
theorem dX6_passEvening_40 : decode cX6_passEvening 40 = .ok (.iinc 3 1, 3) := by decide +kernel
theorem dX6_passEvening_43 : decode cX6_passEvening 43 = .ok (.goto (-39), 3) := by decide +kernel
theorem dX6_passEvening_46 : decode cX6_passEvening 46 = .ok (.iload_n 2, 1) := by decide +kernel
theorem dX6_passEvening_47 : decode cX6_passEvening 47 = .ok (.ireturn, 1) := by decide +kernel
theorem dX6_write_0 : decode cX6_write 0 = .ok (.iconst 0, 1) := by decide +kernel
theorem dX6_write_1 : decode cX6_write 1 = .ok (.istore_n 3, 1) := by decide +kernel
theorem dX6_write_2 : decode cX6_write 2 = .ok (.iload_n 3, 1) := by decide +kernel
theorem dX6_write_3 : decode cX6_write 3 = .ok (.bipush 10, 2) := by decide +kernel
theorem dX6_write_5 : decode cX6_write 5 = .ok (.if_icmp .ge 20, 3) := by decide +kernel
theorem dX6_write_8 : decode cX6_write 8 = .ok (.aload_n 1, 1) := by decide +kernel
theorem dX6_write_9 : decode cX6_write 9 = .ok (.iload_n 2, 1) := by decide +kernel
theorem dX6_write_10 : decode cX6_write 10 = .ok (.iload_n 3, 1) := by decide +kernel
theorem dX6_write_11 : decode cX6_write 11 = .ok (.iadd, 1) := by decide +kernel
theorem dX6_write_12 : decode cX6_write 12 = .ok (.aload_n 0, 1) := by decide +kernel
theorem dX6_write_13 : decode cX6_write 13 = .ok (.getfield 28, 3) := by decide +kernel
theorem dX6_write_16 : decode cX6_write 16 = .ok (.iload_n 3, 1) := by decide +kernel
theorem dX6_write_17 : decode cX6_write 17 = .ok (.iaload, 1) := by decide +kernel
theorem dX6_write_18 : decode cX6_write 18 = .ok (.iastore, 1) := by decide +kernel
theorem dX6_write_19 : decode cX6_write 19 = .ok (.iinc 3 1, 3) := by decide +kernel
theorem dX6_write_22 : decode cX6_write 22 = .ok (.goto (-20), 3) := by decide +kernel
theorem dX6_write_25 : decode cX6_write 25 = .ok (.iconst 0, 1) := by decide +kernel
theorem dX6_write_26 : decode cX6_write 26 = .ok (.istore_n 3, 1) := by decide +kernel
theorem dX6_write_27 : decode cX6_write 27 = .ok (.iload_n 3, 1) := by decide +kernel
theorem dX6_write_28 : decode cX6_write 28 = .ok (.iconst 3, 1) := by decide +kernel
theorem dX6_write_29 : decode cX6_write 29 = .ok (.if_icmp .ge 23, 3) := by decide +kernel
theorem dX6_write_32 : decode cX6_write 32 = .ok (.aload_n 1, 1) := by decide +kernel
theorem dX6_write_33 : decode cX6_write 33 = .ok (.iload_n 2, 1) := by decide +kernel
theorem dX6_write_34 : decode cX6_write 34 = .ok (.bipush 10, 2) := by decide +kernel
theorem dX6_write_36 : decode cX6_write 36 = .ok (.iadd, 1) := by decide +kernel
theorem dX6_write_37 : decode cX6_write 37 = .ok (.iload_n 3, 1) := by decide +kernel
theorem dX6_write_38 : decode cX6_write 38 = .ok (.iadd, 1) := by decide +kernel
theorem dX6_write_39 : decode cX6_write 39 = .ok (.aload_n 0, 1) := by decide +kernel
theorem dX6_write_40 : decode cX6_write 40 = .ok (.getfield 40, 3) := by decide +kernel
theorem dX6_write_43 : decode cX6_write 43 = .ok (.iload_n 3, 1) := by decide +kernel
theorem dX6_write_44 : decode cX6_write 44 = .ok (.iaload, 1) := by decide +kernel
theorem dX6_write_45 : decode cX6_write 45 = .ok (.iastore, 1) := by decide +kernel
theorem dX6_write_46 : decode cX6_write 46 = .ok (.iinc 3 1, 3) := by decide +kernel
theorem dX6_write_49 : decode cX6_write 49 = .ok (.goto (-22), 3) := by decide +kernel
theorem dX6_write_52 : decode cX6_write 52 = .ok (.return_, 1) := by decide +kernel
theorem dX6_read_0 : decode cX6_read 0 = .ok (.iconst 0, 1) := by decide +kernel
theorem dX6_read_1 : decode cX6_read 1 = .ok (.istore_n 3, 1) := by decide +kernel
theorem dX6_read_2 : decode cX6_read 2 = .ok (.iload_n 3, 1) := by decide +kernel
theorem dX6_read_3 : decode cX6_read 3 = .ok (.bipush 10, 2) := by decide +kernel
theorem dX6_read_5 : decode cX6_read 5 = .ok (.if_icmp .ge 20, 3) := by decide +kernel
theorem dX6_read_8 : decode cX6_read 8 = .ok (.aload_n 0, 1) := by decide +kernel
theorem dX6_read_9 : decode cX6_read 9 = .ok (.getfield 28, 3) := by decide +kernel
theorem dX6_read_12 : decode cX6_read 12 = .ok (.iload_n 3, 1) := by decide +kernel
theorem dX6_read_13 : decode cX6_read 13 = .ok (.aload_n 1, 1) := by decide +kernel
theorem dX6_read_14 : decode cX6_read 14 = .ok (.iload_n 2, 1) := by decide +kernel
theorem dX6_read_15 : decode cX6_read 15 = .ok (.iload_n 3, 1) := by decide +kernel
theorem dX6_read_16 : decode cX6_read 16 = .ok (.iadd, 1) := by decide +kernel
theorem dX6_read_17 : decode cX6_read 17 = .ok (.iaload, 1) := by decide +kernel
theorem dX6_read_18 : decode cX6_read 18 = .ok (.iastore, 1) := by decide +kernel
theorem dX6_read_19 : decode cX6_read 19 = .ok (.iinc 3 1, 3) := by decide +kernel
theorem dX6_read_22 : decode cX6_read 22 = .ok (.goto (-20), 3) := by decide +kernel
theorem dX6_read_25 : decode cX6_read 25 = .ok (.iconst 0, 1) := by decide +kernel
theorem dX6_read_26 : decode cX6_read 26 = .ok (.istore_n 3, 1) := by decide +kernel
theorem dX6_read_27 : decode cX6_read 27 = .ok (.iload_n 3, 1) := by decide +kernel
theorem dX6_read_28 : decode cX6_read 28 = .ok (.iconst 3, 1) := by decide +kernel
theorem dX6_read_29 : decode cX6_read 29 = .ok (.if_icmp .ge 23, 3) := by decide +kernel
theorem dX6_read_32 : decode cX6_read 32 = .ok (.aload_n 0, 1) := by decide +kernel
theorem dX6_read_33 : decode cX6_read 33 = .ok (.getfield 40, 3) := by decide +kernel
theorem dX6_read_36 : decode cX6_read 36 = .ok (.iload_n 3, 1) := by decide +kernel
theorem dX6_read_37 : decode cX6_read 37 = .ok (.aload_n 1, 1) := by decide +kernel
theorem dX6_read_38 : decode cX6_read 38 = .ok (.iload_n 2, 1) := by decide +kernel
theorem dX6_read_39 : decode cX6_read 39 = .ok (.bipush 10, 2) := by decide +kernel
theorem dX6_read_41 : decode cX6_read 41 = .ok (.iadd, 1) := by decide +kernel
theorem dX6_read_42 : decode cX6_read 42 = .ok (.iload_n 3, 1) := by decide +kernel
theorem dX6_read_43 : decode cX6_read 43 = .ok (.iadd, 1) := by decide +kernel
theorem dX6_read_44 : decode cX6_read 44 = .ok (.iaload, 1) := by decide +kernel
theorem dX6_read_45 : decode cX6_read 45 = .ok (.iastore, 1) := by decide +kernel
theorem dX6_read_46 : decode cX6_read 46 = .ok (.iinc 3 1, 3) := by decide +kernel
theorem dX6_read_49 : decode cX6_read 49 = .ok (.goto (-22), 3) := by decide +kernel
theorem dX6_read_52 : decode cX6_read 52 = .ok (.return_, 1) := by decide +kernel
theorem dX6_wouldMove_0 : decode cX6_wouldMove 0 = .ok (.aload_n 0, 1) := by decide +kernel
theorem dX6_wouldMove_1 : decode cX6_wouldMove 1 = .ok (.aload_n 0, 1) := by decide +kernel
theorem dX6_wouldMove_2 : decode cX6_wouldMove 2 = .ok (.getfield 55, 3) := by decide +kernel
theorem dX6_wouldMove_5 : decode cX6_wouldMove 5 = .ok (.iconst 0, 1) := by decide +kernel
theorem dX6_wouldMove_6 : decode cX6_wouldMove 6 = .ok (.invokevirtual 204, 3) := by decide +kernel
theorem dX6_wouldMove_9 : decode cX6_wouldMove 9 = .ok (.aload_n 0, 1) := by decide +kernel
theorem dX6_wouldMove_10 : decode cX6_wouldMove 10 = .ok (.iload_n 1, 1) := by decide +kernel
theorem dX6_wouldMove_11 : decode cX6_wouldMove 11 = .ok (.iload_n 2, 1) := by decide +kernel
theorem dX6_wouldMove_12 : decode cX6_wouldMove 12 = .ok (.invokevirtual 201, 3) := by decide +kernel
theorem dX6_wouldMove_15 : decode cX6_wouldMove 15 = .ok (.istore_n 3, 1) := by decide +kernel
theorem dX6_wouldMove_16 : decode cX6_wouldMove 16 = .ok (.aload_n 0, 1) := by decide +kernel
theorem dX6_wouldMove_17 : decode cX6_wouldMove 17 = .ok (.aload_n 0, 1) := by decide +kernel
theorem dX6_wouldMove_18 : decode cX6_wouldMove 18 = .ok (.getfield 55, 3) := by decide +kernel
theorem dX6_wouldMove_21 : decode cX6_wouldMove 21 = .ok (.iconst 0, 1) := by decide +kernel
theorem dX6_wouldMove_22 : decode cX6_wouldMove 22 = .ok (.invokevirtual 208, 3) := by decide +kernel
theorem dX6_wouldMove_25 : decode cX6_wouldMove 25 = .ok (.iload_n 3, 1) := by decide +kernel
theorem dX6_wouldMove_26 : decode cX6_wouldMove 26 = .ok (.ireturn, 1) := by decide +kernel
theorem dX6_mark_0 : decode cX6_mark 0 = .ok (.aload_n 0, 1) := by decide +kernel
theorem dX6_mark_1 : decode cX6_mark 1 = .ok (.iload_n 1, 1) := by decide +kernel
theorem dX6_mark_2 : decode cX6_mark 2 = .ok (.invokevirtual 179, 3) := by decide +kernel
theorem dX6_mark_5 : decode cX6_mark 5 = .ok (.ifCond .eq 12, 3) := by decide +kernel
theorem dX6_mark_8 : decode cX6_mark 8 = .ok (.iload_n 2, 1) := by decide +kernel
theorem dX6_mark_9 : decode cX6_mark 9 = .ok (.iconst 1, 1) := by decide +kernel
theorem dX6_mark_10 : decode cX6_mark 10 = .ok (.iconst 5, 1) := by decide +kernel
theorem dX6_mark_11 : decode cX6_mark 11 = .ok (.invokestatic 92, 3) := by decide +kernel
theorem dX6_mark_14 : decode cX6_mark 14 = .ok (.ifCond .ne 5, 3) := by decide +kernel
theorem dX6_mark_17 : decode cX6_mark 17 = .ok (.iconst (-1), 1) := by decide +kernel
theorem dX6_mark_18 : decode cX6_mark 18 = .ok (.ireturn, 1) := by decide +kernel
theorem dX6_mark_19 : decode cX6_mark 19 = .ok (.aload_n 0, 1) := by decide +kernel
theorem dX6_mark_20 : decode cX6_mark 20 = .ok (.iload_n 1, 1) := by decide +kernel
theorem dX6_mark_21 : decode cX6_mark 21 = .ok (.iload_n 2, 1) := by decide +kernel
theorem dX6_mark_22 : decode cX6_mark 22 = .ok (.invokevirtual 188, 3) := by decide +kernel
theorem dX6_mark_25 : decode cX6_mark 25 = .ok (.ifCond .ne 9, 3) := by decide +kernel
theorem dX6_mark_28 : decode cX6_mark 28 = .ok (.aload_n 0, 1) := by decide +kernel
theorem dX6_mark_29 : decode cX6_mark 29 = .ok (.iconst 3, 1) := by decide +kernel
theorem dX6_mark_30 : decode cX6_mark 30 = .ok (.invokevirtual 100, 3) := by decide +kernel
theorem dX6_mark_33 : decode cX6_mark 33 = .ok (.ireturn, 1) := by decide +kernel
theorem dX6_mark_34 : decode cX6_mark 34 = .ok (.iconst 0, 1) := by decide +kernel
theorem dX6_mark_35 : decode cX6_mark 35 = .ok (.istore_n 3, 1) := by decide +kernel
theorem dX6_mark_36 : decode cX6_mark 36 = .ok (.iconst 0, 1) := by decide +kernel
theorem dX6_mark_37 : decode cX6_mark 37 = .ok (.istore 4, 2) := by decide +kernel
theorem dX6_mark_39 : decode cX6_mark 39 = .ok (.iload 4, 2) := by decide +kernel
theorem dX6_mark_41 : decode cX6_mark 41 = .ok (.aload_n 0, 1) := by decide +kernel
theorem dX6_mark_42 : decode cX6_mark 42 = .ok (.getfield 151, 3) := by decide +kernel
theorem dX6_mark_45 : decode cX6_mark 45 = .ok (.if_icmp .ge 38, 3) := by decide +kernel
theorem dX6_mark_48 : decode cX6_mark 48 = .ok (.iload_n 3, 1) := by decide +kernel
theorem dX6_mark_49 : decode cX6_mark 49 = .ok (.aload_n 0, 1) := by decide +kernel
theorem dX6_mark_50 : decode cX6_mark 50 = .ok (.iload_n 1, 1) := by decide +kernel
theorem dX6_mark_51 : decode cX6_mark 51 = .ok (.iload 4, 2) := by decide +kernel
theorem dX6_mark_53 : decode cX6_mark 53 = .ok (.invokevirtual 172, 3) := by decide +kernel
theorem dX6_mark_56 : decode cX6_mark 56 = .ok (.ifCond .eq 18, 3) := by decide +kernel
theorem dX6_mark_59 : decode cX6_mark 59 = .ok (.aload_n 0, 1) := by decide +kernel
theorem dX6_mark_60 : decode cX6_mark 60 = .ok (.getfield 28, 3) := by decide +kernel
theorem dX6_mark_63 : decode cX6_mark 63 = .ok (.iload 4, 2) := by decide +kernel
theorem dX6_mark_65 : decode cX6_mark 65 = .ok (.iaload, 1) := by decide +kernel
theorem dX6_mark_66 : decode cX6_mark 66 = .ok (.iconst 2, 1) := by decide +kernel
theorem dX6_mark_67 : decode cX6_mark 67 = .ok (.if_icmp .ge 7, 3) := by decide +kernel
theorem dX6_mark_70 : decode cX6_mark 70 = .ok (.iconst 1, 1) := by decide +kernel
theorem dX6_mark_71 : decode cX6_mark 71 = .ok (.goto 4, 3) := by decide +kernel
theorem dX6_mark_74 : decode cX6_mark 74 = .ok (.iconst 0, 1) := by decide +kernel
theorem dX6_mark_75 : decode cX6_mark 75 = .ok (.iadd, 1) := by decide +kernel
theorem dX6_mark_76 : decode cX6_mark 76 = .ok (.istore_n 3, 1) := by decide +kernel
theorem dX6_mark_77 : decode cX6_mark 77 = .ok (.iinc 4 1, 3) := by decide +kernel
theorem dX6_mark_80 : decode cX6_mark 80 = .ok (.goto (-41), 3) := by decide +kernel
theorem dX6_mark_83 : decode cX6_mark 83 = .ok (.iload_n 2, 1) := by decide +kernel
theorem dX6_mark_84 : decode cX6_mark 84 = .ok (.iconst 1, 1) := by decide +kernel
theorem dX6_mark_85 : decode cX6_mark 85 = .ok (.if_icmp .ne 12, 3) := by decide +kernel
theorem dX6_mark_88 : decode cX6_mark 88 = .ok (.aload_n 0, 1) := by decide +kernel
theorem dX6_mark_89 : decode cX6_mark 89 = .ok (.iload_n 1, 1) := by decide +kernel
theorem dX6_mark_90 : decode cX6_mark 90 = .ok (.iconst 1, 1) := by decide +kernel
theorem dX6_mark_91 : decode cX6_mark 91 = .ok (.invokevirtual 211, 3) := by decide +kernel
theorem dX6_mark_94 : decode cX6_mark 94 = .ok (.goto 53, 3) := by decide +kernel
theorem dX6_mark_97 : decode cX6_mark 97 = .ok (.iload_n 2, 1) := by decide +kernel
theorem dX6_mark_98 : decode cX6_mark 98 = .ok (.iconst 2, 1) := by decide +kernel
theorem dX6_mark_99 : decode cX6_mark 99 = .ok (.if_icmp .ne 7, 3) := by decide +kernel
theorem dX6_mark_102 : decode cX6_mark 102 = .ok (.iload_n 3, 1) := by decide +kernel
theorem dX6_mark_103 : decode cX6_mark 103 = .ok (.goto 44, 3) := by decide +kernel
theorem dX6_mark_106 : decode cX6_mark 106 = .ok (.iload_n 2, 1) := by decide +kernel
theorem dX6_mark_107 : decode cX6_mark 107 = .ok (.iconst 3, 1) := by decide +kernel
theorem dX6_mark_108 : decode cX6_mark 108 = .ok (.if_icmp .ne 19, 3) := by decide +kernel
theorem dX6_mark_111 : decode cX6_mark 111 = .ok (.aload_n 0, 1) := by decide +kernel
theorem dX6_mark_112 : decode cX6_mark 112 = .ok (.getfield 151, 3) := by decide +kernel
theorem dX6_mark_115 : decode cX6_mark 115 = .ok (.iconst 1, 1) := by decide +kernel
theorem dX6_mark_116 : decode cX6_mark 116 = .ok (.isub, 1) := by decide +kernel
theorem dX6_mark_117 : decode cX6_mark 117 = .ok (.aload_n 0, 1) := by decide +kernel
theorem dX6_mark_118 : decode cX6_mark 118 = .ok (.getfield 34, 3) := by decide +kernel
theorem dX6_mark_121 : decode cX6_mark 121 = .ok (.iload_n 1, 1) := by decide +kernel
theorem dX6_mark_122 : decode cX6_mark 122 = .ok (.iaload, 1) := by decide +kernel
theorem dX6_mark_123 : decode cX6_mark 123 = .ok (.isub, 1) := by decide +kernel
theorem dX6_mark_124 : decode cX6_mark 124 = .ok (.goto 23, 3) := by decide +kernel
theorem dX6_mark_127 : decode cX6_mark 127 = .ok (.iload_n 2, 1) := by decide +kernel
theorem dX6_mark_128 : decode cX6_mark 128 = .ok (.iconst 4, 1) := by decide +kernel
theorem dX6_mark_129 : decode cX6_mark 129 = .ok (.if_icmp .ne 12, 3) := by decide +kernel
theorem dX6_mark_132 : decode cX6_mark 132 = .ok (.aload_n 0, 1) := by decide +kernel
theorem dX6_mark_133 : decode cX6_mark 133 = .ok (.getfield 37, 3) := by decide +kernel
theorem dX6_mark_136 : decode cX6_mark 136 = .ok (.iload_n 1, 1) := by decide +kernel
theorem dX6_mark_137 : decode cX6_mark 137 = .ok (.iaload, 1) := by decide +kernel
theorem dX6_mark_138 : decode cX6_mark 138 = .ok (.goto 9, 3) := by decide +kernel
theorem dX6_mark_141 : decode cX6_mark 141 = .ok (.aload_n 0, 1) := by decide +kernel
theorem dX6_mark_142 : decode cX6_mark 142 = .ok (.iload_n 1, 1) := by decide +kernel
theorem dX6_mark_143 : decode cX6_mark 143 = .ok (.iconst 2, 1) := by decide +kernel
theorem dX6_mark_144 : decode cX6_mark 144 = .ok (.invokevirtual 211, 3) := by decide +kernel
theorem dX6_mark_147 : decode cX6_mark 147 = .ok (.ireturn, 1) := by decide +kernel
theorem dX6_isSet_0 : decode cX6_isSet 0 = .ok (.iload_n 1, 1) := by decide +kernel
theorem dX6_isSet_1 : decode cX6_isSet 1 = .ok (.iconst 0, 1) := by decide +kernel
theorem dX6_isSet_2 : decode cX6_isSet 2 = .ok (.iconst 1, 1) := by decide +kernel
theorem dX6_isSet_3 : decode cX6_isSet 3 = .ok (.aload_n 0, 1) := by decide +kernel
theorem dX6_isSet_4 : decode cX6_isSet 4 = .ok (.getfield 151, 3) := by decide +kernel
theorem dX6_isSet_7 : decode cX6_isSet 7 = .ok (.ishl, 1) := by decide +kernel
theorem dX6_isSet_8 : decode cX6_isSet 8 = .ok (.iconst 1, 1) := by decide +kernel
theorem dX6_isSet_9 : decode cX6_isSet 9 = .ok (.isub, 1) := by decide +kernel
theorem dX6_isSet_10 : decode cX6_isSet 10 = .ok (.invokestatic 92, 3) := by decide +kernel
theorem dX6_isSet_13 : decode cX6_isSet 13 = .ok (.ireturn, 1) := by decide +kernel
theorem dX6_frost_0 : decode cX6_frost 0 = .ok (.aload_n 0, 1) := by decide +kernel
theorem dX6_frost_1 : decode cX6_frost 1 = .ok (.iload_n 1, 1) := by decide +kernel
theorem dX6_frost_2 : decode cX6_frost 2 = .ok (.invokevirtual 214, 3) := by decide +kernel
theorem dX6_frost_5 : decode cX6_frost 5 = .ok (.ifCond .ne 5, 3) := by decide +kernel
theorem dX6_frost_8 : decode cX6_frost 8 = .ok (.iconst (-1), 1) := by decide +kernel
theorem dX6_frost_9 : decode cX6_frost 9 = .ok (.ireturn, 1) := by decide +kernel
theorem dX6_frost_10 : decode cX6_frost 10 = .ok (.aload_n 0, 1) := by decide +kernel
theorem dX6_frost_11 : decode cX6_frost 11 = .ok (.getfield 157, 3) := by decide +kernel
theorem dX6_frost_14 : decode cX6_frost 14 = .ok (.istore_n 2, 1) := by decide +kernel
theorem dX6_frost_15 : decode cX6_frost 15 = .ok (.aload_n 0, 1) := by decide +kernel
theorem dX6_frost_16 : decode cX6_frost 16 = .ok (.iload_n 1, 1) := by decide +kernel
theorem dX6_frost_17 : decode cX6_frost 17 = .ok (.putfield 157, 3) := by decide +kernel
theorem dX6_frost_20 : decode cX6_frost 20 = .ok (.iload_n 2, 1) := by decide +kernel
theorem dX6_frost_21 : decode cX6_frost 21 = .ok (.ireturn, 1) := by decide +kernel
theorem dX6_move_0 : decode cX6_move 0 = .ok (.aload_n 0, 1) := by decide +kernel
theorem dX6_move_1 : decode cX6_move 1 = .ok (.iload_n 1, 1) := by decide +kernel
theorem dX6_move_2 : decode cX6_move 2 = .ok (.invokevirtual 179, 3) := by decide +kernel
theorem dX6_move_5 : decode cX6_move 5 = .ok (.ifCond .eq 11, 3) := by decide +kernel
theorem dX6_move_8 : decode cX6_move 8 = .ok (.aload_n 0, 1) := by decide +kernel
theorem dX6_move_9 : decode cX6_move 9 = .ok (.iload_n 2, 1) := by decide +kernel
theorem dX6_move_10 : decode cX6_move 10 = .ok (.invokevirtual 163, 3) := by decide +kernel
theorem dX6_move_13 : decode cX6_move 13 = .ok (.ifCond .ne 5, 3) := by decide +kernel
theorem dX6_move_16 : decode cX6_move 16 = .ok (.iconst (-1), 1) := by decide +kernel
theorem dX6_move_17 : decode cX6_move 17 = .ok (.ireturn, 1) := by decide +kernel
theorem dX6_move_18 : decode cX6_move 18 = .ok (.aload_n 0, 1) := by decide +kernel
theorem dX6_move_19 : decode cX6_move 19 = .ok (.getfield 34, 3) := by decide +kernel
theorem dX6_move_22 : decode cX6_move 22 = .ok (.iload_n 1, 1) := by decide +kernel
theorem dX6_move_23 : decode cX6_move 23 = .ok (.iaload, 1) := by decide +kernel
theorem dX6_move_24 : decode cX6_move 24 = .ok (.istore_n 3, 1) := by decide +kernel
theorem dX6_move_25 : decode cX6_move 25 = .ok (.aload_n 0, 1) := by decide +kernel
theorem dX6_move_26 : decode cX6_move 26 = .ok (.getfield 34, 3) := by decide +kernel
theorem dX6_move_29 : decode cX6_move 29 = .ok (.iload_n 1, 1) := by decide +kernel
theorem dX6_move_30 : decode cX6_move 30 = .ok (.iload_n 2, 1) := by decide +kernel
theorem dX6_move_31 : decode cX6_move 31 = .ok (.iastore, 1) := by decide +kernel
theorem dX6_move_32 : decode cX6_move 32 = .ok (.iload_n 3, 1) := by decide +kernel
theorem dX6_move_33 : decode cX6_move 33 = .ok (.ireturn, 1) := by decide +kernel
theorem dX6_isProgram_0 : decode cX6_isProgram 0 = .ok (.iload_n 1, 1) := by decide +kernel
theorem dX6_isProgram_1 : decode cX6_isProgram 1 = .ok (.iconst 0, 1) := by decide +kernel
theorem dX6_isProgram_2 : decode cX6_isProgram 2 = .ok (.aload_n 0, 1) := by decide +kernel
theorem dX6_isProgram_3 : decode cX6_isProgram 3 = .ok (.invokevirtual 217, 3) := by decide +kernel
theorem dX6_isProgram_6 : decode cX6_isProgram 6 = .ok (.iconst 1, 1) := by decide +kernel
theorem dX6_isProgram_7 : decode cX6_isProgram 7 = .ok (.isub, 1) := by decide +kernel
theorem dX6_isProgram_8 : decode cX6_isProgram 8 = .ok (.invokestatic 92, 3) := by decide +kernel
theorem dX6_isProgram_11 : decode cX6_isProgram 11 = .ok (.ireturn, 1) := by decide +kernel
theorem dX6_goEvening_0 : decode cX6_goEvening 0 = .ok (.aload_n 0, 1) := by decide +kernel
theorem dX6_goEvening_1 : decode cX6_goEvening 1 = .ok (.aload_n 0, 1) := by decide +kernel
theorem dX6_goEvening_2 : decode cX6_goEvening 2 = .ok (.getfield 61, 3) := by decide +kernel
theorem dX6_goEvening_5 : decode cX6_goEvening 5 = .ok (.bipush 14, 2) := by decide +kernel
theorem dX6_goEvening_7 : decode cX6_goEvening 7 = .ok (.aload_n 0, 1) := by decide +kernel
theorem dX6_goEvening_8 : decode cX6_goEvening 8 = .ok (.getfield 160, 3) := by decide +kernel
theorem dX6_goEvening_11 : decode cX6_goEvening 11 = .ok (.imul, 1) := by decide +kernel
theorem dX6_goEvening_12 : decode cX6_goEvening 12 = .ok (.invokevirtual 204, 3) := by decide +kernel
theorem dX6_goEvening_15 : decode cX6_goEvening 15 = .ok (.aload_n 0, 1) := by decide +kernel
theorem dX6_goEvening_16 : decode cX6_goEvening 16 = .ok (.getfield 58, 3) := by decide +kernel
theorem dX6_goEvening_19 : decode cX6_goEvening 19 = .ok (.aload_n 0, 1) := by decide +kernel
theorem dX6_goEvening_20 : decode cX6_goEvening 20 = .ok (.getfield 160, 3) := by decide +kernel
theorem dX6_goEvening_23 : decode cX6_goEvening 23 = .ok (.iload_n 1, 1) := by decide +kernel
theorem dX6_goEvening_24 : decode cX6_goEvening 24 = .ok (.iastore, 1) := by decide +kernel
theorem dX6_goEvening_25 : decode cX6_goEvening 25 = .ok (.aload_n 0, 1) := by decide +kernel
theorem dX6_goEvening_26 : decode cX6_goEvening 26 = .ok (.dup, 1) := by decide +kernel
theorem dX6_goEvening_27 : decode cX6_goEvening 27 = .ok (.getfield 160, 3) := by decide +kernel
theorem dX6_goEvening_30 : decode cX6_goEvening 30 = .ok (.iconst 1, 1) := by decide +kernel
theorem dX6_goEvening_31 : decode cX6_goEvening 31 = .ok (.iadd, 1) := by decide +kernel
theorem dX6_goEvening_32 : decode cX6_goEvening 32 = .ok (.putfield 160, 3) := by decide +kernel
theorem dX6_goEvening_35 : decode cX6_goEvening 35 = .ok (.aload_n 0, 1) := by decide +kernel
theorem dX6_goEvening_36 : decode cX6_goEvening 36 = .ok (.iload_n 1, 1) := by decide +kernel
theorem dX6_goEvening_37 : decode cX6_goEvening 37 = .ok (.invokevirtual 221, 3) := by decide +kernel
theorem dX6_goEvening_40 : decode cX6_goEvening 40 = .ok (.ireturn, 1) := by decide +kernel
theorem dX6_evening_0 : decode cX6_evening 0 = .ok (.aload_n 0, 1) := by decide +kernel
theorem dX6_evening_1 : decode cX6_evening 1 = .ok (.iload_n 1, 1) := by decide +kernel
theorem dX6_evening_2 : decode cX6_evening 2 = .ok (.invokevirtual 224, 3) := by decide +kernel
theorem dX6_evening_5 : decode cX6_evening 5 = .ok (.ifCond .ne 5, 3) := by decide +kernel
theorem dX6_evening_8 : decode cX6_evening 8 = .ok (.iconst (-1), 1) := by decide +kernel
theorem dX6_evening_9 : decode cX6_evening 9 = .ok (.ireturn, 1) := by decide +kernel
theorem dX6_evening_10 : decode cX6_evening 10 = .ok (.aload_n 0, 1) := by decide +kernel
theorem dX6_evening_11 : decode cX6_evening 11 = .ok (.getfield 151, 3) := by decide +kernel
theorem dX6_evening_14 : decode cX6_evening 14 = .ok (.ifCond .ne 6, 3) := by decide +kernel
theorem dX6_evening_17 : decode cX6_evening 17 = .ok (.bipush (-4), 2) := by decide +kernel
theorem dX6_evening_19 : decode cX6_evening 19 = .ok (.ireturn, 1) := by decide +kernel
theorem dX6_evening_20 : decode cX6_evening 20 = .ok (.aload_n 0, 1) := by decide +kernel
theorem dX6_evening_21 : decode cX6_evening 21 = .ok (.getfield 160, 3) := by decide +kernel
theorem dX6_evening_24 : decode cX6_evening 24 = .ok (.bipush 60, 2) := by decide +kernel
theorem dX6_evening_26 : decode cX6_evening 26 = .ok (.if_icmp .ne 6, 3) := by decide +kernel
theorem dX6_evening_29 : decode cX6_evening 29 = .ok (.bipush (-2), 2) := by decide +kernel
theorem dX6_evening_31 : decode cX6_evening 31 = .ok (.ireturn, 1) := by decide +kernel
theorem dX6_evening_32 : decode cX6_evening 32 = .ok (.aload_n 0, 1) := by decide +kernel
theorem dX6_evening_33 : decode cX6_evening 33 = .ok (.iload_n 1, 1) := by decide +kernel
theorem dX6_evening_34 : decode cX6_evening 34 = .ok (.invokevirtual 227, 3) := by decide +kernel
theorem dX6_evening_37 : decode cX6_evening 37 = .ok (.istore_n 2, 1) := by decide +kernel
theorem dX6_evening_38 : decode cX6_evening 38 = .ok (.aload_n 0, 1) := by decide +kernel
theorem dX6_evening_39 : decode cX6_evening 39 = .ok (.aload_n 0, 1) := by decide +kernel
theorem dX6_evening_40 : decode cX6_evening 40 = .ok (.iload_n 1, 1) := by decide +kernel
theorem dX6_evening_41 : decode cX6_evening 41 = .ok (.invokevirtual 230, 3) := by decide +kernel
theorem dX6_evening_44 : decode cX6_evening 44 = .ok (.iload_n 2, 1) := by decide +kernel
theorem dX6_evening_45 : decode cX6_evening 45 = .ok (.invokevirtual 118, 3) := by decide +kernel
theorem dX6_evening_48 : decode cX6_evening 48 = .ok (.ireturn, 1) := by decide +kernel
theorem dX6_undo_0 : decode cX6_undo 0 = .ok (.iload_n 1, 1) := by decide +kernel
theorem dX6_undo_1 : decode cX6_undo 1 = .ok (.iconst 0, 1) := by decide +kernel
theorem dX6_undo_2 : decode cX6_undo 2 = .ok (.aload_n 0, 1) := by decide +kernel
theorem dX6_undo_3 : decode cX6_undo 3 = .ok (.getfield 160, 3) := by decide +kernel
theorem dX6_undo_6 : decode cX6_undo 6 = .ok (.invokestatic 92, 3) := by decide +kernel
theorem dX6_undo_9 : decode cX6_undo 9 = .ok (.ifCond .ne 5, 3) := by decide +kernel
theorem dX6_undo_12 : decode cX6_undo 12 = .ok (.iconst (-1), 1) := by decide +kernel
theorem dX6_undo_13 : decode cX6_undo 13 = .ok (.ireturn, 1) := by decide +kernel
theorem dX6_undo_14 : decode cX6_undo 14 = .ok (.aload_n 0, 1) := by decide +kernel
theorem dX6_undo_15 : decode cX6_undo 15 = .ok (.getfield 160, 3) := by decide +kernel
theorem dX6_undo_18 : decode cX6_undo 18 = .ok (.iload_n 1, 1) := by decide +kernel
theorem dX6_undo_19 : decode cX6_undo 19 = .ok (.isub, 1) := by decide +kernel
theorem dX6_undo_20 : decode cX6_undo 20 = .ok (.istore_n 2, 1) := by decide +kernel
theorem dX6_undo_21 : decode cX6_undo 21 = .ok (.iload_n 2, 1) := by decide +kernel
theorem dX6_undo_22 : decode cX6_undo 22 = .ok (.ifCond .le 20, 3) := by decide +kernel
theorem dX6_undo_25 : decode cX6_undo 25 = .ok (.aload_n 0, 1) := by decide +kernel
theorem dX6_undo_26 : decode cX6_undo 26 = .ok (.aload_n 0, 1) := by decide +kernel
theorem dX6_undo_27 : decode cX6_undo 27 = .ok (.getfield 61, 3) := by decide +kernel
theorem dX6_undo_30 : decode cX6_undo 30 = .ok (.bipush 14, 2) := by decide +kernel
theorem dX6_undo_32 : decode cX6_undo 32 = .ok (.iload_n 1, 1) := by decide +kernel
theorem dX6_undo_33 : decode cX6_undo 33 = .ok (.imul, 1) := by decide +kernel
theorem dX6_undo_34 : decode cX6_undo 34 = .ok (.invokevirtual 208, 3) := by decide +kernel
theorem dX6_undo_37 : decode cX6_undo 37 = .ok (.aload_n 0, 1) := by decide +kernel
theorem dX6_undo_38 : decode cX6_undo 38 = .ok (.iload_n 1, 1) := by decide +kernel
theorem dX6_undo_39 : decode cX6_undo 39 = .ok (.putfield 160, 3) := by decide +kernel
theorem dX6_undo_42 : decode cX6_undo 42 = .ok (.iload_n 2, 1) := by decide +kernel
theorem dX6_undo_43 : decode cX6_undo 43 = .ok (.ireturn, 1) := by decide +kernel
theorem dX6_allHigh_0 : decode cX6_allHigh 0 = .ok (.iconst 0, 1) := by decide +kernel
theorem dX6_allHigh_1 : decode cX6_allHigh 1 = .ok (.istore_n 1, 1) := by decide +kernel
theorem dX6_allHigh_2 : decode cX6_allHigh 2 = .ok (.iconst 0, 1) := by decide +kernel
theorem dX6_allHigh_3 : decode cX6_allHigh 3 = .ok (.istore_n 2, 1) := by decide +kernel
theorem dX6_allHigh_4 : decode cX6_allHigh 4 = .ok (.iload_n 2, 1) := by decide +kernel
theorem dX6_allHigh_5 : decode cX6_allHigh 5 = .ok (.aload_n 0, 1) := by decide +kernel
theorem dX6_allHigh_6 : decode cX6_allHigh 6 = .ok (.getfield 151, 3) := by decide +kernel
theorem dX6_allHigh_9 : decode cX6_allHigh 9 = .ok (.if_icmp .ge 18, 3) := by decide +kernel
theorem dX6_allHigh_12 : decode cX6_allHigh 12 = .ok (.iload_n 1, 1) := by decide +kernel
theorem dX6_allHigh_13 : decode cX6_allHigh 13 = .ok (.aload_n 0, 1) := by decide +kernel
theorem dX6_allHigh_14 : decode cX6_allHigh 14 = .ok (.getfield 28, 3) := by decide +kernel
theorem dX6_allHigh_17 : decode cX6_allHigh 17 = .ok (.iload_n 2, 1) := by decide +kernel
theorem dX6_allHigh_18 : decode cX6_allHigh 18 = .ok (.iaload, 1) := by decide +kernel
theorem dX6_allHigh_19 : decode cX6_allHigh 19 = .ok (.iadd, 1) := by decide +kernel
theorem dX6_allHigh_20 : decode cX6_allHigh 20 = .ok (.istore_n 1, 1) := by decide +kernel
theorem dX6_allHigh_21 : decode cX6_allHigh 21 = .ok (.iinc 2 1, 3) := by decide +kernel
theorem dX6_allHigh_24 : decode cX6_allHigh 24 = .ok (.goto (-20), 3) := by decide +kernel
theorem dX6_allHigh_27 : decode cX6_allHigh 27 = .ok (.iload_n 1, 1) := by decide +kernel
theorem dX6_allHigh_28 : decode cX6_allHigh 28 = .ok (.ireturn, 1) := by decide +kernel
theorem dX6_heights_0 : decode cX6_heights 0 = .ok (.iload_n 1, 1) := by decide +kernel
theorem dX6_heights_1 : decode cX6_heights 1 = .ok (.invokestatic 96, 3) := by decide +kernel
theorem dX6_heights_4 : decode cX6_heights 4 = .ok (.ifCond .ne 5, 3) := by decide +kernel
theorem dX6_heights_7 : decode cX6_heights 7 = .ok (.iconst (-1), 1) := by decide +kernel
theorem dX6_heights_8 : decode cX6_heights 8 = .ok (.ireturn, 1) := by decide +kernel
theorem dX6_heights_9 : decode cX6_heights 9 = .ok (.aload_n 0, 1) := by decide +kernel
theorem dX6_heights_10 : decode cX6_heights 10 = .ok (.iload_n 1, 1) := by decide +kernel
theorem dX6_heights_11 : decode cX6_heights 11 = .ok (.aload_n 0, 1) := by decide +kernel
theorem dX6_heights_12 : decode cX6_heights 12 = .ok (.getfield 151, 3) := by decide +kernel
theorem dX6_heights_15 : decode cX6_heights 15 = .ok (.invokevirtual 233, 3) := by decide +kernel
theorem dX6_heights_18 : decode cX6_heights 18 = .ok (.pop, 1) := by decide +kernel
theorem dX6_heights_19 : decode cX6_heights 19 = .ok (.iconst 0, 1) := by decide +kernel
theorem dX6_heights_20 : decode cX6_heights 20 = .ok (.istore_n 2, 1) := by decide +kernel
theorem dX6_heights_21 : decode cX6_heights 21 = .ok (.iload_n 2, 1) := by decide +kernel
theorem dX6_heights_22 : decode cX6_heights 22 = .ok (.aload_n 0, 1) := by decide +kernel
theorem dX6_heights_23 : decode cX6_heights 23 = .ok (.getfield 151, 3) := by decide +kernel
theorem dX6_heights_26 : decode cX6_heights 26 = .ok (.if_icmp .ge 21, 3) := by decide +kernel
theorem dX6_heights_29 : decode cX6_heights 29 = .ok (.aload_n 0, 1) := by decide +kernel
theorem dX6_heights_30 : decode cX6_heights 30 = .ok (.iload_n 1, 1) := by decide +kernel
theorem dX6_heights_31 : decode cX6_heights 31 = .ok (.iload_n 2, 1) := by decide +kernel
theorem dX6_heights_32 : decode cX6_heights 32 = .ok (.aload_n 0, 1) := by decide +kernel
theorem dX6_heights_33 : decode cX6_heights 33 = .ok (.getfield 28, 3) := by decide +kernel
theorem dX6_heights_36 : decode cX6_heights 36 = .ok (.iload_n 2, 1) := by decide +kernel
theorem dX6_heights_37 : decode cX6_heights 37 = .ok (.iaload, 1) := by decide +kernel
theorem dX6_heights_38 : decode cX6_heights 38 = .ok (.invokevirtual 107, 3) := by decide +kernel
theorem dX6_heights_41 : decode cX6_heights 41 = .ok (.iinc 2 1, 3) := by decide +kernel
theorem dX6_heights_44 : decode cX6_heights 44 = .ok (.goto (-23), 3) := by decide +kernel
theorem dX6_heights_47 : decode cX6_heights 47 = .ok (.aload_n 0, 1) := by decide +kernel
theorem dX6_heights_48 : decode cX6_heights 48 = .ok (.invokevirtual 236, 3) := by decide +kernel
theorem dX6_heights_51 : decode cX6_heights 51 = .ok (.ireturn, 1) := by decide +kernel
theorem dX6_keep_0 : decode cX6_keep 0 = .ok (.iload_n 1, 1) := by decide +kernel
theorem dX6_keep_1 : decode cX6_keep 1 = .ok (.iconst 0, 1) := by decide +kernel
theorem dX6_keep_2 : decode cX6_keep 2 = .ok (.iconst 2, 1) := by decide +kernel
theorem dX6_keep_3 : decode cX6_keep 3 = .ok (.invokestatic 92, 3) := by decide +kernel
theorem dX6_keep_6 : decode cX6_keep 6 = .ok (.ifCond .ne 5, 3) := by decide +kernel
theorem dX6_keep_9 : decode cX6_keep 9 = .ok (.iconst (-1), 1) := by decide +kernel
theorem dX6_keep_10 : decode cX6_keep 10 = .ok (.ireturn, 1) := by decide +kernel
theorem dX6_keep_11 : decode cX6_keep 11 = .ok (.aload_n 0, 1) := by decide +kernel
theorem dX6_keep_12 : decode cX6_keep 12 = .ok (.getfield 151, 3) := by decide +kernel
theorem dX6_keep_15 : decode cX6_keep 15 = .ok (.ifCond .ne 6, 3) := by decide +kernel
theorem dX6_keep_18 : decode cX6_keep 18 = .ok (.bipush (-4), 2) := by decide +kernel
theorem dX6_keep_20 : decode cX6_keep 20 = .ok (.ireturn, 1) := by decide +kernel
theorem dX6_keep_21 : decode cX6_keep 21 = .ok (.sipush 920, 3) := by decide +kernel
theorem dX6_keep_24 : decode cX6_keep 24 = .ok (.iload_n 1, 1) := by decide +kernel
theorem dX6_keep_25 : decode cX6_keep 25 = .ok (.imul, 1) := by decide +kernel
theorem dX6_keep_26 : decode cX6_keep 26 = .ok (.istore_n 2, 1) := by decide +kernel
theorem dX6_keep_27 : decode cX6_keep 27 = .ok (.aload_n 0, 1) := by decide +kernel
theorem dX6_keep_28 : decode cX6_keep 28 = .ok (.getfield 64, 3) := by decide +kernel
theorem dX6_keep_31 : decode cX6_keep 31 = .ok (.iload_n 2, 1) := by decide +kernel
theorem dX6_keep_32 : decode cX6_keep 32 = .ok (.aload_n 0, 1) := by decide +kernel
theorem dX6_keep_33 : decode cX6_keep 33 = .ok (.getfield 160, 3) := by decide +kernel
theorem dX6_keep_36 : decode cX6_keep 36 = .ok (.iastore, 1) := by decide +kernel
theorem dX6_keep_37 : decode cX6_keep 37 = .ok (.aload_n 0, 1) := by decide +kernel
theorem dX6_keep_38 : decode cX6_keep 38 = .ok (.getfield 64, 3) := by decide +kernel
theorem dX6_keep_41 : decode cX6_keep 41 = .ok (.iload_n 2, 1) := by decide +kernel
theorem dX6_keep_42 : decode cX6_keep 42 = .ok (.iconst 1, 1) := by decide +kernel
theorem dX6_keep_43 : decode cX6_keep 43 = .ok (.iadd, 1) := by decide +kernel
theorem dX6_keep_44 : decode cX6_keep 44 = .ok (.aload_n 0, 1) := by decide +kernel
theorem dX6_keep_45 : decode cX6_keep 45 = .ok (.getfield 157, 3) := by decide +kernel
theorem dX6_keep_48 : decode cX6_keep 48 = .ok (.iastore, 1) := by decide +kernel
theorem dX6_keep_49 : decode cX6_keep 49 = .ok (.iconst 0, 1) := by decide +kernel
theorem dX6_keep_50 : decode cX6_keep 50 = .ok (.istore_n 3, 1) := by decide +kernel
theorem dX6_keep_51 : decode cX6_keep 51 = .ok (.iload_n 3, 1) := by decide +kernel
theorem dX6_keep_52 : decode cX6_keep 52 = .ok (.iconst 3, 1) := by decide +kernel
theorem dX6_keep_53 : decode cX6_keep 53 = .ok (.if_icmp .ge 25, 3) := by decide +kernel
theorem dX6_keep_56 : decode cX6_keep 56 = .ok (.aload_n 0, 1) := by decide +kernel
theorem dX6_keep_57 : decode cX6_keep 57 = .ok (.getfield 64, 3) := by decide +kernel
theorem dX6_keep_60 : decode cX6_keep 60 = .ok (.iload_n 2, 1) := by decide +kernel
theorem dX6_keep_61 : decode cX6_keep 61 = .ok (.iconst 2, 1) := by decide +kernel
theorem dX6_keep_62 : decode cX6_keep 62 = .ok (.iadd, 1) := by decide +kernel
theorem dX6_keep_63 : decode cX6_keep 63 = .ok (.iload_n 3, 1) := by decide +kernel
theorem dX6_keep_64 : decode cX6_keep 64 = .ok (.iadd, 1) := by decide +kernel
theorem dX6_keep_65 : decode cX6_keep 65 = .ok (.aload_n 0, 1) := by decide +kernel
theorem dX6_keep_66 : decode cX6_keep 66 = .ok (.getfield 34, 3) := by decide +kernel
theorem dX6_keep_69 : decode cX6_keep 69 = .ok (.iload_n 3, 1) := by decide +kernel
theorem dX6_keep_70 : decode cX6_keep 70 = .ok (.iaload, 1) := by decide +kernel
theorem dX6_keep_71 : decode cX6_keep 71 = .ok (.iastore, 1) := by decide +kernel
theorem dX6_keep_72 : decode cX6_keep 72 = .ok (.iinc 3 1, 3) := by decide +kernel
