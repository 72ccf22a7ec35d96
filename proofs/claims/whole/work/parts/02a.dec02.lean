theorem dX6_nextChoice_23 : decode cX6_nextChoice 23 = .ok (.if_icmp .ge 7, 3) := by decide +kernel
theorem dX6_nextChoice_26 : decode cX6_nextChoice 26 = .ok (.iconst 1, 1) := by decide +kernel
theorem dX6_nextChoice_27 : decode cX6_nextChoice 27 = .ok (.goto 4, 3) := by decide +kernel
theorem dX6_nextChoice_30 : decode cX6_nextChoice 30 = .ok (.iconst 0, 1) := by decide +kernel
theorem dX6_nextChoice_31 : decode cX6_nextChoice 31 = .ok (.istore_n 2, 1) := by decide +kernel
theorem dX6_nextChoice_32 : decode cX6_nextChoice 32 = .ok (.iload_n 2, 1) := by decide +kernel
theorem dX6_nextChoice_33 : decode cX6_nextChoice 33 = .ok (.ifCond .ne 21, 3) := by decide +kernel
theorem dX6_nextChoice_36 : decode cX6_nextChoice 36 = .ok (.aload_n 0, 1) := by decide +kernel
theorem dX6_nextChoice_37 : decode cX6_nextChoice 37 = .ok (.getfield 9, 3) := by decide +kernel
theorem dX6_nextChoice_40 : decode cX6_nextChoice 40 = .ok (.iload_n 1, 1) := by decide +kernel
theorem dX6_nextChoice_41 : decode cX6_nextChoice 41 = .ok (.iaload, 1) := by decide +kernel
theorem dX6_nextChoice_42 : decode cX6_nextChoice 42 = .ok (.aload_n 0, 1) := by decide +kernel
theorem dX6_nextChoice_43 : decode cX6_nextChoice 43 = .ok (.getfield 31, 3) := by decide +kernel
theorem dX6_nextChoice_46 : decode cX6_nextChoice 46 = .ok (.getfield 57, 3) := by decide +kernel
theorem dX6_nextChoice_49 : decode cX6_nextChoice 49 = .ok (.iload_n 1, 1) := by decide +kernel
theorem dX6_nextChoice_50 : decode cX6_nextChoice 50 = .ok (.iaload, 1) := by decide +kernel
theorem dX6_nextChoice_51 : decode cX6_nextChoice 51 = .ok (.if_icmp .eq 38, 3) := by decide +kernel
theorem dX6_nextChoice_54 : decode cX6_nextChoice 54 = .ok (.aload_n 0, 1) := by decide +kernel
theorem dX6_nextChoice_55 : decode cX6_nextChoice 55 = .ok (.getfield 9, 3) := by decide +kernel
theorem dX6_nextChoice_58 : decode cX6_nextChoice 58 = .ok (.iload_n 1, 1) := by decide +kernel
theorem dX6_nextChoice_59 : decode cX6_nextChoice 59 = .ok (.iload_n 2, 1) := by decide +kernel
theorem dX6_nextChoice_60 : decode cX6_nextChoice 60 = .ok (.ifCond .eq 14, 3) := by decide +kernel
theorem dX6_nextChoice_63 : decode cX6_nextChoice 63 = .ok (.aload_n 0, 1) := by decide +kernel
theorem dX6_nextChoice_64 : decode cX6_nextChoice 64 = .ok (.getfield 9, 3) := by decide +kernel
theorem dX6_nextChoice_67 : decode cX6_nextChoice 67 = .ok (.iload_n 1, 1) := by decide +kernel
theorem dX6_nextChoice_68 : decode cX6_nextChoice 68 = .ok (.iaload, 1) := by decide +kernel
theorem dX6_nextChoice_69 : decode cX6_nextChoice 69 = .ok (.iconst 1, 1) := by decide +kernel
theorem dX6_nextChoice_70 : decode cX6_nextChoice 70 = .ok (.iadd, 1) := by decide +kernel
theorem dX6_nextChoice_71 : decode cX6_nextChoice 71 = .ok (.goto 12, 3) := by decide +kernel
theorem dX6_nextChoice_74 : decode cX6_nextChoice 74 = .ok (.aload_n 0, 1) := by decide +kernel
theorem dX6_nextChoice_75 : decode cX6_nextChoice 75 = .ok (.getfield 31, 3) := by decide +kernel
theorem dX6_nextChoice_78 : decode cX6_nextChoice 78 = .ok (.getfield 57, 3) := by decide +kernel
theorem dX6_nextChoice_81 : decode cX6_nextChoice 81 = .ok (.iload_n 1, 1) := by decide +kernel
theorem dX6_nextChoice_82 : decode cX6_nextChoice 82 = .ok (.iaload, 1) := by decide +kernel
theorem dX6_nextChoice_83 : decode cX6_nextChoice 83 = .ok (.iastore, 1) := by decide +kernel
theorem dX6_nextChoice_84 : decode cX6_nextChoice 84 = .ok (.aload_n 0, 1) := by decide +kernel
theorem dX6_nextChoice_85 : decode cX6_nextChoice 85 = .ok (.iload_n 1, 1) := by decide +kernel
theorem dX6_nextChoice_86 : decode cX6_nextChoice 86 = .ok (.invokevirtual 80, 3) := by decide +kernel
theorem dX6_nextChoice_89 : decode cX6_nextChoice 89 = .ok (.iload_n 2, 1) := by decide +kernel
theorem dX6_nextChoice_90 : decode cX6_nextChoice 90 = .ok (.ifCond .eq 5, 3) := by decide +kernel
theorem dX6_nextChoice_93 : decode cX6_nextChoice 93 = .ok (.iconst 1, 1) := by decide +kernel
theorem dX6_nextChoice_94 : decode cX6_nextChoice 94 = .ok (.ireturn, 1) := by decide +kernel
theorem dX6_nextChoice_95 : decode cX6_nextChoice 95 = .ok (.iinc 1 1, 3) := by decide +kernel
theorem dX6_nextChoice_98 : decode cX6_nextChoice 98 = .ok (.goto (-96), 3) := by decide +kernel
theorem dX6_nextChoice_101 : decode cX6_nextChoice 101 = .ok (.iconst 0, 1) := by decide +kernel
theorem dX6_nextChoice_102 : decode cX6_nextChoice 102 = .ok (.ireturn, 1) := by decide +kernel
theorem dX7_init_0 : decode cX7_init 0 = .ok (.aload_n 0, 1) := by decide +kernel
theorem dX7_init_1 : decode cX7_init 1 = .ok (.invokespecial 3, 3) := by decide +kernel
theorem dX7_init_4 : decode cX7_init 4 = .ok (.aload_n 0, 1) := by decide +kernel
theorem dX7_init_5 : decode cX7_init 5 = .ok (.aload_n 1, 1) := by decide +kernel
theorem dX7_init_6 : decode cX7_init 6 = .ok (.putfield 9, 3) := by decide +kernel
theorem dX7_init_9 : decode cX7_init 9 = .ok (.return_, 1) := by decide +kernel
theorem dX7_open_0 : decode cX7_open 0 = .ok (.aload_n 0, 1) := by decide +kernel
theorem dX7_open_1 : decode cX7_open 1 = .ok (.iload_n 1, 1) := by decide +kernel
theorem dX7_open_2 : decode cX7_open 2 = .ok (.aload_n 0, 1) := by decide +kernel
theorem dX7_open_3 : decode cX7_open 3 = .ok (.getfield 9, 3) := by decide +kernel
theorem dX7_open_6 : decode cX7_open 6 = .ok (.arraylength, 1) := by decide +kernel
theorem dX7_open_7 : decode cX7_open 7 = .ok (.invokestatic 15, 3) := by decide +kernel
theorem dX7_open_10 : decode cX7_open 10 = .ok (.putfield 21, 3) := by decide +kernel
theorem dX7_open_13 : decode cX7_open 13 = .ok (.aload_n 0, 1) := by decide +kernel
theorem dX7_open_14 : decode cX7_open 14 = .ok (.iconst 0, 1) := by decide +kernel
theorem dX7_open_15 : decode cX7_open 15 = .ok (.putfield 25, 3) := by decide +kernel
theorem dX7_open_18 : decode cX7_open 18 = .ok (.aload_n 0, 1) := by decide +kernel
theorem dX7_open_19 : decode cX7_open 19 = .ok (.invokevirtual 28, 3) := by decide +kernel
theorem dX7_open_22 : decode cX7_open 22 = .ok (.return_, 1) := by decide +kernel
theorem dX7_advance_0 : decode cX7_advance 0 = .ok (.aload_n 0, 1) := by decide +kernel
theorem dX7_advance_1 : decode cX7_advance 1 = .ok (.getfield 25, 3) := by decide +kernel
theorem dX7_advance_4 : decode cX7_advance 4 = .ok (.istore_n 1, 1) := by decide +kernel
theorem dX7_advance_5 : decode cX7_advance 5 = .ok (.iload_n 1, 1) := by decide +kernel
theorem dX7_advance_6 : decode cX7_advance 6 = .ok (.aload_n 0, 1) := by decide +kernel
theorem dX7_advance_7 : decode cX7_advance 7 = .ok (.getfield 21, 3) := by decide +kernel
theorem dX7_advance_10 : decode cX7_advance 10 = .ok (.if_icmp .ge 20, 3) := by decide +kernel
theorem dX7_advance_13 : decode cX7_advance 13 = .ok (.aload_n 0, 1) := by decide +kernel
theorem dX7_advance_14 : decode cX7_advance 14 = .ok (.getfield 9, 3) := by decide +kernel
theorem dX7_advance_17 : decode cX7_advance 17 = .ok (.iload_n 1, 1) := by decide +kernel
theorem dX7_advance_18 : decode cX7_advance 18 = .ok (.baload, 1) := by decide +kernel
theorem dX7_advance_19 : decode cX7_advance 19 = .ok (.bipush 32, 2) := by decide +kernel
theorem dX7_advance_21 : decode cX7_advance 21 = .ok (.if_icmp .ne 9, 3) := by decide +kernel
theorem dX7_advance_24 : decode cX7_advance 24 = .ok (.iinc 1 1, 3) := by decide +kernel
theorem dX7_advance_27 : decode cX7_advance 27 = .ok (.goto (-22), 3) := by decide +kernel
theorem dX7_advance_30 : decode cX7_advance 30 = .ok (.aload_n 0, 1) := by decide +kernel
theorem dX7_advance_31 : decode cX7_advance 31 = .ok (.iload_n 1, 1) := by decide +kernel
theorem dX7_advance_32 : decode cX7_advance 32 = .ok (.putfield 31, 3) := by decide +kernel
theorem dX7_advance_35 : decode cX7_advance 35 = .ok (.aload_n 0, 1) := by decide +kernel
theorem dX7_advance_36 : decode cX7_advance 36 = .ok (.lconst 0, 1) := by decide +kernel
theorem dX7_advance_37 : decode cX7_advance 37 = .ok (.putfield 34, 3) := by decide +kernel
theorem dX7_advance_40 : decode cX7_advance 40 = .ok (.iload_n 1, 1) := by decide +kernel
theorem dX7_advance_41 : decode cX7_advance 41 = .ok (.aload_n 0, 1) := by decide +kernel
theorem dX7_advance_42 : decode cX7_advance 42 = .ok (.getfield 21, 3) := by decide +kernel
theorem dX7_advance_45 : decode cX7_advance 45 = .ok (.if_icmp .ge 12, 3) := by decide +kernel
theorem dX7_advance_48 : decode cX7_advance 48 = .ok (.aload_n 0, 1) := by decide +kernel
theorem dX7_advance_49 : decode cX7_advance 49 = .ok (.getfield 9, 3) := by decide +kernel
theorem dX7_advance_52 : decode cX7_advance 52 = .ok (.iload_n 1, 1) := by decide +kernel
theorem dX7_advance_53 : decode cX7_advance 53 = .ok (.baload, 1) := by decide +kernel
theorem dX7_advance_54 : decode cX7_advance 54 = .ok (.goto 4, 3) := by decide +kernel
theorem dX7_advance_57 : decode cX7_advance 57 = .ok (.iconst 0, 1) := by decide +kernel
theorem dX7_advance_58 : decode cX7_advance 58 = .ok (.istore_n 2, 1) := by decide +kernel
theorem dX7_advance_59 : decode cX7_advance 59 = .ok (.iload_n 2, 1) := by decide +kernel
theorem dX7_advance_60 : decode cX7_advance 60 = .ok (.bipush 97, 2) := by decide +kernel
theorem dX7_advance_62 : decode cX7_advance 62 = .ok (.if_icmp .lt 13, 3) := by decide +kernel
theorem dX7_advance_65 : decode cX7_advance 65 = .ok (.iload_n 2, 1) := by decide +kernel
theorem dX7_advance_66 : decode cX7_advance 66 = .ok (.bipush 122, 2) := by decide +kernel
theorem dX7_advance_68 : decode cX7_advance 68 = .ok (.if_icmp .gt 7, 3) := by decide +kernel
theorem dX7_advance_71 : decode cX7_advance 71 = .ok (.iconst 1, 1) := by decide +kernel
theorem dX7_advance_72 : decode cX7_advance 72 = .ok (.goto 4, 3) := by decide +kernel
theorem dX7_advance_75 : decode cX7_advance 75 = .ok (.iconst 0, 1) := by decide +kernel
theorem dX7_advance_76 : decode cX7_advance 76 = .ok (.istore_n 3, 1) := by decide +kernel
theorem dX7_advance_77 : decode cX7_advance 77 = .ok (.iload_n 2, 1) := by decide +kernel
theorem dX7_advance_78 : decode cX7_advance 78 = .ok (.bipush 48, 2) := by decide +kernel
theorem dX7_advance_80 : decode cX7_advance 80 = .ok (.if_icmp .lt 13, 3) := by decide +kernel
theorem dX7_advance_83 : decode cX7_advance 83 = .ok (.iload_n 2, 1) := by decide +kernel
theorem dX7_advance_84 : decode cX7_advance 84 = .ok (.bipush 57, 2) := by decide +kernel
theorem dX7_advance_86 : decode cX7_advance 86 = .ok (.if_icmp .gt 7, 3) := by decide +kernel
theorem dX7_advance_89 : decode cX7_advance 89 = .ok (.iconst 1, 1) := by decide +kernel
theorem dX7_advance_90 : decode cX7_advance 90 = .ok (.goto 4, 3) := by decide +kernel
theorem dX7_advance_93 : decode cX7_advance 93 = .ok (.iconst 0, 1) := by decide +kernel
theorem dX7_advance_94 : decode cX7_advance 94 = .ok (.istore 4, 2) := by decide +kernel
theorem dX7_advance_96 : decode cX7_advance 96 = .ok (.iload_n 3, 1) := by decide +kernel
theorem dX7_advance_97 : decode cX7_advance 97 = .ok (.ifCond .ne 8, 3) := by decide +kernel
theorem dX7_advance_100 : decode cX7_advance 100 = .ok (.iload 4, 2) := by decide +kernel
theorem dX7_advance_102 : decode cX7_advance 102 = .ok (.ifCond .eq 167, 3) := by decide +kernel
theorem dX7_advance_105 : decode cX7_advance 105 = .ok (.iload_n 3, 1) := by decide +kernel
theorem dX7_advance_106 : decode cX7_advance 106 = .ok (.ifCond .eq 8, 3) := by decide +kernel
theorem dX7_advance_109 : decode cX7_advance 109 = .ok (.bipush 97, 2) := by decide +kernel
theorem dX7_advance_111 : decode cX7_advance 111 = .ok (.goto 5, 3) := by decide +kernel
theorem dX7_advance_114 : decode cX7_advance 114 = .ok (.bipush 48, 2) := by decide +kernel
theorem dX7_advance_116 : decode cX7_advance 116 = .ok (.istore 5, 2) := by decide +kernel
theorem dX7_advance_118 : decode cX7_advance 118 = .ok (.iload_n 3, 1) := by decide +kernel
theorem dX7_advance_119 : decode cX7_advance 119 = .ok (.ifCond .eq 8, 3) := by decide +kernel
theorem dX7_advance_122 : decode cX7_advance 122 = .ok (.bipush 122, 2) := by decide +kernel
theorem dX7_advance_124 : decode cX7_advance 124 = .ok (.goto 5, 3) := by decide +kernel
theorem dX7_advance_127 : decode cX7_advance 127 = .ok (.bipush 57, 2) := by decide +kernel
theorem dX7_advance_129 : decode cX7_advance 129 = .ok (.istore 6, 2) := by decide +kernel
theorem dX7_advance_131 : decode cX7_advance 131 = .ok (.iload_n 1, 1) := by decide +kernel
theorem dX7_advance_132 : decode cX7_advance 132 = .ok (.aload_n 0, 1) := by decide +kernel
theorem dX7_advance_133 : decode cX7_advance 133 = .ok (.getfield 21, 3) := by decide +kernel
theorem dX7_advance_136 : decode cX7_advance 136 = .ok (.if_icmp .ge 82, 3) := by decide +kernel
theorem dX7_advance_139 : decode cX7_advance 139 = .ok (.aload_n 0, 1) := by decide +kernel
theorem dX7_advance_140 : decode cX7_advance 140 = .ok (.getfield 9, 3) := by decide +kernel
theorem dX7_advance_143 : decode cX7_advance 143 = .ok (.iload_n 1, 1) := by decide +kernel
theorem dX7_advance_144 : decode cX7_advance 144 = .ok (.baload, 1) := by decide +kernel
theorem dX7_advance_145 : decode cX7_advance 145 = .ok (.iload 5, 2) := by decide +kernel
theorem dX7_advance_147 : decode cX7_advance 147 = .ok (.if_icmp .lt 71, 3) := by decide +kernel
theorem dX7_advance_150 : decode cX7_advance 150 = .ok (.aload_n 0, 1) := by decide +kernel
theorem dX7_advance_151 : decode cX7_advance 151 = .ok (.getfield 9, 3) := by decide +kernel
theorem dX7_advance_154 : decode cX7_advance 154 = .ok (.iload_n 1, 1) := by decide +kernel
theorem dX7_advance_155 : decode cX7_advance 155 = .ok (.baload, 1) := by decide +kernel
theorem dX7_advance_156 : decode cX7_advance 156 = .ok (.iload 6, 2) := by decide +kernel
theorem dX7_advance_158 : decode cX7_advance 158 = .ok (.if_icmp .gt 60, 3) := by decide +kernel
theorem dX7_advance_161 : decode cX7_advance 161 = .ok (.aload_n 0, 1) := by decide +kernel
theorem dX7_advance_162 : decode cX7_advance 162 = .ok (.iload_n 3, 1) := by decide +kernel
theorem dX7_advance_163 : decode cX7_advance 163 = .ok (.ifCond .eq 27, 3) := by decide +kernel
theorem dX7_advance_166 : decode cX7_advance 166 = .ok (.aload_n 0, 1) := by decide +kernel
theorem dX7_advance_167 : decode cX7_advance 167 = .ok (.getfield 34, 3) := by decide +kernel
theorem dX7_advance_170 : decode cX7_advance 170 = .ok (.ldc2_w 38, 3) := by decide +kernel
theorem dX7_advance_173 : decode cX7_advance 173 = .ok (.lmul, 1) := by decide +kernel
theorem dX7_advance_174 : decode cX7_advance 174 = .ok (.aload_n 0, 1) := by decide +kernel
theorem dX7_advance_175 : decode cX7_advance 175 = .ok (.getfield 9, 3) := by decide +kernel
theorem dX7_advance_178 : decode cX7_advance 178 = .ok (.iload_n 1, 1) := by decide +kernel
theorem dX7_advance_179 : decode cX7_advance 179 = .ok (.baload, 1) := by decide +kernel
theorem dX7_advance_180 : decode cX7_advance 180 = .ok (.bipush 97, 2) := by decide +kernel
theorem dX7_advance_182 : decode cX7_advance 182 = .ok (.isub, 1) := by decide +kernel
theorem dX7_advance_183 : decode cX7_advance 183 = .ok (.iconst 1, 1) := by decide +kernel
theorem dX7_advance_184 : decode cX7_advance 184 = .ok (.iadd, 1) := by decide +kernel
theorem dX7_advance_185 : decode cX7_advance 185 = .ok (.i2l, 1) := by decide +kernel
theorem dX7_advance_186 : decode cX7_advance 186 = .ok (.ladd, 1) := by decide +kernel
theorem dX7_advance_187 : decode cX7_advance 187 = .ok (.goto 22, 3) := by decide +kernel
theorem dX7_advance_190 : decode cX7_advance 190 = .ok (.aload_n 0, 1) := by decide +kernel
theorem dX7_advance_191 : decode cX7_advance 191 = .ok (.getfield 34, 3) := by decide +kernel
theorem dX7_advance_194 : decode cX7_advance 194 = .ok (.ldc2_w 40, 3) := by decide +kernel
theorem dX7_advance_197 : decode cX7_advance 197 = .ok (.lmul, 1) := by decide +kernel
theorem dX7_advance_198 : decode cX7_advance 198 = .ok (.aload_n 0, 1) := by decide +kernel
theorem dX7_advance_199 : decode cX7_advance 199 = .ok (.getfield 9, 3) := by decide +kernel
theorem dX7_advance_202 : decode cX7_advance 202 = .ok (.iload_n 1, 1) := by decide +kernel
theorem dX7_advance_203 : decode cX7_advance 203 = .ok (.baload, 1) := by decide +kernel
theorem dX7_advance_204 : decode cX7_advance 204 = .ok (.bipush 48, 2) := by decide +kernel
theorem dX7_advance_206 : decode cX7_advance 206 = .ok (.isub, 1) := by decide +kernel
theorem dX7_advance_207 : decode cX7_advance 207 = .ok (.i2l, 1) := by decide +kernel
theorem dX7_advance_208 : decode cX7_advance 208 = .ok (.ladd, 1) := by decide +kernel
theorem dX7_advance_209 : decode cX7_advance 209 = .ok (.putfield 34, 3) := by decide +kernel
theorem dX7_advance_212 : decode cX7_advance 212 = .ok (.iinc 1 1, 3) := by decide +kernel
theorem dX7_advance_215 : decode cX7_advance 215 = .ok (.goto (-84), 3) := by decide +kernel
theorem dX7_advance_218 : decode cX7_advance 218 = .ok (.iload_n 1, 1) := by decide +kernel
theorem dX7_advance_219 : decode cX7_advance 219 = .ok (.aload_n 0, 1) := by decide +kernel
theorem dX7_advance_220 : decode cX7_advance 220 = .ok (.getfield 31, 3) := by decide +kernel
theorem dX7_advance_223 : decode cX7_advance 223 = .ok (.isub, 1) := by decide +kernel
theorem dX7_advance_224 : decode cX7_advance 224 = .ok (.iload_n 3, 1) := by decide +kernel
theorem dX7_advance_225 : decode cX7_advance 225 = .ok (.ifCond .eq 8, 3) := by decide +kernel
theorem dX7_advance_228 : decode cX7_advance 228 = .ok (.bipush 8, 2) := by decide +kernel
theorem dX7_advance_230 : decode cX7_advance 230 = .ok (.goto 4, 3) := by decide +kernel
theorem dX7_advance_233 : decode cX7_advance 233 = .ok (.iconst 3, 1) := by decide +kernel
theorem dX7_advance_234 : decode cX7_advance 234 = .ok (.if_icmp .le 7, 3) := by decide +kernel
theorem dX7_advance_237 : decode cX7_advance 237 = .ok (.iconst 1, 1) := by decide +kernel
theorem dX7_advance_238 : decode cX7_advance 238 = .ok (.goto 4, 3) := by decide +kernel
theorem dX7_advance_241 : decode cX7_advance 241 = .ok (.iconst 0, 1) := by decide +kernel
theorem dX7_advance_242 : decode cX7_advance 242 = .ok (.istore 7, 2) := by decide +kernel
theorem dX7_advance_244 : decode cX7_advance 244 = .ok (.aload_n 0, 1) := by decide +kernel
theorem dX7_advance_245 : decode cX7_advance 245 = .ok (.iload 7, 2) := by decide +kernel
theorem dX7_advance_247 : decode cX7_advance 247 = .ok (.ifCond .eq 7, 3) := by decide +kernel
theorem dX7_advance_250 : decode cX7_advance 250 = .ok (.iconst 4, 1) := by decide +kernel
theorem dX7_advance_251 : decode cX7_advance 251 = .ok (.goto 12, 3) := by decide +kernel
theorem dX7_advance_254 : decode cX7_advance 254 = .ok (.iload_n 3, 1) := by decide +kernel
theorem dX7_advance_255 : decode cX7_advance 255 = .ok (.ifCond .eq 7, 3) := by decide +kernel
theorem dX7_advance_258 : decode cX7_advance 258 = .ok (.iconst 1, 1) := by decide +kernel
theorem dX7_advance_259 : decode cX7_advance 259 = .ok (.goto 4, 3) := by decide +kernel
theorem dX7_advance_262 : decode cX7_advance 262 = .ok (.iconst 2, 1) := by decide +kernel
theorem dX7_advance_263 : decode cX7_advance 263 = .ok (.putfield 42, 3) := by decide +kernel
theorem dX7_advance_266 : decode cX7_advance 266 = .ok (.goto 37, 3) := by decide +kernel
theorem dX7_advance_269 : decode cX7_advance 269 = .ok (.iload_n 1, 1) := by decide +kernel
theorem dX7_advance_270 : decode cX7_advance 270 = .ok (.aload_n 0, 1) := by decide +kernel
theorem dX7_advance_271 : decode cX7_advance 271 = .ok (.getfield 21, 3) := by decide +kernel
theorem dX7_advance_274 : decode cX7_advance 274 = .ok (.if_icmp .ge 24, 3) := by decide +kernel
theorem dX7_advance_277 : decode cX7_advance 277 = .ok (.iinc 1 1, 3) := by decide +kernel
theorem dX7_advance_280 : decode cX7_advance 280 = .ok (.aload_n 0, 1) := by decide +kernel
theorem dX7_advance_281 : decode cX7_advance 281 = .ok (.iload_n 2, 1) := by decide +kernel
theorem dX7_advance_282 : decode cX7_advance 282 = .ok (.bipush 59, 2) := by decide +kernel
theorem dX7_advance_284 : decode cX7_advance 284 = .ok (.if_icmp .ne 7, 3) := by decide +kernel
theorem dX7_advance_287 : decode cX7_advance 287 = .ok (.iconst 3, 1) := by decide +kernel
theorem dX7_advance_288 : decode cX7_advance 288 = .ok (.goto 4, 3) := by decide +kernel
theorem dX7_advance_291 : decode cX7_advance 291 = .ok (.iconst 4, 1) := by decide +kernel
theorem dX7_advance_292 : decode cX7_advance 292 = .ok (.putfield 42, 3) := by decide +kernel
theorem dX7_advance_295 : decode cX7_advance 295 = .ok (.goto 8, 3) := by decide +kernel
theorem dX7_advance_298 : decode cX7_advance 298 = .ok (.aload_n 0, 1) := by decide +kernel
theorem dX7_advance_299 : decode cX7_advance 299 = .ok (.iconst 0, 1) := by decide +kernel
theorem dX7_advance_300 : decode cX7_advance 300 = .ok (.putfield 42, 3) := by decide +kernel
theorem dX7_advance_303 : decode cX7_advance 303 = .ok (.aload_n 0, 1) := by decide +kernel
theorem dX7_advance_304 : decode cX7_advance 304 = .ok (.iload_n 1, 1) := by decide +kernel
theorem dX7_advance_305 : decode cX7_advance 305 = .ok (.putfield 25, 3) := by decide +kernel
theorem dX7_advance_308 : decode cX7_advance 308 = .ok (.return_, 1) := by decide +kernel
theorem dX7_among_0 : decode cX7_among 0 = .ok (.aload_n 0, 1) := by decide +kernel
theorem dX7_among_1 : decode cX7_among 1 = .ok (.getfield 42, 3) := by decide +kernel
theorem dX7_among_4 : decode cX7_among 4 = .ok (.iconst 1, 1) := by decide +kernel
theorem dX7_among_5 : decode cX7_among 5 = .ok (.if_icmp .eq 5, 3) := by decide +kernel
theorem dX7_among_8 : decode cX7_among 8 = .ok (.iconst (-1), 1) := by decide +kernel
theorem dX7_among_9 : decode cX7_among 9 = .ok (.ireturn, 1) := by decide +kernel
theorem dX7_among_10 : decode cX7_among 10 = .ok (.iconst 0, 1) := by decide +kernel
theorem dX7_among_11 : decode cX7_among 11 = .ok (.istore_n 2, 1) := by decide +kernel
theorem dX7_among_12 : decode cX7_among 12 = .ok (.lconst 0, 1) := by decide +kernel
theorem dX7_among_13 : decode cX7_among 13 = .ok (.lstore_n 3, 1) := by decide +kernel
theorem dX7_among_14 : decode cX7_among 14 = .ok (.iconst 0, 1) := by decide +kernel
theorem dX7_among_15 : decode cX7_among 15 = .ok (.istore 5, 2) := by decide +kernel
theorem dX7_among_17 : decode cX7_among 17 = .ok (.iload 5, 2) := by decide +kernel
theorem dX7_among_19 : decode cX7_among 19 = .ok (.aload_n 1, 1) := by decide +kernel
theorem dX7_among_20 : decode cX7_among 20 = .ok (.invokevirtual 45, 3) := by decide +kernel
theorem dX7_among_23 : decode cX7_among 23 = .ok (.if_icmp .ge 58, 3) := by decide +kernel
theorem dX7_among_26 : decode cX7_among 26 = .ok (.aload_n 1, 1) := by decide +kernel
theorem dX7_among_27 : decode cX7_among 27 = .ok (.iload 5, 2) := by decide +kernel
theorem dX7_among_29 : decode cX7_among 29 = .ok (.invokevirtual 51, 3) := by decide +kernel
theorem dX7_among_32 : decode cX7_among 32 = .ok (.istore 6, 2) := by decide +kernel
theorem dX7_among_34 : decode cX7_among 34 = .ok (.iload 6, 2) := by decide +kernel
theorem dX7_among_36 : decode cX7_among 36 = .ok (.bipush 32, 2) := by decide +kernel
theorem dX7_among_38 : decode cX7_among 38 = .ok (.if_icmp .eq 21, 3) := by decide +kernel
theorem dX7_among_41 : decode cX7_among 41 = .ok (.lload_n 3, 1) := by decide +kernel
theorem dX7_among_42 : decode cX7_among 42 = .ok (.ldc2_w 38, 3) := by decide +kernel
theorem dX7_among_45 : decode cX7_among 45 = .ok (.lmul, 1) := by decide +kernel
theorem dX7_among_46 : decode cX7_among 46 = .ok (.iload 6, 2) := by decide +kernel
theorem dX7_among_48 : decode cX7_among 48 = .ok (.bipush 97, 2) := by decide +kernel
theorem dX7_among_50 : decode cX7_among 50 = .ok (.isub, 1) := by decide +kernel
theorem dX7_among_51 : decode cX7_among 51 = .ok (.iconst 1, 1) := by decide +kernel
theorem dX7_among_52 : decode cX7_among 52 = .ok (.iadd, 1) := by decide +kernel
theorem dX7_among_53 : decode cX7_among 53 = .ok (.i2l, 1) := by decide +kernel
theorem dX7_among_54 : decode cX7_among 54 = .ok (.ladd, 1) := by decide +kernel
theorem dX7_among_55 : decode cX7_among 55 = .ok (.lstore_n 3, 1) := by decide +kernel
theorem dX7_among_56 : decode cX7_among 56 = .ok (.goto 19, 3) := by decide +kernel
theorem dX7_among_59 : decode cX7_among 59 = .ok (.lload_n 3, 1) := by decide +kernel
theorem dX7_among_60 : decode cX7_among 60 = .ok (.aload_n 0, 1) := by decide +kernel
theorem dX7_among_61 : decode cX7_among 61 = .ok (.getfield 34, 3) := by decide +kernel
theorem dX7_among_64 : decode cX7_among 64 = .ok (.lcmp, 1) := by decide +kernel
theorem dX7_among_65 : decode cX7_among 65 = .ok (.ifCond .ne 5, 3) := by decide +kernel
theorem dX7_among_68 : decode cX7_among 68 = .ok (.iload_n 2, 1) := by decide +kernel
theorem dX7_among_69 : decode cX7_among 69 = .ok (.ireturn, 1) := by decide +kernel
theorem dX7_among_70 : decode cX7_among 70 = .ok (.iinc 2 1, 3) := by decide +kernel
theorem dX7_among_73 : decode cX7_among 73 = .ok (.lconst 0, 1) := by decide +kernel
theorem dX7_among_74 : decode cX7_among 74 = .ok (.lstore_n 3, 1) := by decide +kernel
theorem dX7_among_75 : decode cX7_among 75 = .ok (.iinc 5 1, 3) := by decide +kernel
theorem dX7_among_78 : decode cX7_among 78 = .ok (.goto (-61), 3) := by decide +kernel
theorem dX7_among_81 : decode cX7_among 81 = .ok (.lload_n 3, 1) := by decide +kernel
theorem dX7_among_82 : decode cX7_among 82 = .ok (.aload_n 0, 1) := by decide +kernel
theorem dX7_among_83 : decode cX7_among 83 = .ok (.getfield 34, 3) := by decide +kernel
theorem dX7_among_86 : decode cX7_among 86 = .ok (.lcmp, 1) := by decide +kernel
theorem dX7_among_87 : decode cX7_among 87 = .ok (.ifCond .ne 7, 3) := by decide +kernel
theorem dX7_among_90 : decode cX7_among 90 = .ok (.iload_n 2, 1) := by decide +kernel
theorem dX7_among_91 : decode cX7_among 91 = .ok (.goto 4, 3) := by decide +kernel
theorem dX7_among_94 : decode cX7_among 94 = .ok (.iconst (-1), 1) := by decide +kernel
theorem dX7_among_95 : decode cX7_among 95 = .ok (.ireturn, 1) := by decide +kernel
theorem dX8_init_0 : decode cX8_init 0 = .ok (.aload_n 0, 1) := by decide +kernel
theorem dX8_init_1 : decode cX8_init 1 = .ok (.invokespecial 3, 3) := by decide +kernel
theorem dX8_init_4 : decode cX8_init 4 = .ok (.aload_n 0, 1) := by decide +kernel
theorem dX8_init_5 : decode cX8_init 5 = .ok (.bipush 20, 2) := by decide +kernel
theorem dX8_init_7 : decode cX8_init 7 = .ok (.newarray .int, 2) := by decide +kernel
theorem dX8_init_9 : decode cX8_init 9 = .ok (.putfield 9, 3) := by decide +kernel
theorem dX8_init_12 : decode cX8_init 12 = .ok (.aload_n 0, 1) := by decide +kernel
theorem dX8_init_13 : decode cX8_init 13 = .ok (.bipush 8, 2) := by decide +kernel
theorem dX8_init_15 : decode cX8_init 15 = .ok (.newarray .int, 2) := by decide +kernel
theorem dX8_init_17 : decode cX8_init 17 = .ok (.putfield 15, 3) := by decide +kernel
theorem dX8_init_20 : decode cX8_init 20 = .ok (.return_, 1) := by decide +kernel
theorem dX8_measure_0 : decode cX8_measure 0 = .ok (.aload_n 1, 1) := by decide +kernel
theorem dX8_measure_1 : decode cX8_measure 1 = .ok (.invokevirtual 18, 3) := by decide +kernel
theorem dX8_measure_4 : decode cX8_measure 4 = .ok (.istore 4, 2) := by decide +kernel
theorem dX8_measure_6 : decode cX8_measure 6 = .ok (.iconst 0, 1) := by decide +kernel
theorem dX8_measure_7 : decode cX8_measure 7 = .ok (.istore 5, 2) := by decide +kernel
theorem dX8_measure_9 : decode cX8_measure 9 = .ok (.iload 5, 2) := by decide +kernel
theorem dX8_measure_11 : decode cX8_measure 11 = .ok (.iload 4, 2) := by decide +kernel
theorem dX8_measure_13 : decode cX8_measure 13 = .ok (.if_icmp .ge 56, 3) := by decide +kernel
theorem dX8_measure_16 : decode cX8_measure 16 = .ok (.aload_n 1, 1) := by decide +kernel
theorem dX8_measure_17 : decode cX8_measure 17 = .ok (.getfield 24, 3) := by decide +kernel
theorem dX8_measure_20 : decode cX8_measure 20 = .ok (.iload 5, 2) := by decide +kernel
theorem dX8_measure_22 : decode cX8_measure 22 = .ok (.iaload, 1) := by decide +kernel
theorem dX8_measure_23 : decode cX8_measure 23 = .ok (.istore 6, 2) := by decide +kernel
theorem dX8_measure_25 : decode cX8_measure 25 = .ok (.iload 6, 2) := by decide +kernel
theorem dX8_measure_27 : decode cX8_measure 27 = .ok (.ifCond .ge 7, 3) := by decide +kernel
theorem dX8_measure_30 : decode cX8_measure 30 = .ok (.iconst 0, 1) := by decide +kernel
theorem dX8_measure_31 : decode cX8_measure 31 = .ok (.goto 9, 3) := by decide +kernel
theorem dX8_measure_34 : decode cX8_measure 34 = .ok (.aload_n 2, 1) := by decide +kernel
theorem dX8_measure_35 : decode cX8_measure 35 = .ok (.iload 6, 2) := by decide +kernel
theorem dX8_measure_37 : decode cX8_measure 37 = .ok (.invokevirtual 27, 3) := by decide +kernel
theorem dX8_measure_40 : decode cX8_measure 40 = .ok (.istore 7, 2) := by decide +kernel
theorem dX8_measure_42 : decode cX8_measure 42 = .ok (.aload_n 0, 1) := by decide +kernel
theorem dX8_measure_43 : decode cX8_measure 43 = .ok (.getfield 9, 3) := by decide +kernel
theorem dX8_measure_46 : decode cX8_measure 46 = .ok (.iload 5, 2) := by decide +kernel
theorem dX8_measure_48 : decode cX8_measure 48 = .ok (.iload 7, 2) := by decide +kernel
theorem dX8_measure_50 : decode cX8_measure 50 = .ok (.sipush 1000, 3) := by decide +kernel
theorem dX8_measure_53 : decode cX8_measure 53 = .ok (.imul, 1) := by decide +kernel
theorem dX8_measure_54 : decode cX8_measure 54 = .ok (.aload_n 1, 1) := by decide +kernel
theorem dX8_measure_55 : decode cX8_measure 55 = .ok (.getfield 33, 3) := by decide +kernel
theorem dX8_measure_58 : decode cX8_measure 58 = .ok (.iload 5, 2) := by decide +kernel
theorem dX8_measure_60 : decode cX8_measure 60 = .ok (.iaload, 1) := by decide +kernel
theorem dX8_measure_61 : decode cX8_measure 61 = .ok (.iadd, 1) := by decide +kernel
theorem dX8_measure_62 : decode cX8_measure 62 = .ok (.iastore, 1) := by decide +kernel
theorem dX8_measure_63 : decode cX8_measure 63 = .ok (.iinc 5 1, 3) := by decide +kernel
theorem dX8_measure_66 : decode cX8_measure 66 = .ok (.goto (-57), 3) := by decide +kernel
theorem dX8_measure_69 : decode cX8_measure 69 = .ok (.aload_n 0, 1) := by decide +kernel
theorem dX8_measure_70 : decode cX8_measure 70 = .ok (.getfield 15, 3) := by decide +kernel
theorem dX8_measure_73 : decode cX8_measure 73 = .ok (.ldc 36, 2) := by decide +kernel
theorem dX8_measure_75 : decode cX8_measure 75 = .ok (.invokestatic 37, 3) := by decide +kernel
theorem dX8_measure_78 : decode cX8_measure 78 = .ok (.aload_n 0, 1) := by decide +kernel
theorem dX8_measure_79 : decode cX8_measure 79 = .ok (.getfield 15, 3) := by decide +kernel
theorem dX8_measure_82 : decode cX8_measure 82 = .ok (.iload_n 3, 1) := by decide +kernel
theorem dX8_measure_83 : decode cX8_measure 83 = .ok (.iconst 0, 1) := by decide +kernel
theorem dX8_measure_84 : decode cX8_measure 84 = .ok (.iastore, 1) := by decide +kernel
theorem dX8_measure_85 : decode cX8_measure 85 = .ok (.iconst 1, 1) := by decide +kernel
theorem dX8_measure_86 : decode cX8_measure 86 = .ok (.istore 5, 2) := by decide +kernel
theorem dX8_measure_88 : decode cX8_measure 88 = .ok (.iconst 0, 1) := by decide +kernel
theorem dX8_measure_89 : decode cX8_measure 89 = .ok (.istore 6, 2) := by decide +kernel
theorem dX8_measure_91 : decode cX8_measure 91 = .ok (.iload 6, 2) := by decide +kernel
theorem dX8_measure_93 : decode cX8_measure 93 = .ok (.bipush 8, 2) := by decide +kernel
theorem dX8_measure_95 : decode cX8_measure 95 = .ok (.if_icmp .ge 154, 3) := by decide +kernel
theorem dX8_measure_98 : decode cX8_measure 98 = .ok (.iload 5, 2) := by decide +kernel
theorem dX8_measure_100 : decode cX8_measure 100 = .ok (.ifCond .eq 149, 3) := by decide +kernel
theorem dX8_measure_103 : decode cX8_measure 103 = .ok (.iconst 0, 1) := by decide +kernel
theorem dX8_measure_104 : decode cX8_measure 104 = .ok (.istore 5, 2) := by decide +kernel
theorem dX8_measure_106 : decode cX8_measure 106 = .ok (.iconst 0, 1) := by decide +kernel
theorem dX8_measure_107 : decode cX8_measure 107 = .ok (.istore 7, 2) := by decide +kernel
theorem dX8_measure_109 : decode cX8_measure 109 = .ok (.iload 7, 2) := by decide +kernel
theorem dX8_measure_111 : decode cX8_measure 111 = .ok (.iload 4, 2) := by decide +kernel
theorem dX8_measure_113 : decode cX8_measure 113 = .ok (.if_icmp .ge 130, 3) := by decide +kernel
theorem dX8_measure_116 : decode cX8_measure 116 = .ok (.aload_n 1, 1) := by decide +kernel
theorem dX8_measure_117 : decode cX8_measure 117 = .ok (.getfield 43, 3) := by decide +kernel
theorem dX8_measure_120 : decode cX8_measure 120 = .ok (.iload 7, 2) := by decide +kernel
theorem dX8_measure_122 : decode cX8_measure 122 = .ok (.iaload, 1) := by decide +kernel
theorem dX8_measure_123 : decode cX8_measure 123 = .ok (.istore 8, 2) := by decide +kernel
theorem dX8_measure_125 : decode cX8_measure 125 = .ok (.aload_n 1, 1) := by decide +kernel
theorem dX8_measure_126 : decode cX8_measure 126 = .ok (.getfield 46, 3) := by decide +kernel
theorem dX8_measure_129 : decode cX8_measure 129 = .ok (.iload 7, 2) := by decide +kernel
theorem dX8_measure_131 : decode cX8_measure 131 = .ok (.iaload, 1) := by decide +kernel
theorem dX8_measure_132 : decode cX8_measure 132 = .ok (.istore 9, 2) := by decide +kernel
theorem dX8_measure_134 : decode cX8_measure 134 = .ok (.aload_n 0, 1) := by decide +kernel
theorem dX8_measure_135 : decode cX8_measure 135 = .ok (.getfield 15, 3) := by decide +kernel
theorem dX8_measure_138 : decode cX8_measure 138 = .ok (.iload 9, 2) := by decide +kernel
theorem dX8_measure_140 : decode cX8_measure 140 = .ok (.iaload, 1) := by decide +kernel
theorem dX8_measure_141 : decode cX8_measure 141 = .ok (.aload_n 0, 1) := by decide +kernel
theorem dX8_measure_142 : decode cX8_measure 142 = .ok (.getfield 9, 3) := by decide +kernel
theorem dX8_measure_145 : decode cX8_measure 145 = .ok (.iload 7, 2) := by decide +kernel
theorem dX8_measure_147 : decode cX8_measure 147 = .ok (.iaload, 1) := by decide +kernel
theorem dX8_measure_148 : decode cX8_measure 148 = .ok (.iadd, 1) := by decide +kernel
theorem dX8_measure_149 : decode cX8_measure 149 = .ok (.aload_n 0, 1) := by decide +kernel
theorem dX8_measure_150 : decode cX8_measure 150 = .ok (.getfield 15, 3) := by decide +kernel
theorem dX8_measure_153 : decode cX8_measure 153 = .ok (.iload 8, 2) := by decide +kernel
theorem dX8_measure_155 : decode cX8_measure 155 = .ok (.iaload, 1) := by decide +kernel
theorem dX8_measure_156 : decode cX8_measure 156 = .ok (.if_icmp .ge 31, 3) := by decide +kernel
theorem dX8_measure_159 : decode cX8_measure 159 = .ok (.aload_n 0, 1) := by decide +kernel
theorem dX8_measure_160 : decode cX8_measure 160 = .ok (.getfield 15, 3) := by decide +kernel
theorem dX8_measure_163 : decode cX8_measure 163 = .ok (.iload 8, 2) := by decide +kernel
theorem dX8_measure_165 : decode cX8_measure 165 = .ok (.aload_n 0, 1) := by decide +kernel
theorem dX8_measure_166 : decode cX8_measure 166 = .ok (.getfield 15, 3) := by decide +kernel
theorem dX8_measure_169 : decode cX8_measure 169 = .ok (.iload 9, 2) := by decide +kernel
theorem dX8_measure_171 : decode cX8_measure 171 = .ok (.iaload, 1) := by decide +kernel
theorem dX8_measure_172 : decode cX8_measure 172 = .ok (.aload_n 0, 1) := by decide +kernel
theorem dX8_measure_173 : decode cX8_measure 173 = .ok (.getfield 9, 3) := by decide +kernel
theorem dX8_measure_176 : decode cX8_measure 176 = .ok (.iload 7, 2) := by decide +kernel
theorem dX8_measure_178 : decode cX8_measure 178 = .ok (.iaload, 1) := by decide +kernel
theorem dX8_measure_179 : decode cX8_measure 179 = .ok (.iadd, 1) := by decide +kernel
theorem dX8_measure_180 : decode cX8_measure 180 = .ok (.iastore, 1) := by decide +kernel
theorem dX8_measure_181 : decode cX8_measure 181 = .ok (.iconst 1, 1) := by decide +kernel
theorem dX8_measure_182 : decode cX8_measure 182 = .ok (.istore 5, 2) := by decide +kernel
theorem dX8_measure_184 : decode cX8_measure 184 = .ok (.goto 53, 3) := by decide +kernel
theorem dX8_measure_187 : decode cX8_measure 187 = .ok (.aload_n 0, 1) := by decide +kernel
theorem dX8_measure_188 : decode cX8_measure 188 = .ok (.getfield 15, 3) := by decide +kernel
theorem dX8_measure_191 : decode cX8_measure 191 = .ok (.iload 8, 2) := by decide +kernel
theorem dX8_measure_193 : decode cX8_measure 193 = .ok (.iaload, 1) := by decide +kernel
theorem dX8_measure_194 : decode cX8_measure 194 = .ok (.aload_n 0, 1) := by decide +kernel
theorem dX8_measure_195 : decode cX8_measure 195 = .ok (.getfield 9, 3) := by decide +kernel
theorem dX8_measure_198 : decode cX8_measure 198 = .ok (.iload 7, 2) := by decide +kernel
theorem dX8_measure_200 : decode cX8_measure 200 = .ok (.iaload, 1) := by decide +kernel
theorem dX8_measure_201 : decode cX8_measure 201 = .ok (.iadd, 1) := by decide +kernel
theorem dX8_measure_202 : decode cX8_measure 202 = .ok (.aload_n 0, 1) := by decide +kernel
theorem dX8_measure_203 : decode cX8_measure 203 = .ok (.getfield 15, 3) := by decide +kernel
theorem dX8_measure_206 : decode cX8_measure 206 = .ok (.iload 9, 2) := by decide +kernel
theorem dX8_measure_208 : decode cX8_measure 208 = .ok (.iaload, 1) := by decide +kernel
theorem dX8_measure_209 : decode cX8_measure 209 = .ok (.if_icmp .ge 28, 3) := by decide +kernel
theorem dX8_measure_212 : decode cX8_measure 212 = .ok (.aload_n 0, 1) := by decide +kernel
theorem dX8_measure_213 : decode cX8_measure 213 = .ok (.getfield 15, 3) := by decide +kernel
theorem dX8_measure_216 : decode cX8_measure 216 = .ok (.iload 9, 2) := by decide +kernel
theorem dX8_measure_218 : decode cX8_measure 218 = .ok (.aload_n 0, 1) := by decide +kernel
theorem dX8_measure_219 : decode cX8_measure 219 = .ok (.getfield 15, 3) := by decide +kernel
theorem dX8_measure_222 : decode cX8_measure 222 = .ok (.iload 8, 2) := by decide +kernel
theorem dX8_measure_224 : decode cX8_measure 224 = .ok (.iaload, 1) := by decide +kernel
theorem dX8_measure_225 : decode cX8_measure 225 = .ok (.aload_n 0, 1) := by decide +kernel
theorem dX8_measure_226 : decode cX8_measure 226 = .ok (.getfield 9, 3) := by decide +kernel
theorem dX8_measure_229 : decode cX8_measure 229 = .ok (.iload 7, 2) := by decide +kernel
theorem dX8_measure_231 : decode cX8_measure 231 = .ok (.iaload, 1) := by decide +kernel
theorem dX8_measure_232 : decode cX8_measure 232 = .ok (.iadd, 1) := by decide +kernel
theorem dX8_measure_233 : decode cX8_measure 233 = .ok (.iastore, 1) := by decide +kernel
theorem dX8_measure_234 : decode cX8_measure 234 = .ok (.iconst 1, 1) := by decide +kernel
theorem dX8_measure_235 : decode cX8_measure 235 = .ok (.istore 5, 2) := by decide +kernel
theorem dX8_measure_237 : decode cX8_measure 237 = .ok (.iinc 7 1, 3) := by decide +kernel
theorem dX8_measure_240 : decode cX8_measure 240 = .ok (.goto (-131), 3) := by decide +kernel
theorem dX8_measure_243 : decode cX8_measure 243 = .ok (.iinc 6 1, 3) := by decide +kernel
theorem dX8_measure_246 : decode cX8_measure 246 = .ok (.goto (-155), 3) := by decide +kernel
theorem dX8_measure_249 : decode cX8_measure 249 = .ok (.return_, 1) := by decide +kernel
theorem dX8_nextLink_0 : decode cX8_nextLink 0 = .ok (.iconst (-1), 1) := by decide +kernel
theorem dX8_nextLink_1 : decode cX8_nextLink 1 = .ok (.istore_n 3, 1) := by decide +kernel
theorem dX8_nextLink_2 : decode cX8_nextLink 2 = .ok (.bipush 8, 2) := by decide +kernel
theorem dX8_nextLink_4 : decode cX8_nextLink 4 = .ok (.istore 4, 2) := by decide +kernel
theorem dX8_nextLink_6 : decode cX8_nextLink 6 = .ok (.iconst 0, 1) := by decide +kernel
theorem dX8_nextLink_7 : decode cX8_nextLink 7 = .ok (.istore 5, 2) := by decide +kernel
theorem dX8_nextLink_9 : decode cX8_nextLink 9 = .ok (.iload 5, 2) := by decide +kernel
theorem dX8_nextLink_11 : decode cX8_nextLink 11 = .ok (.aload_n 1, 1) := by decide +kernel
theorem dX8_nextLink_12 : decode cX8_nextLink 12 = .ok (.invokevirtual 18, 3) := by decide +kernel
theorem dX8_nextLink_15 : decode cX8_nextLink 15 = .ok (.if_icmp .ge 62, 3) := by decide +kernel
theorem dX8_nextLink_18 : decode cX8_nextLink 18 = .ok (.aload_n 0, 1) := by decide +kernel
theorem dX8_nextLink_19 : decode cX8_nextLink 19 = .ok (.aload_n 1, 1) := by decide +kernel
theorem dX8_nextLink_20 : decode cX8_nextLink 20 = .ok (.iload 5, 2) := by decide +kernel
theorem dX8_nextLink_22 : decode cX8_nextLink 22 = .ok (.iload_n 2, 1) := by decide +kernel
theorem dX8_nextLink_23 : decode cX8_nextLink 23 = .ok (.invokevirtual 49, 3) := by decide +kernel
theorem dX8_nextLink_26 : decode cX8_nextLink 26 = .ok (.istore 6, 2) := by decide +kernel
theorem dX8_nextLink_28 : decode cX8_nextLink 28 = .ok (.iload 6, 2) := by decide +kernel
theorem dX8_nextLink_30 : decode cX8_nextLink 30 = .ok (.ifCond .lt 41, 3) := by decide +kernel
theorem dX8_nextLink_33 : decode cX8_nextLink 33 = .ok (.iload 6, 2) := by decide +kernel
theorem dX8_nextLink_35 : decode cX8_nextLink 35 = .ok (.iload 4, 2) := by decide +kernel
theorem dX8_nextLink_37 : decode cX8_nextLink 37 = .ok (.if_icmp .ge 34, 3) := by decide +kernel
theorem dX8_nextLink_40 : decode cX8_nextLink 40 = .ok (.aload_n 0, 1) := by decide +kernel
theorem dX8_nextLink_41 : decode cX8_nextLink 41 = .ok (.getfield 15, 3) := by decide +kernel
theorem dX8_nextLink_44 : decode cX8_nextLink 44 = .ok (.iload 6, 2) := by decide +kernel
theorem dX8_nextLink_46 : decode cX8_nextLink 46 = .ok (.iaload, 1) := by decide +kernel
theorem dX8_nextLink_47 : decode cX8_nextLink 47 = .ok (.aload_n 0, 1) := by decide +kernel
theorem dX8_nextLink_48 : decode cX8_nextLink 48 = .ok (.getfield 9, 3) := by decide +kernel
theorem dX8_nextLink_51 : decode cX8_nextLink 51 = .ok (.iload 5, 2) := by decide +kernel
theorem dX8_nextLink_53 : decode cX8_nextLink 53 = .ok (.iaload, 1) := by decide +kernel
theorem dX8_nextLink_54 : decode cX8_nextLink 54 = .ok (.iadd, 1) := by decide +kernel
theorem dX8_nextLink_55 : decode cX8_nextLink 55 = .ok (.aload_n 0, 1) := by decide +kernel
theorem dX8_nextLink_56 : decode cX8_nextLink 56 = .ok (.getfield 15, 3) := by decide +kernel
theorem dX8_nextLink_59 : decode cX8_nextLink 59 = .ok (.iload_n 2, 1) := by decide +kernel
theorem dX8_nextLink_60 : decode cX8_nextLink 60 = .ok (.iaload, 1) := by decide +kernel
theorem dX8_nextLink_61 : decode cX8_nextLink 61 = .ok (.if_icmp .ne 10, 3) := by decide +kernel
theorem dX8_nextLink_64 : decode cX8_nextLink 64 = .ok (.iload 5, 2) := by decide +kernel
theorem dX8_nextLink_66 : decode cX8_nextLink 66 = .ok (.istore_n 3, 1) := by decide +kernel
theorem dX8_nextLink_67 : decode cX8_nextLink 67 = .ok (.iload 6, 2) := by decide +kernel
theorem dX8_nextLink_69 : decode cX8_nextLink 69 = .ok (.istore 4, 2) := by decide +kernel
theorem dX8_nextLink_71 : decode cX8_nextLink 71 = .ok (.iinc 5 1, 3) := by decide +kernel
theorem dX8_nextLink_74 : decode cX8_nextLink 74 = .ok (.goto (-65), 3) := by decide +kernel
theorem dX8_nextLink_77 : decode cX8_nextLink 77 = .ok (.iload_n 3, 1) := by decide +kernel
theorem dX8_nextLink_78 : decode cX8_nextLink 78 = .ok (.ireturn, 1) := by decide +kernel
theorem dX8_farEnd_0 : decode cX8_farEnd 0 = .ok (.aload_n 1, 1) := by decide +kernel
theorem dX8_farEnd_1 : decode cX8_farEnd 1 = .ok (.getfield 43, 3) := by decide +kernel
theorem dX8_farEnd_4 : decode cX8_farEnd 4 = .ok (.iload_n 2, 1) := by decide +kernel
theorem dX8_farEnd_5 : decode cX8_farEnd 5 = .ok (.iaload, 1) := by decide +kernel
theorem dX8_farEnd_6 : decode cX8_farEnd 6 = .ok (.iload_n 3, 1) := by decide +kernel
theorem dX8_farEnd_7 : decode cX8_farEnd 7 = .ok (.if_icmp .ne 10, 3) := by decide +kernel
theorem dX8_farEnd_10 : decode cX8_farEnd 10 = .ok (.aload_n 1, 1) := by decide +kernel
theorem dX8_farEnd_11 : decode cX8_farEnd 11 = .ok (.getfield 46, 3) := by decide +kernel
theorem dX8_farEnd_14 : decode cX8_farEnd 14 = .ok (.iload_n 2, 1) := by decide +kernel
theorem dX8_farEnd_15 : decode cX8_farEnd 15 = .ok (.iaload, 1) := by decide +kernel
theorem dX8_farEnd_16 : decode cX8_farEnd 16 = .ok (.ireturn, 1) := by decide +kernel
theorem dX8_farEnd_17 : decode cX8_farEnd 17 = .ok (.aload_n 1, 1) := by decide +kernel
theorem dX8_farEnd_18 : decode cX8_farEnd 18 = .ok (.getfield 46, 3) := by decide +kernel
theorem dX8_farEnd_21 : decode cX8_farEnd 21 = .ok (.iload_n 2, 1) := by decide +kernel
theorem dX8_farEnd_22 : decode cX8_farEnd 22 = .ok (.iaload, 1) := by decide +kernel
theorem dX8_farEnd_23 : decode cX8_farEnd 23 = .ok (.iload_n 3, 1) := by decide +kernel
theorem dX8_farEnd_24 : decode cX8_farEnd 24 = .ok (.if_icmp .ne 12, 3) := by decide +kernel
theorem dX8_farEnd_27 : decode cX8_farEnd 27 = .ok (.aload_n 1, 1) := by decide +kernel
theorem dX8_farEnd_28 : decode cX8_farEnd 28 = .ok (.getfield 43, 3) := by decide +kernel
theorem dX8_farEnd_31 : decode cX8_farEnd 31 = .ok (.iload_n 2, 1) := by decide +kernel
theorem dX8_farEnd_32 : decode cX8_farEnd 32 = .ok (.iaload, 1) := by decide +kernel
theorem dX8_farEnd_33 : decode cX8_farEnd 33 = .ok (.goto 4, 3) := by decide +kernel
theorem dX8_farEnd_36 : decode cX8_farEnd 36 = .ok (.iconst (-1), 1) := by decide +kernel
theorem dX8_farEnd_37 : decode cX8_farEnd 37 = .ok (.ireturn, 1) := by decide +kernel
theorem dX9_init_0 : decode cX9_init 0 = .ok (.aload_n 0, 1) := by decide +kernel
theorem dX9_init_1 : decode cX9_init 1 = .ok (.invokespecial 3, 3) := by decide +kernel
theorem dX9_init_4 : decode cX9_init 4 = .ok (.aload_n 0, 1) := by decide +kernel
theorem dX9_init_5 : decode cX9_init 5 = .ok (.bipush 8, 2) := by decide +kernel
theorem dX9_init_7 : decode cX9_init 7 = .ok (.newarray .int, 2) := by decide +kernel
theorem dX9_init_9 : decode cX9_init 9 = .ok (.putfield 9, 3) := by decide +kernel
theorem dX9_init_12 : decode cX9_init 12 = .ok (.aload_n 0, 1) := by decide +kernel
theorem dX9_init_13 : decode cX9_init 13 = .ok (.bipush 8, 2) := by decide +kernel
theorem dX9_init_15 : decode cX9_init 15 = .ok (.newarray .int, 2) := by decide +kernel
theorem dX9_init_17 : decode cX9_init 17 = .ok (.putfield 15, 3) := by decide +kernel
theorem dX9_init_20 : decode cX9_init 20 = .ok (.return_, 1) := by decide +kernel
theorem dX9_forget_0 : decode cX9_forget 0 = .ok (.aload_n 0, 1) := by decide +kernel
theorem dX9_forget_1 : decode cX9_forget 1 = .ok (.iconst 0, 1) := by decide +kernel
theorem dX9_forget_2 : decode cX9_forget 2 = .ok (.putfield 18, 3) := by decide +kernel
theorem dX9_forget_5 : decode cX9_forget 5 = .ok (.aload_n 0, 1) := by decide +kernel
theorem dX9_forget_6 : decode cX9_forget 6 = .ok (.iconst 0, 1) := by decide +kernel
theorem dX9_forget_7 : decode cX9_forget 7 = .ok (.putfield 22, 3) := by decide +kernel
theorem dX9_forget_10 : decode cX9_forget 10 = .ok (.aload_n 0, 1) := by decide +kernel
theorem dX9_forget_11 : decode cX9_forget 11 = .ok (.iconst 0, 1) := by decide +kernel
theorem dX9_forget_12 : decode cX9_forget 12 = .ok (.putfield 25, 3) := by decide +kernel
theorem dX9_forget_15 : decode cX9_forget 15 = .ok (.return_, 1) := by decide +kernel
theorem dX9_trace_0 : decode cX9_trace 0 = .ok (.aload_n 0, 1) := by decide +kernel
theorem dX9_trace_1 : decode cX9_trace 1 = .ok (.invokevirtual 28, 3) := by decide +kernel
theorem dX9_trace_4 : decode cX9_trace 4 = .ok (.aload_n 0, 1) := by decide +kernel
theorem dX9_trace_5 : decode cX9_trace 5 = .ok (.aload_n 2, 1) := by decide +kernel
theorem dX9_trace_6 : decode cX9_trace 6 = .ok (.getfield 31, 3) := by decide +kernel
theorem dX9_trace_9 : decode cX9_trace 9 = .ok (.iload_n 3, 1) := by decide +kernel
theorem dX9_trace_10 : decode cX9_trace 10 = .ok (.iaload, 1) := by decide +kernel
theorem dX9_trace_11 : decode cX9_trace 11 = .ok (.sipush 1000, 3) := by decide +kernel
theorem dX9_trace_14 : decode cX9_trace 14 = .ok (.irem, 1) := by decide +kernel
theorem dX9_trace_15 : decode cX9_trace 15 = .ok (.putfield 25, 3) := by decide +kernel
theorem dX9_trace_18 : decode cX9_trace 18 = .ok (.iload_n 3, 1) := by decide +kernel
theorem dX9_trace_19 : decode cX9_trace 19 = .ok (.istore 5, 2) := by decide +kernel
theorem dX9_trace_21 : decode cX9_trace 21 = .ok (.aload_n 0, 1) := by decide +kernel
theorem dX9_trace_22 : decode cX9_trace 22 = .ok (.getfield 9, 3) := by decide +kernel
theorem dX9_trace_25 : decode cX9_trace 25 = .ok (.iconst 0, 1) := by decide +kernel
theorem dX9_trace_26 : decode cX9_trace 26 = .ok (.iload 5, 2) := by decide +kernel
theorem dX9_trace_28 : decode cX9_trace 28 = .ok (.iastore, 1) := by decide +kernel
theorem dX9_trace_29 : decode cX9_trace 29 = .ok (.aload_n 0, 1) := by decide +kernel
theorem dX9_trace_30 : decode cX9_trace 30 = .ok (.iconst 1, 1) := by decide +kernel
theorem dX9_trace_31 : decode cX9_trace 31 = .ok (.putfield 18, 3) := by decide +kernel
theorem dX9_trace_34 : decode cX9_trace 34 = .ok (.iload 5, 2) := by decide +kernel
theorem dX9_trace_36 : decode cX9_trace 36 = .ok (.iload 4, 2) := by decide +kernel
theorem dX9_trace_38 : decode cX9_trace 38 = .ok (.if_icmp .eq 100, 3) := by decide +kernel
theorem dX9_trace_41 : decode cX9_trace 41 = .ok (.aload_n 0, 1) := by decide +kernel
theorem dX9_trace_42 : decode cX9_trace 42 = .ok (.getfield 18, 3) := by decide +kernel
theorem dX9_trace_45 : decode cX9_trace 45 = .ok (.bipush 8, 2) := by decide +kernel
theorem dX9_trace_47 : decode cX9_trace 47 = .ok (.if_icmp .ge 91, 3) := by decide +kernel
theorem dX9_trace_50 : decode cX9_trace 50 = .ok (.aload_n 2, 1) := by decide +kernel
theorem dX9_trace_51 : decode cX9_trace 51 = .ok (.aload_n 1, 1) := by decide +kernel
theorem dX9_trace_52 : decode cX9_trace 52 = .ok (.iload 5, 2) := by decide +kernel
theorem dX9_trace_54 : decode cX9_trace 54 = .ok (.invokevirtual 36, 3) := by decide +kernel
theorem dX9_trace_57 : decode cX9_trace 57 = .ok (.istore 6, 2) := by decide +kernel
theorem dX9_trace_59 : decode cX9_trace 59 = .ok (.iload 6, 2) := by decide +kernel
theorem dX9_trace_61 : decode cX9_trace 61 = .ok (.ifCond .ge 6, 3) := by decide +kernel
theorem dX9_trace_64 : decode cX9_trace 64 = .ok (.goto 74, 3) := by decide +kernel
theorem dX9_trace_67 : decode cX9_trace 67 = .ok (.aload_n 1, 1) := by decide +kernel
theorem dX9_trace_68 : decode cX9_trace 68 = .ok (.getfield 40, 3) := by decide +kernel
theorem dX9_trace_71 : decode cX9_trace 71 = .ok (.iload 6, 2) := by decide +kernel
theorem dX9_trace_73 : decode cX9_trace 73 = .ok (.iaload, 1) := by decide +kernel
theorem dX9_trace_74 : decode cX9_trace 74 = .ok (.ifCond .lt 29, 3) := by decide +kernel
theorem dX9_trace_77 : decode cX9_trace 77 = .ok (.aload_n 0, 1) := by decide +kernel
theorem dX9_trace_78 : decode cX9_trace 78 = .ok (.getfield 15, 3) := by decide +kernel
theorem dX9_trace_81 : decode cX9_trace 81 = .ok (.aload_n 0, 1) := by decide +kernel
theorem dX9_trace_82 : decode cX9_trace 82 = .ok (.getfield 22, 3) := by decide +kernel
theorem dX9_trace_85 : decode cX9_trace 85 = .ok (.aload_n 1, 1) := by decide +kernel
theorem dX9_trace_86 : decode cX9_trace 86 = .ok (.getfield 40, 3) := by decide +kernel
theorem dX9_trace_89 : decode cX9_trace 89 = .ok (.iload 6, 2) := by decide +kernel
theorem dX9_trace_91 : decode cX9_trace 91 = .ok (.iaload, 1) := by decide +kernel
theorem dX9_trace_92 : decode cX9_trace 92 = .ok (.iastore, 1) := by decide +kernel
theorem dX9_trace_93 : decode cX9_trace 93 = .ok (.aload_n 0, 1) := by decide +kernel
theorem dX9_trace_94 : decode cX9_trace 94 = .ok (.dup, 1) := by decide +kernel
theorem dX9_trace_95 : decode cX9_trace 95 = .ok (.getfield 22, 3) := by decide +kernel
theorem dX9_trace_98 : decode cX9_trace 98 = .ok (.iconst 1, 1) := by decide +kernel
theorem dX9_trace_99 : decode cX9_trace 99 = .ok (.iadd, 1) := by decide +kernel
theorem dX9_trace_100 : decode cX9_trace 100 = .ok (.putfield 22, 3) := by decide +kernel
theorem dX9_trace_103 : decode cX9_trace 103 = .ok (.aload_n 2, 1) := by decide +kernel
theorem dX9_trace_104 : decode cX9_trace 104 = .ok (.aload_n 1, 1) := by decide +kernel
theorem dX9_trace_105 : decode cX9_trace 105 = .ok (.iload 6, 2) := by decide +kernel
theorem dX9_trace_107 : decode cX9_trace 107 = .ok (.iload 5, 2) := by decide +kernel
theorem dX9_trace_109 : decode cX9_trace 109 = .ok (.invokevirtual 45, 3) := by decide +kernel
theorem dX9_trace_112 : decode cX9_trace 112 = .ok (.istore 5, 2) := by decide +kernel
theorem dX9_trace_114 : decode cX9_trace 114 = .ok (.aload_n 0, 1) := by decide +kernel
theorem dX9_trace_115 : decode cX9_trace 115 = .ok (.getfield 9, 3) := by decide +kernel
theorem dX9_trace_118 : decode cX9_trace 118 = .ok (.aload_n 0, 1) := by decide +kernel
theorem dX9_trace_119 : decode cX9_trace 119 = .ok (.getfield 18, 3) := by decide +kernel
theorem dX9_trace_122 : decode cX9_trace 122 = .ok (.iload 5, 2) := by decide +kernel
theorem dX9_trace_124 : decode cX9_trace 124 = .ok (.iastore, 1) := by decide +kernel
theorem dX9_trace_125 : decode cX9_trace 125 = .ok (.aload_n 0, 1) := by decide +kernel
theorem dX9_trace_126 : decode cX9_trace 126 = .ok (.dup, 1) := by decide +kernel
theorem dX9_trace_127 : decode cX9_trace 127 = .ok (.getfield 18, 3) := by decide +kernel
theorem dX9_trace_130 : decode cX9_trace 130 = .ok (.iconst 1, 1) := by decide +kernel
theorem dX9_trace_131 : decode cX9_trace 131 = .ok (.iadd, 1) := by decide +kernel
theorem dX9_trace_132 : decode cX9_trace 132 = .ok (.putfield 18, 3) := by decide +kernel
theorem dX9_trace_135 : decode cX9_trace 135 = .ok (.goto (-101), 3) := by decide +kernel
theorem dX9_trace_138 : decode cX9_trace 138 = .ok (.return_, 1) := by decide +kernel
theorem dX10_init_0 : decode cX10_init 0 = .ok (.aload_n 0, 1) := by decide +kernel
theorem dX10_init_1 : decode cX10_init 1 = .ok (.invokespecial 1, 3) := by decide +kernel
theorem dX10_init_4 : decode cX10_init 4 = .ok (.aload_n 0, 1) := by decide +kernel
theorem dX10_init_5 : decode cX10_init 5 = .ok (.sipush 900, 3) := by decide +kernel
theorem dX10_init_8 : decode cX10_init 8 = .ok (.newarray .byte, 2) := by decide +kernel
theorem dX10_init_10 : decode cX10_init 10 = .ok (.putfield 9, 3) := by decide +kernel
theorem dX10_init_13 : decode cX10_init 13 = .ok (.aload_n 0, 1) := by decide +kernel
theorem dX10_init_14 : decode cX10_init 14 = .ok (.new 13, 3) := by decide +kernel
theorem dX10_init_17 : decode cX10_init 17 = .ok (.dup, 1) := by decide +kernel
theorem dX10_init_18 : decode cX10_init 18 = .ok (.invokespecial 15, 3) := by decide +kernel
theorem dX10_init_21 : decode cX10_init 21 = .ok (.putfield 16, 3) := by decide +kernel
theorem dX10_init_24 : decode cX10_init 24 = .ok (.aload_n 0, 1) := by decide +kernel
theorem dX10_init_25 : decode cX10_init 25 = .ok (.new 13, 3) := by decide +kernel
theorem dX10_init_28 : decode cX10_init 28 = .ok (.dup, 1) := by decide +kernel
theorem dX10_init_29 : decode cX10_init 29 = .ok (.invokespecial 15, 3) := by decide +kernel
theorem dX10_init_32 : decode cX10_init 32 = .ok (.putfield 20, 3) := by decide +kernel
theorem dX10_init_35 : decode cX10_init 35 = .ok (.aload_n 0, 1) := by decide +kernel
theorem dX10_init_36 : decode cX10_init 36 = .ok (.new 23, 3) := by decide +kernel
theorem dX10_init_39 : decode cX10_init 39 = .ok (.dup, 1) := by decide +kernel
theorem dX10_init_40 : decode cX10_init 40 = .ok (.aload_n 0, 1) := by decide +kernel
theorem dX10_init_41 : decode cX10_init 41 = .ok (.getfield 9, 3) := by decide +kernel
theorem dX10_init_44 : decode cX10_init 44 = .ok (.aload_n 0, 1) := by decide +kernel
theorem dX10_init_45 : decode cX10_init 45 = .ok (.getfield 20, 3) := by decide +kernel
theorem dX10_init_48 : decode cX10_init 48 = .ok (.invokespecial 25, 3) := by decide +kernel
theorem dX10_init_51 : decode cX10_init 51 = .ok (.putfield 28, 3) := by decide +kernel
theorem dX10_init_54 : decode cX10_init 54 = .ok (.aload_n 0, 1) := by decide +kernel
theorem dX10_init_55 : decode cX10_init 55 = .ok (.new 32, 3) := by decide +kernel
theorem dX10_init_58 : decode cX10_init 58 = .ok (.dup, 1) := by decide +kernel
theorem dX10_init_59 : decode cX10_init 59 = .ok (.aload_n 0, 1) := by decide +kernel
theorem dX10_init_60 : decode cX10_init 60 = .ok (.getfield 16, 3) := by decide +kernel
theorem dX10_init_63 : decode cX10_init 63 = .ok (.invokespecial 34, 3) := by decide +kernel
theorem dX10_init_66 : decode cX10_init 66 = .ok (.putfield 37, 3) := by decide +kernel
theorem dX10_init_69 : decode cX10_init 69 = .ok (.aload_n 0, 1) := by decide +kernel
theorem dX10_init_70 : decode cX10_init 70 = .ok (.new 41, 3) := by decide +kernel
theorem dX10_init_73 : decode cX10_init 73 = .ok (.dup, 1) := by decide +kernel
theorem dX10_init_74 : decode cX10_init 74 = .ok (.invokespecial 43, 3) := by decide +kernel
theorem dX10_init_77 : decode cX10_init 77 = .ok (.putfield 44, 3) := by decide +kernel
theorem dX10_init_80 : decode cX10_init 80 = .ok (.return_, 1) := by decide +kernel
theorem dX10_feed_0 : decode cX10_feed 0 = .ok (.aload_n 0, 1) := by decide +kernel
theorem dX10_feed_1 : decode cX10_feed 1 = .ok (.getfield 48, 3) := by decide +kernel
theorem dX10_feed_4 : decode cX10_feed 4 = .ok (.sipush 880, 3) := by decide +kernel
theorem dX10_feed_7 : decode cX10_feed 7 = .ok (.if_icmp .le 5, 3) := by decide +kernel
theorem dX10_feed_10 : decode cX10_feed 10 = .ok (.iconst (-1), 1) := by decide +kernel
theorem dX10_feed_11 : decode cX10_feed 11 = .ok (.ireturn, 1) := by decide +kernel
theorem dX10_feed_12 : decode cX10_feed 12 = .ok (.aload_n 0, 1) := by decide +kernel
theorem dX10_feed_13 : decode cX10_feed 13 = .ok (.iload_n 1, 1) := by decide +kernel
theorem dX10_feed_14 : decode cX10_feed 14 = .ok (.invokevirtual 52, 3) := by decide +kernel
theorem dX10_feed_17 : decode cX10_feed 17 = .ok (.aload_n 0, 1) := by decide +kernel
theorem dX10_feed_18 : decode cX10_feed 18 = .ok (.iload_n 2, 1) := by decide +kernel
theorem dX10_feed_19 : decode cX10_feed 19 = .ok (.invokevirtual 52, 3) := by decide +kernel
theorem dX10_feed_22 : decode cX10_feed 22 = .ok (.aload_n 0, 1) := by decide +kernel
theorem dX10_feed_23 : decode cX10_feed 23 = .ok (.iload_n 3, 1) := by decide +kernel
theorem dX10_feed_24 : decode cX10_feed 24 = .ok (.invokevirtual 52, 3) := by decide +kernel
theorem dX10_feed_27 : decode cX10_feed 27 = .ok (.aload_n 0, 1) := by decide +kernel
theorem dX10_feed_28 : decode cX10_feed 28 = .ok (.iload 4, 2) := by decide +kernel
theorem dX10_feed_30 : decode cX10_feed 30 = .ok (.invokevirtual 52, 3) := by decide +kernel
theorem dX10_feed_33 : decode cX10_feed 33 = .ok (.aload_n 0, 1) := by decide +kernel
theorem dX10_feed_34 : decode cX10_feed 34 = .ok (.iload 5, 2) := by decide +kernel
theorem dX10_feed_36 : decode cX10_feed 36 = .ok (.invokevirtual 52, 3) := by decide +kernel
theorem dX10_feed_39 : decode cX10_feed 39 = .ok (.aload_n 0, 1) := by decide +kernel
theorem dX10_feed_40 : decode cX10_feed 40 = .ok (.getfield 48, 3) := by decide +kernel
theorem dX10_feed_43 : decode cX10_feed 43 = .ok (.ireturn, 1) := by decide +kernel
theorem dX10_putBytes_0 : decode cX10_putBytes 0 = .ok (.bipush 24, 2) := by decide +kernel
theorem dX10_putBytes_2 : decode cX10_putBytes 2 = .ok (.istore_n 2, 1) := by decide +kernel
theorem dX10_putBytes_3 : decode cX10_putBytes 3 = .ok (.iload_n 2, 1) := by decide +kernel
theorem dX10_putBytes_4 : decode cX10_putBytes 4 = .ok (.ifCond .lt 49, 3) := by decide +kernel
theorem dX10_putBytes_7 : decode cX10_putBytes 7 = .ok (.aload_n 0, 1) := by decide +kernel
theorem dX10_putBytes_8 : decode cX10_putBytes 8 = .ok (.getfield 48, 3) := by decide +kernel
theorem dX10_putBytes_11 : decode cX10_putBytes 11 = .ok (.ifCond .lt 36, 3) := by decide +kernel
theorem dX10_putBytes_14 : decode cX10_putBytes 14 = .ok (.aload_n 0, 1) := by decide +kernel
theorem dX10_putBytes_15 : decode cX10_putBytes 15 = .ok (.getfield 48, 3) := by decide +kernel
theorem dX10_putBytes_18 : decode cX10_putBytes 18 = .ok (.sipush 900, 3) := by decide +kernel
theorem dX10_putBytes_21 : decode cX10_putBytes 21 = .ok (.if_icmp .ge 26, 3) := by decide +kernel
theorem dX10_putBytes_24 : decode cX10_putBytes 24 = .ok (.aload_n 0, 1) := by decide +kernel
theorem dX10_putBytes_25 : decode cX10_putBytes 25 = .ok (.getfield 9, 3) := by decide +kernel
theorem dX10_putBytes_28 : decode cX10_putBytes 28 = .ok (.aload_n 0, 1) := by decide +kernel
theorem dX10_putBytes_29 : decode cX10_putBytes 29 = .ok (.getfield 48, 3) := by decide +kernel
theorem dX10_putBytes_32 : decode cX10_putBytes 32 = .ok (.iload_n 1, 1) := by decide +kernel
theorem dX10_putBytes_33 : decode cX10_putBytes 33 = .ok (.iload_n 2, 1) := by decide +kernel
theorem dX10_putBytes_34 : decode cX10_putBytes 34 = .ok (.ishr, 1) := by decide +kernel
theorem dX10_putBytes_35 : decode cX10_putBytes 35 = .ok (.i2b, 1) := by decide +kernel
theorem dX10_putBytes_36 : decode cX10_putBytes 36 = .ok (.bastore, 1) := by decide +kernel
theorem dX10_putBytes_37 : decode cX10_putBytes 37 = .ok (.aload_n 0, 1) := by decide +kernel
theorem dX10_putBytes_38 : decode cX10_putBytes 38 = .ok (.dup, 1) := by decide +kernel
theorem dX10_putBytes_39 : decode cX10_putBytes 39 = .ok (.getfield 48, 3) := by decide +kernel
theorem dX10_putBytes_42 : decode cX10_putBytes 42 = .ok (.iconst 1, 1) := by decide +kernel
theorem dX10_putBytes_43 : decode cX10_putBytes 43 = .ok (.iadd, 1) := by decide +kernel
theorem dX10_putBytes_44 : decode cX10_putBytes 44 = .ok (.putfield 48, 3) := by decide +kernel
theorem dX10_putBytes_47 : decode cX10_putBytes 47 = .ok (.iinc 2 (-8), 3) := by decide +kernel
theorem dX10_putBytes_50 : decode cX10_putBytes 50 = .ok (.goto (-47), 3) := by decide +kernel
theorem dX10_putBytes_53 : decode cX10_putBytes 53 = .ok (.return_, 1) := by decide +kernel
theorem dX10_realm_0 : decode cX10_realm 0 = .ok (.iload_n 1, 1) := by decide +kernel
theorem dX10_realm_1 : decode cX10_realm 1 = .ok (.ifCond .lt 11, 3) := by decide +kernel
theorem dX10_realm_4 : decode cX10_realm 4 = .ok (.iload_n 1, 1) := by decide +kernel
theorem dX10_realm_5 : decode cX10_realm 5 = .ok (.aload_n 0, 1) := by decide +kernel
theorem dX10_realm_6 : decode cX10_realm 6 = .ok (.getfield 48, 3) := by decide +kernel
theorem dX10_realm_9 : decode cX10_realm 9 = .ok (.if_icmp .le 9, 3) := by decide +kernel
theorem dX10_realm_12 : decode cX10_realm 12 = .ok (.aload_n 0, 1) := by decide +kernel
theorem dX10_realm_13 : decode cX10_realm 13 = .ok (.iconst 2, 1) := by decide +kernel
theorem dX10_realm_14 : decode cX10_realm 14 = .ok (.invokevirtual 56, 3) := by decide +kernel
theorem dX10_realm_17 : decode cX10_realm 17 = .ok (.ireturn, 1) := by decide +kernel
theorem dX10_realm_18 : decode cX10_realm 18 = .ok (.aload_n 0, 1) := by decide +kernel
theorem dX10_realm_19 : decode cX10_realm 19 = .ok (.getfield 28, 3) := by decide +kernel
theorem dX10_realm_22 : decode cX10_realm 22 = .ok (.aload_n 0, 1) := by decide +kernel
theorem dX10_realm_23 : decode cX10_realm 23 = .ok (.getfield 20, 3) := by decide +kernel
theorem dX10_realm_26 : decode cX10_realm 26 = .ok (.iload_n 1, 1) := by decide +kernel
theorem dX10_realm_27 : decode cX10_realm 27 = .ok (.invokevirtual 60, 3) := by decide +kernel
theorem dX10_realm_30 : decode cX10_realm 30 = .ok (.istore_n 2, 1) := by decide +kernel
theorem dX10_realm_31 : decode cX10_realm 31 = .ok (.aload_n 0, 1) := by decide +kernel
theorem dX10_realm_32 : decode cX10_realm 32 = .ok (.iconst 0, 1) := by decide +kernel
theorem dX10_realm_33 : decode cX10_realm 33 = .ok (.putfield 48, 3) := by decide +kernel
theorem dX10_realm_36 : decode cX10_realm 36 = .ok (.iload_n 2, 1) := by decide +kernel
theorem dX10_realm_37 : decode cX10_realm 37 = .ok (.ifCond .ne 9, 3) := by decide +kernel
theorem dX10_realm_40 : decode cX10_realm 40 = .ok (.aload_n 0, 1) := by decide +kernel
theorem dX10_realm_41 : decode cX10_realm 41 = .ok (.iconst 4, 1) := by decide +kernel
theorem dX10_realm_42 : decode cX10_realm 42 = .ok (.invokevirtual 56, 3) := by decide +kernel
theorem dX10_realm_45 : decode cX10_realm 45 = .ok (.ireturn, 1) := by decide +kernel
theorem dX10_realm_46 : decode cX10_realm 46 = .ok (.aload_n 0, 1) := by decide +kernel
theorem dX10_realm_47 : decode cX10_realm 47 = .ok (.getfield 16, 3) := by decide +kernel
theorem dX10_realm_50 : decode cX10_realm 50 = .ok (.astore_n 3, 1) := by decide +kernel
theorem dX10_realm_51 : decode cX10_realm 51 = .ok (.aload_n 0, 1) := by decide +kernel
theorem dX10_realm_52 : decode cX10_realm 52 = .ok (.aload_n 0, 1) := by decide +kernel
theorem dX10_realm_53 : decode cX10_realm 53 = .ok (.getfield 20, 3) := by decide +kernel
theorem dX10_realm_56 : decode cX10_realm 56 = .ok (.putfield 16, 3) := by decide +kernel
theorem dX10_realm_59 : decode cX10_realm 59 = .ok (.aload_n 0, 1) := by decide +kernel
theorem dX10_realm_60 : decode cX10_realm 60 = .ok (.aload_n 3, 1) := by decide +kernel
theorem dX10_realm_61 : decode cX10_realm 61 = .ok (.putfield 20, 3) := by decide +kernel
theorem dX10_realm_64 : decode cX10_realm 64 = .ok (.aload_n 0, 1) := by decide +kernel
theorem dX10_realm_65 : decode cX10_realm 65 = .ok (.getfield 44, 3) := by decide +kernel
theorem dX10_realm_68 : decode cX10_realm 68 = .ok (.invokevirtual 64, 3) := by decide +kernel
theorem dX10_realm_71 : decode cX10_realm 71 = .ok (.aload_n 0, 1) := by decide +kernel
theorem dX10_realm_72 : decode cX10_realm 72 = .ok (.iconst 0, 1) := by decide +kernel
theorem dX10_realm_73 : decode cX10_realm 73 = .ok (.putfield 67, 3) := by decide +kernel
theorem dX10_realm_76 : decode cX10_realm 76 = .ok (.aload_n 0, 1) := by decide +kernel
theorem dX10_realm_77 : decode cX10_realm 77 = .ok (.getfield 16, 3) := by decide +kernel
theorem dX10_realm_80 : decode cX10_realm 80 = .ok (.getfield 70, 3) := by decide +kernel
theorem dX10_realm_83 : decode cX10_realm 83 = .ok (.iconst 0, 1) := by decide +kernel
theorem dX10_realm_84 : decode cX10_realm 84 = .ok (.iaload, 1) := by decide +kernel
theorem dX10_realm_85 : decode cX10_realm 85 = .ok (.ireturn, 1) := by decide +kernel
theorem dX10_fault_0 : decode cX10_fault 0 = .ok (.aload_n 0, 1) := by decide +kernel
theorem dX10_fault_1 : decode cX10_fault 1 = .ok (.getfield 28, 3) := by decide +kernel
theorem dX10_fault_4 : decode cX10_fault 4 = .ok (.getfield 74, 3) := by decide +kernel
theorem dX10_fault_7 : decode cX10_fault 7 = .ok (.ireturn, 1) := by decide +kernel
theorem dX10_where_0 : decode cX10_where 0 = .ok (.aload_n 0, 1) := by decide +kernel
theorem dX10_where_1 : decode cX10_where 1 = .ok (.getfield 67, 3) := by decide +kernel
theorem dX10_where_4 : decode cX10_where 4 = .ok (.iconst 4, 1) := by decide +kernel
theorem dX10_where_5 : decode cX10_where 5 = .ok (.if_icmp .ne 13, 3) := by decide +kernel
theorem dX10_where_8 : decode cX10_where 8 = .ok (.aload_n 0, 1) := by decide +kernel
theorem dX10_where_9 : decode cX10_where 9 = .ok (.getfield 28, 3) := by decide +kernel
theorem dX10_where_12 : decode cX10_where 12 = .ok (.getfield 77, 3) := by decide +kernel
theorem dX10_where_15 : decode cX10_where 15 = .ok (.goto 4, 3) := by decide +kernel
theorem dX10_where_18 : decode cX10_where 18 = .ok (.iconst (-1), 1) := by decide +kernel
theorem dX10_where_19 : decode cX10_where 19 = .ok (.ireturn, 1) := by decide +kernel
theorem dX10_owes_0 : decode cX10_owes 0 = .ok (.aload_n 0, 1) := by decide +kernel
theorem dX10_owes_1 : decode cX10_owes 1 = .ok (.aload_n 0, 1) := by decide +kernel
theorem dX10_owes_2 : decode cX10_owes 2 = .ok (.iload_n 1, 1) := by decide +kernel
theorem dX10_owes_3 : decode cX10_owes 3 = .ok (.iload_n 2, 1) := by decide +kernel
theorem dX10_owes_4 : decode cX10_owes 4 = .ok (.iload 4, 2) := by decide +kernel
theorem dX10_owes_6 : decode cX10_owes 6 = .ok (.invokevirtual 80, 3) := by decide +kernel
theorem dX10_owes_9 : decode cX10_owes 9 = .ok (.iload_n 3, 1) := by decide +kernel
theorem dX10_owes_10 : decode cX10_owes 10 = .ok (.invokevirtual 84, 3) := by decide +kernel
theorem dX10_owes_13 : decode cX10_owes 13 = .ok (.ifCond .ne 5, 3) := by decide +kernel
theorem dX10_owes_16 : decode cX10_owes 16 = .ok (.iconst (-1), 1) := by decide +kernel
theorem dX10_owes_17 : decode cX10_owes 17 = .ok (.ireturn, 1) := by decide +kernel
theorem dX10_owes_18 : decode cX10_owes 18 = .ok (.aload_n 0, 1) := by decide +kernel
theorem dX10_owes_19 : decode cX10_owes 19 = .ok (.getfield 37, 3) := by decide +kernel
theorem dX10_owes_22 : decode cX10_owes 22 = .ok (.aload_n 0, 1) := by decide +kernel
theorem dX10_owes_23 : decode cX10_owes 23 = .ok (.getfield 16, 3) := by decide +kernel
theorem dX10_owes_26 : decode cX10_owes 26 = .ok (.iload 4, 2) := by decide +kernel
theorem dX10_owes_28 : decode cX10_owes 28 = .ok (.invokevirtual 88, 3) := by decide +kernel
theorem dX10_owes_31 : decode cX10_owes 31 = .ok (.aload_n 0, 1) := by decide +kernel
theorem dX10_owes_32 : decode cX10_owes 32 = .ok (.getfield 37, 3) := by decide +kernel
theorem dX10_owes_35 : decode cX10_owes 35 = .ok (.iload_n 1, 1) := by decide +kernel
theorem dX10_owes_36 : decode cX10_owes 36 = .ok (.iload_n 2, 1) := by decide +kernel
theorem dX10_owes_37 : decode cX10_owes 37 = .ok (.iload_n 3, 1) := by decide +kernel
theorem dX10_owes_38 : decode cX10_owes 38 = .ok (.invokevirtual 92, 3) := by decide +kernel
theorem dX10_owes_41 : decode cX10_owes 41 = .ok (.ireturn, 1) := by decide +kernel
theorem dX10_wins_0 : decode cX10_wins 0 = .ok (.aload_n 0, 1) := by decide +kernel
theorem dX10_wins_1 : decode cX10_wins 1 = .ok (.getfield 16, 3) := by decide +kernel
theorem dX10_wins_4 : decode cX10_wins 4 = .ok (.bipush 11, 2) := by decide +kernel
theorem dX10_wins_6 : decode cX10_wins 6 = .ok (.iload_n 1, 1) := by decide +kernel
theorem dX10_wins_7 : decode cX10_wins 7 = .ok (.invokevirtual 96, 3) := by decide +kernel
theorem dX10_wins_10 : decode cX10_wins 10 = .ok (.ifCond .eq 33, 3) := by decide +kernel
theorem dX10_wins_13 : decode cX10_wins 13 = .ok (.aload_n 0, 1) := by decide +kernel
theorem dX10_wins_14 : decode cX10_wins 14 = .ok (.getfield 16, 3) := by decide +kernel
theorem dX10_wins_17 : decode cX10_wins 17 = .ok (.iconst 5, 1) := by decide +kernel
theorem dX10_wins_18 : decode cX10_wins 18 = .ok (.iload_n 2, 1) := by decide +kernel
theorem dX10_wins_19 : decode cX10_wins 19 = .ok (.invokevirtual 96, 3) := by decide +kernel
theorem dX10_wins_22 : decode cX10_wins 22 = .ok (.ifCond .eq 21, 3) := by decide +kernel
theorem dX10_wins_25 : decode cX10_wins 25 = .ok (.aload_n 0, 1) := by decide +kernel
theorem dX10_wins_26 : decode cX10_wins 26 = .ok (.getfield 16, 3) := by decide +kernel
theorem dX10_wins_29 : decode cX10_wins 29 = .ok (.bipush 10, 2) := by decide +kernel
theorem dX10_wins_31 : decode cX10_wins 31 = .ok (.iload 4, 2) := by decide +kernel
theorem dX10_wins_33 : decode cX10_wins 33 = .ok (.invokevirtual 96, 3) := by decide +kernel
theorem dX10_wins_36 : decode cX10_wins 36 = .ok (.ifCond .eq 7, 3) := by decide +kernel
theorem dX10_wins_39 : decode cX10_wins 39 = .ok (.iconst 1, 1) := by decide +kernel
theorem dX10_wins_40 : decode cX10_wins 40 = .ok (.goto 4, 3) := by decide +kernel
theorem dX10_wins_43 : decode cX10_wins 43 = .ok (.iconst 0, 1) := by decide +kernel
theorem dX10_wins_44 : decode cX10_wins 44 = .ok (.istore 5, 2) := by decide +kernel
theorem dX10_wins_46 : decode cX10_wins 46 = .ok (.aload_n 0, 1) := by decide +kernel
theorem dX10_wins_47 : decode cX10_wins 47 = .ok (.iload 5, 2) := by decide +kernel
theorem dX10_wins_49 : decode cX10_wins 49 = .ok (.iload_n 3, 1) := by decide +kernel
theorem dX10_wins_50 : decode cX10_wins 50 = .ok (.invokevirtual 84, 3) := by decide +kernel
theorem dX10_wins_53 : decode cX10_wins 53 = .ok (.ifCond .ne 5, 3) := by decide +kernel
theorem dX10_wins_56 : decode cX10_wins 56 = .ok (.iconst (-1), 1) := by decide +kernel
theorem dX10_wins_57 : decode cX10_wins 57 = .ok (.ireturn, 1) := by decide +kernel
theorem dX10_wins_58 : decode cX10_wins 58 = .ok (.aload_n 0, 1) := by decide +kernel
theorem dX10_wins_59 : decode cX10_wins 59 = .ok (.getfield 37, 3) := by decide +kernel
theorem dX10_wins_62 : decode cX10_wins 62 = .ok (.aload_n 0, 1) := by decide +kernel
theorem dX10_wins_63 : decode cX10_wins 63 = .ok (.getfield 16, 3) := by decide +kernel
theorem dX10_wins_66 : decode cX10_wins 66 = .ok (.iload 4, 2) := by decide +kernel
theorem dX10_wins_68 : decode cX10_wins 68 = .ok (.invokevirtual 88, 3) := by decide +kernel
theorem dX10_wins_71 : decode cX10_wins 71 = .ok (.aload_n 0, 1) := by decide +kernel
theorem dX10_wins_72 : decode cX10_wins 72 = .ok (.getfield 37, 3) := by decide +kernel
theorem dX10_wins_75 : decode cX10_wins 75 = .ok (.iload_n 1, 1) := by decide +kernel
theorem dX10_wins_76 : decode cX10_wins 76 = .ok (.iload_n 2, 1) := by decide +kernel
theorem dX10_wins_77 : decode cX10_wins 77 = .ok (.iload_n 3, 1) := by decide +kernel
theorem dX10_wins_78 : decode cX10_wins 78 = .ok (.invokevirtual 100, 3) := by decide +kernel
theorem dX10_wins_81 : decode cX10_wins 81 = .ok (.ireturn, 1) := by decide +kernel
theorem dX10_judge_0 : decode cX10_judge 0 = .ok (.aload_n 0, 1) := by decide +kernel
theorem dX10_judge_1 : decode cX10_judge 1 = .ok (.aload_n 0, 1) := by decide +kernel
theorem dX10_judge_2 : decode cX10_judge 2 = .ok (.iload_n 1, 1) := by decide +kernel
theorem dX10_judge_3 : decode cX10_judge 3 = .ok (.iload_n 2, 1) := by decide +kernel
theorem dX10_judge_4 : decode cX10_judge 4 = .ok (.iload 4, 2) := by decide +kernel
theorem dX10_judge_6 : decode cX10_judge 6 = .ok (.invokevirtual 80, 3) := by decide +kernel
theorem dX10_judge_9 : decode cX10_judge 9 = .ok (.iload_n 3, 1) := by decide +kernel
theorem dX10_judge_10 : decode cX10_judge 10 = .ok (.invokevirtual 84, 3) := by decide +kernel
theorem dX10_judge_13 : decode cX10_judge 13 = .ok (.ifCond .ne 5, 3) := by decide +kernel
theorem dX10_judge_16 : decode cX10_judge 16 = .ok (.iconst (-1), 1) := by decide +kernel
theorem dX10_judge_17 : decode cX10_judge 17 = .ok (.ireturn, 1) := by decide +kernel
theorem dX10_judge_18 : decode cX10_judge 18 = .ok (.aload_n 0, 1) := by decide +kernel
theorem dX10_judge_19 : decode cX10_judge 19 = .ok (.getfield 37, 3) := by decide +kernel
theorem dX10_judge_22 : decode cX10_judge 22 = .ok (.aload_n 0, 1) := by decide +kernel
theorem dX10_judge_23 : decode cX10_judge 23 = .ok (.getfield 16, 3) := by decide +kernel
theorem dX10_judge_26 : decode cX10_judge 26 = .ok (.iload 4, 2) := by decide +kernel
theorem dX10_judge_28 : decode cX10_judge 28 = .ok (.invokevirtual 88, 3) := by decide +kernel
theorem dX10_judge_31 : decode cX10_judge 31 = .ok (.aload_n 0, 1) := by decide +kernel
theorem dX10_judge_32 : decode cX10_judge 32 = .ok (.getfield 37, 3) := by decide +kernel
theorem dX10_judge_35 : decode cX10_judge 35 = .ok (.iload_n 1, 1) := by decide +kernel
theorem dX10_judge_36 : decode cX10_judge 36 = .ok (.iload_n 2, 1) := by decide +kernel
theorem dX10_judge_37 : decode cX10_judge 37 = .ok (.iload_n 3, 1) := by decide +kernel
theorem dX10_judge_38 : decode cX10_judge 38 = .ok (.invokevirtual 92, 3) := by decide +kernel
theorem dX10_judge_41 : decode cX10_judge 41 = .ok (.iload 5, 2) := by decide +kernel
theorem dX10_judge_43 : decode cX10_judge 43 = .ok (.if_icmp .ne 7, 3) := by decide +kernel
theorem dX10_judge_46 : decode cX10_judge 46 = .ok (.iconst 1, 1) := by decide +kernel
theorem dX10_judge_47 : decode cX10_judge 47 = .ok (.goto 4, 3) := by decide +kernel
theorem dX10_judge_50 : decode cX10_judge 50 = .ok (.iconst 0, 1) := by decide +kernel
theorem dX10_judge_51 : decode cX10_judge 51 = .ok (.ireturn, 1) := by decide +kernel
theorem dX10_sure_0 : decode cX10_sure 0 = .ok (.aload_n 0, 1) := by decide +kernel
theorem dX10_sure_1 : decode cX10_sure 1 = .ok (.aload_n 0, 1) := by decide +kernel
theorem dX10_sure_2 : decode cX10_sure 2 = .ok (.iload_n 1, 1) := by decide +kernel
theorem dX10_sure_3 : decode cX10_sure 3 = .ok (.iload_n 2, 1) := by decide +kernel
theorem dX10_sure_4 : decode cX10_sure 4 = .ok (.iload 4, 2) := by decide +kernel
theorem dX10_sure_6 : decode cX10_sure 6 = .ok (.invokevirtual 80, 3) := by decide +kernel
theorem dX10_sure_9 : decode cX10_sure 9 = .ok (.iload_n 3, 1) := by decide +kernel
theorem dX10_sure_10 : decode cX10_sure 10 = .ok (.invokevirtual 84, 3) := by decide +kernel
theorem dX10_sure_13 : decode cX10_sure 13 = .ok (.ifCond .ne 5, 3) := by decide +kernel
theorem dX10_sure_16 : decode cX10_sure 16 = .ok (.iconst (-1), 1) := by decide +kernel
theorem dX10_sure_17 : decode cX10_sure 17 = .ok (.ireturn, 1) := by decide +kernel
theorem dX10_sure_18 : decode cX10_sure 18 = .ok (.aload_n 0, 1) := by decide +kernel
theorem dX10_sure_19 : decode cX10_sure 19 = .ok (.getfield 16, 3) := by decide +kernel
theorem dX10_sure_22 : decode cX10_sure 22 = .ok (.invokevirtual 103, 3) := by decide +kernel
theorem dX10_sure_25 : decode cX10_sure 25 = .ok (.sipush 2000, 3) := by decide +kernel
theorem dX10_sure_28 : decode cX10_sure 28 = .ok (.if_icmp .le 9, 3) := by decide +kernel
theorem dX10_sure_31 : decode cX10_sure 31 = .ok (.aload_n 0, 1) := by decide +kernel
theorem dX10_sure_32 : decode cX10_sure 32 = .ok (.iconst 3, 1) := by decide +kernel
theorem dX10_sure_33 : decode cX10_sure 33 = .ok (.invokevirtual 56, 3) := by decide +kernel
theorem dX10_sure_36 : decode cX10_sure 36 = .ok (.ireturn, 1) := by decide +kernel
theorem dX10_sure_37 : decode cX10_sure 37 = .ok (.aload_n 0, 1) := by decide +kernel
theorem dX10_sure_38 : decode cX10_sure 38 = .ok (.getfield 37, 3) := by decide +kernel
theorem dX10_sure_41 : decode cX10_sure 41 = .ok (.aload_n 0, 1) := by decide +kernel
theorem dX10_sure_42 : decode cX10_sure 42 = .ok (.getfield 16, 3) := by decide +kernel
theorem dX10_sure_45 : decode cX10_sure 45 = .ok (.iload 4, 2) := by decide +kernel
theorem dX10_sure_47 : decode cX10_sure 47 = .ok (.invokevirtual 88, 3) := by decide +kernel
theorem dX10_sure_50 : decode cX10_sure 50 = .ok (.aload_n 0, 1) := by decide +kernel
theorem dX10_sure_51 : decode cX10_sure 51 = .ok (.getfield 37, 3) := by decide +kernel
theorem dX10_sure_54 : decode cX10_sure 54 = .ok (.iload_n 1, 1) := by decide +kernel
theorem dX10_sure_55 : decode cX10_sure 55 = .ok (.iload_n 2, 1) := by decide +kernel
theorem dX10_sure_56 : decode cX10_sure 56 = .ok (.iload_n 3, 1) := by decide +kernel
theorem dX10_sure_57 : decode cX10_sure 57 = .ok (.iload 5, 2) := by decide +kernel
theorem dX10_sure_59 : decode cX10_sure 59 = .ok (.invokevirtual 107, 3) := by decide +kernel
theorem dX10_sure_62 : decode cX10_sure 62 = .ok (.ireturn, 1) := by decide +kernel
theorem dX10_force_0 : decode cX10_force 0 = .ok (.aload_n 0, 1) := by decide +kernel
theorem dX10_force_1 : decode cX10_force 1 = .ok (.aload_n 0, 1) := by decide +kernel
theorem dX10_force_2 : decode cX10_force 2 = .ok (.getfield 16, 3) := by decide +kernel
theorem dX10_force_5 : decode cX10_force 5 = .ok (.iload_n 1, 1) := by decide +kernel
theorem dX10_force_6 : decode cX10_force 6 = .ok (.invokevirtual 111, 3) := by decide +kernel
theorem dX10_force_9 : decode cX10_force 9 = .ok (.ifCond .eq 20, 3) := by decide +kernel
theorem dX10_force_12 : decode cX10_force 12 = .ok (.aload_n 0, 1) := by decide +kernel
theorem dX10_force_13 : decode cX10_force 13 = .ok (.getfield 16, 3) := by decide +kernel
theorem dX10_force_16 : decode cX10_force 16 = .ok (.bipush 10, 2) := by decide +kernel
theorem dX10_force_18 : decode cX10_force 18 = .ok (.iload_n 3, 1) := by decide +kernel
theorem dX10_force_19 : decode cX10_force 19 = .ok (.invokevirtual 96, 3) := by decide +kernel
theorem dX10_force_22 : decode cX10_force 22 = .ok (.ifCond .eq 7, 3) := by decide +kernel
theorem dX10_force_25 : decode cX10_force 25 = .ok (.iconst 1, 1) := by decide +kernel
theorem dX10_force_26 : decode cX10_force 26 = .ok (.goto 4, 3) := by decide +kernel
theorem dX10_force_29 : decode cX10_force 29 = .ok (.iconst 0, 1) := by decide +kernel
theorem dX10_force_30 : decode cX10_force 30 = .ok (.iload_n 2, 1) := by decide +kernel
theorem dX10_force_31 : decode cX10_force 31 = .ok (.invokevirtual 84, 3) := by decide +kernel
theorem dX10_force_34 : decode cX10_force 34 = .ok (.ifCond .ne 5, 3) := by decide +kernel
theorem dX10_force_37 : decode cX10_force 37 = .ok (.iconst (-1), 1) := by decide +kernel
theorem dX10_force_38 : decode cX10_force 38 = .ok (.ireturn, 1) := by decide +kernel
theorem dX10_force_39 : decode cX10_force 39 = .ok (.aload_n 0, 1) := by decide +kernel
theorem dX10_force_40 : decode cX10_force 40 = .ok (.getfield 37, 3) := by decide +kernel
theorem dX10_force_43 : decode cX10_force 43 = .ok (.aload_n 0, 1) := by decide +kernel
theorem dX10_force_44 : decode cX10_force 44 = .ok (.getfield 16, 3) := by decide +kernel
theorem dX10_force_47 : decode cX10_force 47 = .ok (.iload_n 3, 1) := by decide +kernel
theorem dX10_force_48 : decode cX10_force 48 = .ok (.invokevirtual 88, 3) := by decide +kernel
theorem dX10_force_51 : decode cX10_force 51 = .ok (.aload_n 0, 1) := by decide +kernel
theorem dX10_force_52 : decode cX10_force 52 = .ok (.getfield 37, 3) := by decide +kernel
theorem dX10_force_55 : decode cX10_force 55 = .ok (.getfield 115, 3) := by decide +kernel
theorem dX10_force_58 : decode cX10_force 58 = .ok (.iload_n 2, 1) := by decide +kernel
theorem dX10_force_59 : decode cX10_force 59 = .ok (.invokevirtual 119, 3) := by decide +kernel
theorem dX10_force_62 : decode cX10_force 62 = .ok (.aload_n 0, 1) := by decide +kernel
theorem dX10_force_63 : decode cX10_force 63 = .ok (.getfield 37, 3) := by decide +kernel
theorem dX10_force_66 : decode cX10_force 66 = .ok (.getfield 115, 3) := by decide +kernel
theorem dX10_force_69 : decode cX10_force 69 = .ok (.getfield 124, 3) := by decide +kernel
theorem dX10_force_72 : decode cX10_force 72 = .ok (.iload_n 1, 1) := by decide +kernel
theorem dX10_force_73 : decode cX10_force 73 = .ok (.baload, 1) := by decide +kernel
theorem dX10_force_74 : decode cX10_force 74 = .ok (.ifCond .eq 7, 3) := by decide +kernel
theorem dX10_force_77 : decode cX10_force 77 = .ok (.iconst 1, 1) := by decide +kernel
theorem dX10_force_78 : decode cX10_force 78 = .ok (.goto 4, 3) := by decide +kernel
theorem dX10_force_81 : decode cX10_force 81 = .ok (.iconst 0, 1) := by decide +kernel
theorem dX10_force_82 : decode cX10_force 82 = .ok (.ireturn, 1) := by decide +kernel
theorem dX10_chain_0 : decode cX10_chain 0 = .ok (.aload_n 0, 1) := by decide +kernel
theorem dX10_chain_1 : decode cX10_chain 1 = .ok (.aload_n 0, 1) := by decide +kernel
theorem dX10_chain_2 : decode cX10_chain 2 = .ok (.getfield 16, 3) := by decide +kernel
theorem dX10_chain_5 : decode cX10_chain 5 = .ok (.iconst 0, 1) := by decide +kernel
theorem dX10_chain_6 : decode cX10_chain 6 = .ok (.iload_n 1, 1) := by decide +kernel
theorem dX10_chain_7 : decode cX10_chain 7 = .ok (.invokevirtual 96, 3) := by decide +kernel
theorem dX10_chain_10 : decode cX10_chain 10 = .ok (.ifCond .eq 20, 3) := by decide +kernel
theorem dX10_chain_13 : decode cX10_chain 13 = .ok (.aload_n 0, 1) := by decide +kernel
theorem dX10_chain_14 : decode cX10_chain 14 = .ok (.getfield 16, 3) := by decide +kernel
theorem dX10_chain_17 : decode cX10_chain 17 = .ok (.bipush 10, 2) := by decide +kernel
theorem dX10_chain_19 : decode cX10_chain 19 = .ok (.iload_n 3, 1) := by decide +kernel
theorem dX10_chain_20 : decode cX10_chain 20 = .ok (.invokevirtual 96, 3) := by decide +kernel
theorem dX10_chain_23 : decode cX10_chain 23 = .ok (.ifCond .eq 7, 3) := by decide +kernel
theorem dX10_chain_26 : decode cX10_chain 26 = .ok (.iconst 1, 1) := by decide +kernel
theorem dX10_chain_27 : decode cX10_chain 27 = .ok (.goto 4, 3) := by decide +kernel
theorem dX10_chain_30 : decode cX10_chain 30 = .ok (.iconst 0, 1) := by decide +kernel
theorem dX10_chain_31 : decode cX10_chain 31 = .ok (.iload_n 2, 1) := by decide +kernel
theorem dX10_chain_32 : decode cX10_chain 32 = .ok (.invokevirtual 84, 3) := by decide +kernel
theorem dX10_chain_35 : decode cX10_chain 35 = .ok (.ifCond .ne 5, 3) := by decide +kernel
theorem dX10_chain_38 : decode cX10_chain 38 = .ok (.iconst (-1), 1) := by decide +kernel
theorem dX10_chain_39 : decode cX10_chain 39 = .ok (.ireturn, 1) := by decide +kernel
theorem dX10_chain_40 : decode cX10_chain 40 = .ok (.aload_n 0, 1) := by decide +kernel
theorem dX10_chain_41 : decode cX10_chain 41 = .ok (.getfield 37, 3) := by decide +kernel
theorem dX10_chain_44 : decode cX10_chain 44 = .ok (.aload_n 0, 1) := by decide +kernel
theorem dX10_chain_45 : decode cX10_chain 45 = .ok (.getfield 16, 3) := by decide +kernel
theorem dX10_chain_48 : decode cX10_chain 48 = .ok (.iload_n 3, 1) := by decide +kernel
theorem dX10_chain_49 : decode cX10_chain 49 = .ok (.invokevirtual 88, 3) := by decide +kernel
theorem dX10_chain_52 : decode cX10_chain 52 = .ok (.aload_n 0, 1) := by decide +kernel
theorem dX10_chain_53 : decode cX10_chain 53 = .ok (.getfield 37, 3) := by decide +kernel
theorem dX10_chain_56 : decode cX10_chain 56 = .ok (.iload_n 1, 1) := by decide +kernel
theorem dX10_chain_57 : decode cX10_chain 57 = .ok (.iload_n 2, 1) := by decide +kernel
theorem dX10_chain_58 : decode cX10_chain 58 = .ok (.invokevirtual 128, 3) := by decide +kernel
theorem dX10_chain_61 : decode cX10_chain 61 = .ok (.astore 5, 2) := by decide +kernel
theorem dX10_chain_63 : decode cX10_chain 63 = .ok (.iload 4, 2) := by decide +kernel
theorem dX10_chain_65 : decode cX10_chain 65 = .ok (.ifCond .lt 15, 3) := by decide +kernel
theorem dX10_chain_68 : decode cX10_chain 68 = .ok (.iload 4, 2) := by decide +kernel
theorem dX10_chain_70 : decode cX10_chain 70 = .ok (.aload 5, 2) := by decide +kernel
theorem dX10_chain_72 : decode cX10_chain 72 = .ok (.getfield 132, 3) := by decide +kernel
theorem dX10_chain_75 : decode cX10_chain 75 = .ok (.iconst 1, 1) := by decide +kernel
theorem dX10_chain_76 : decode cX10_chain 76 = .ok (.isub, 1) := by decide +kernel
theorem dX10_chain_77 : decode cX10_chain 77 = .ok (.if_icmp .lt 9, 3) := by decide +kernel
theorem dX10_chain_80 : decode cX10_chain 80 = .ok (.aload_n 0, 1) := by decide +kernel
theorem dX10_chain_81 : decode cX10_chain 81 = .ok (.iconst 1, 1) := by decide +kernel
theorem dX10_chain_82 : decode cX10_chain 82 = .ok (.invokevirtual 56, 3) := by decide +kernel
theorem dX10_chain_85 : decode cX10_chain 85 = .ok (.ireturn, 1) := by decide +kernel
theorem dX10_chain_86 : decode cX10_chain 86 = .ok (.aload 5, 2) := by decide +kernel
theorem dX10_chain_88 : decode cX10_chain 88 = .ok (.getfield 137, 3) := by decide +kernel
theorem dX10_chain_91 : decode cX10_chain 91 = .ok (.iload 4, 2) := by decide +kernel
theorem dX10_chain_93 : decode cX10_chain 93 = .ok (.iconst 1, 1) := by decide +kernel
theorem dX10_chain_94 : decode cX10_chain 94 = .ok (.iadd, 1) := by decide +kernel
theorem dX10_chain_95 : decode cX10_chain 95 = .ok (.iaload, 1) := by decide +kernel
theorem dX10_chain_96 : decode cX10_chain 96 = .ok (.ireturn, 1) := by decide +kernel
theorem dX10_ring_0 : decode cX10_ring 0 = .ok (.aload_n 0, 1) := by decide +kernel
theorem dX10_ring_1 : decode cX10_ring 1 = .ok (.aload_n 0, 1) := by decide +kernel
theorem dX10_ring_2 : decode cX10_ring 2 = .ok (.getfield 16, 3) := by decide +kernel
theorem dX10_ring_5 : decode cX10_ring 5 = .ok (.iconst 0, 1) := by decide +kernel
theorem dX10_ring_6 : decode cX10_ring 6 = .ok (.iload_n 1, 1) := by decide +kernel
theorem dX10_ring_7 : decode cX10_ring 7 = .ok (.invokevirtual 96, 3) := by decide +kernel
theorem dX10_ring_10 : decode cX10_ring 10 = .ok (.ifCond .eq 20, 3) := by decide +kernel
theorem dX10_ring_13 : decode cX10_ring 13 = .ok (.aload_n 0, 1) := by decide +kernel
theorem dX10_ring_14 : decode cX10_ring 14 = .ok (.getfield 16, 3) := by decide +kernel
theorem dX10_ring_17 : decode cX10_ring 17 = .ok (.bipush 10, 2) := by decide +kernel
theorem dX10_ring_19 : decode cX10_ring 19 = .ok (.iload_n 3, 1) := by decide +kernel
theorem dX10_ring_20 : decode cX10_ring 20 = .ok (.invokevirtual 96, 3) := by decide +kernel
theorem dX10_ring_23 : decode cX10_ring 23 = .ok (.ifCond .eq 7, 3) := by decide +kernel
theorem dX10_ring_26 : decode cX10_ring 26 = .ok (.iconst 1, 1) := by decide +kernel
theorem dX10_ring_27 : decode cX10_ring 27 = .ok (.goto 4, 3) := by decide +kernel
theorem dX10_ring_30 : decode cX10_ring 30 = .ok (.iconst 0, 1) := by decide +kernel
theorem dX10_ring_31 : decode cX10_ring 31 = .ok (.iload_n 2, 1) := by decide +kernel
theorem dX10_ring_32 : decode cX10_ring 32 = .ok (.invokevirtual 84, 3) := by decide +kernel
theorem dX10_ring_35 : decode cX10_ring 35 = .ok (.ifCond .ne 5, 3) := by decide +kernel
theorem dX10_ring_38 : decode cX10_ring 38 = .ok (.iconst (-1), 1) := by decide +kernel
theorem dX10_ring_39 : decode cX10_ring 39 = .ok (.ireturn, 1) := by decide +kernel
theorem dX10_ring_40 : decode cX10_ring 40 = .ok (.aload_n 0, 1) := by decide +kernel
theorem dX10_ring_41 : decode cX10_ring 41 = .ok (.getfield 37, 3) := by decide +kernel
theorem dX10_ring_44 : decode cX10_ring 44 = .ok (.aload_n 0, 1) := by decide +kernel
theorem dX10_ring_45 : decode cX10_ring 45 = .ok (.getfield 16, 3) := by decide +kernel
theorem dX10_ring_48 : decode cX10_ring 48 = .ok (.iload_n 3, 1) := by decide +kernel
theorem dX10_ring_49 : decode cX10_ring 49 = .ok (.invokevirtual 88, 3) := by decide +kernel
theorem dX10_ring_52 : decode cX10_ring 52 = .ok (.aload_n 0, 1) := by decide +kernel
theorem dX10_ring_53 : decode cX10_ring 53 = .ok (.getfield 37, 3) := by decide +kernel
theorem dX10_ring_56 : decode cX10_ring 56 = .ok (.iload_n 1, 1) := by decide +kernel
theorem dX10_ring_57 : decode cX10_ring 57 = .ok (.iload_n 2, 1) := by decide +kernel
theorem dX10_ring_58 : decode cX10_ring 58 = .ok (.invokevirtual 128, 3) := by decide +kernel
theorem dX10_ring_61 : decode cX10_ring 61 = .ok (.astore 4, 2) := by decide +kernel
theorem dX10_ring_63 : decode cX10_ring 63 = .ok (.aload 4, 2) := by decide +kernel
theorem dX10_ring_65 : decode cX10_ring 65 = .ok (.aload_n 0, 1) := by decide +kernel
theorem dX10_ring_66 : decode cX10_ring 66 = .ok (.getfield 37, 3) := by decide +kernel
theorem dX10_ring_69 : decode cX10_ring 69 = .ok (.getfield 115, 3) := by decide +kernel
theorem dX10_ring_72 : decode cX10_ring 72 = .ok (.iload_n 1, 1) := by decide +kernel
theorem dX10_ring_73 : decode cX10_ring 73 = .ok (.invokevirtual 140, 3) := by decide +kernel
theorem dX10_ring_76 : decode cX10_ring 76 = .ok (.ifCond .eq 7, 3) := by decide +kernel
theorem dX10_ring_79 : decode cX10_ring 79 = .ok (.iconst 1, 1) := by decide +kernel
theorem dX10_ring_80 : decode cX10_ring 80 = .ok (.goto 4, 3) := by decide +kernel
theorem dX10_ring_83 : decode cX10_ring 83 = .ok (.iconst 0, 1) := by decide +kernel
theorem dX10_ring_84 : decode cX10_ring 84 = .ok (.ireturn, 1) := by decide +kernel
theorem dX10_way_0 : decode cX10_way 0 = .ok (.aload_n 0, 1) := by decide +kernel
theorem dX10_way_1 : decode cX10_way 1 = .ok (.aload_n 0, 1) := by decide +kernel
theorem dX10_way_2 : decode cX10_way 2 = .ok (.getfield 16, 3) := by decide +kernel
theorem dX10_way_5 : decode cX10_way 5 = .ok (.bipush 11, 2) := by decide +kernel
theorem dX10_way_7 : decode cX10_way 7 = .ok (.iload_n 1, 1) := by decide +kernel
theorem dX10_way_8 : decode cX10_way 8 = .ok (.invokevirtual 96, 3) := by decide +kernel
theorem dX10_way_11 : decode cX10_way 11 = .ok (.ifCond .eq 20, 3) := by decide +kernel
theorem dX10_way_14 : decode cX10_way 14 = .ok (.aload_n 0, 1) := by decide +kernel
theorem dX10_way_15 : decode cX10_way 15 = .ok (.getfield 16, 3) := by decide +kernel
theorem dX10_way_18 : decode cX10_way 18 = .ok (.bipush 10, 2) := by decide +kernel
theorem dX10_way_20 : decode cX10_way 20 = .ok (.iload_n 2, 1) := by decide +kernel
theorem dX10_way_21 : decode cX10_way 21 = .ok (.invokevirtual 96, 3) := by decide +kernel
theorem dX10_way_24 : decode cX10_way 24 = .ok (.ifCond .eq 7, 3) := by decide +kernel
theorem dX10_way_27 : decode cX10_way 27 = .ok (.iconst 1, 1) := by decide +kernel
theorem dX10_way_28 : decode cX10_way 28 = .ok (.goto 4, 3) := by decide +kernel
theorem dX10_way_31 : decode cX10_way 31 = .ok (.iconst 0, 1) := by decide +kernel
theorem dX10_way_32 : decode cX10_way 32 = .ok (.iconst 0, 1) := by decide +kernel
theorem dX10_way_33 : decode cX10_way 33 = .ok (.invokevirtual 84, 3) := by decide +kernel
theorem dX10_way_36 : decode cX10_way 36 = .ok (.ifCond .ne 5, 3) := by decide +kernel
theorem dX10_way_39 : decode cX10_way 39 = .ok (.iconst (-1), 1) := by decide +kernel
theorem dX10_way_40 : decode cX10_way 40 = .ok (.ireturn, 1) := by decide +kernel
theorem dX10_way_41 : decode cX10_way 41 = .ok (.aload_n 0, 1) := by decide +kernel
theorem dX10_way_42 : decode cX10_way 42 = .ok (.getfield 37, 3) := by decide +kernel
theorem dX10_way_45 : decode cX10_way 45 = .ok (.aload_n 0, 1) := by decide +kernel
theorem dX10_way_46 : decode cX10_way 46 = .ok (.getfield 16, 3) := by decide +kernel
theorem dX10_way_49 : decode cX10_way 49 = .ok (.iload_n 2, 1) := by decide +kernel
theorem dX10_way_50 : decode cX10_way 50 = .ok (.invokevirtual 88, 3) := by decide +kernel
theorem dX10_way_53 : decode cX10_way 53 = .ok (.aload_n 0, 1) := by decide +kernel
theorem dX10_way_54 : decode cX10_way 54 = .ok (.getfield 37, 3) := by decide +kernel
theorem dX10_way_57 : decode cX10_way 57 = .ok (.iload_n 1, 1) := by decide +kernel
theorem dX10_way_58 : decode cX10_way 58 = .ok (.invokevirtual 144, 3) := by decide +kernel
theorem dX10_way_61 : decode cX10_way 61 = .ok (.istore_n 3, 1) := by decide +kernel
theorem dX10_way_62 : decode cX10_way 62 = .ok (.iload_n 3, 1) := by decide +kernel
theorem dX10_way_63 : decode cX10_way 63 = .ok (.ifCond .ge 10, 3) := by decide +kernel
theorem dX10_way_66 : decode cX10_way 66 = .ok (.aload_n 0, 1) := by decide +kernel
theorem dX10_way_67 : decode cX10_way 67 = .ok (.bipush 6, 2) := by decide +kernel
theorem dX10_way_69 : decode cX10_way 69 = .ok (.invokevirtual 56, 3) := by decide +kernel
theorem dX10_way_72 : decode cX10_way 72 = .ok (.ireturn, 1) := by decide +kernel
theorem dX10_way_73 : decode cX10_way 73 = .ok (.aload_n 0, 1) := by decide +kernel
theorem dX10_way_74 : decode cX10_way 74 = .ok (.getfield 44, 3) := by decide +kernel
theorem dX10_way_77 : decode cX10_way 77 = .ok (.aload_n 0, 1) := by decide +kernel
theorem dX10_way_78 : decode cX10_way 78 = .ok (.getfield 16, 3) := by decide +kernel
theorem dX10_way_81 : decode cX10_way 81 = .ok (.aload_n 0, 1) := by decide +kernel
theorem dX10_way_82 : decode cX10_way 82 = .ok (.getfield 37, 3) := by decide +kernel
theorem dX10_way_85 : decode cX10_way 85 = .ok (.getfield 147, 3) := by decide +kernel
theorem dX10_way_88 : decode cX10_way 88 = .ok (.aload_n 0, 1) := by decide +kernel
theorem dX10_way_89 : decode cX10_way 89 = .ok (.getfield 16, 3) := by decide +kernel
theorem dX10_way_92 : decode cX10_way 92 = .ok (.iload_n 1, 1) := by decide +kernel
theorem dX10_way_93 : decode cX10_way 93 = .ok (.iconst 4, 1) := by decide +kernel
theorem dX10_way_94 : decode cX10_way 94 = .ok (.invokevirtual 151, 3) := by decide +kernel
theorem dX10_way_97 : decode cX10_way 97 = .ok (.aload_n 0, 1) := by decide +kernel
theorem dX10_way_98 : decode cX10_way 98 = .ok (.getfield 16, 3) := by decide +kernel
theorem dX10_way_101 : decode cX10_way 101 = .ok (.iload_n 1, 1) := by decide +kernel
theorem dX10_way_102 : decode cX10_way 102 = .ok (.iconst 5, 1) := by decide +kernel
theorem dX10_way_103 : decode cX10_way 103 = .ok (.invokevirtual 151, 3) := by decide +kernel
theorem dX10_way_106 : decode cX10_way 106 = .ok (.invokevirtual 155, 3) := by decide +kernel
theorem dX10_way_109 : decode cX10_way 109 = .ok (.iload_n 3, 1) := by decide +kernel
theorem dX10_way_110 : decode cX10_way 110 = .ok (.ireturn, 1) := by decide +kernel
theorem dX10_stop_0 : decode cX10_stop 0 = .ok (.iload_n 1, 1) := by decide +kernel
theorem dX10_stop_1 : decode cX10_stop 1 = .ok (.ifCond .lt 26, 3) := by decide +kernel
theorem dX10_stop_4 : decode cX10_stop 4 = .ok (.iload_n 1, 1) := by decide +kernel
theorem dX10_stop_5 : decode cX10_stop 5 = .ok (.aload_n 0, 1) := by decide +kernel
theorem dX10_stop_6 : decode cX10_stop 6 = .ok (.getfield 44, 3) := by decide +kernel
theorem dX10_stop_9 : decode cX10_stop 9 = .ok (.getfield 159, 3) := by decide +kernel
theorem dX10_stop_12 : decode cX10_stop 12 = .ok (.if_icmp .ge 15, 3) := by decide +kernel
theorem dX10_stop_15 : decode cX10_stop 15 = .ok (.aload_n 0, 1) := by decide +kernel
theorem dX10_stop_16 : decode cX10_stop 16 = .ok (.getfield 44, 3) := by decide +kernel
theorem dX10_stop_19 : decode cX10_stop 19 = .ok (.getfield 162, 3) := by decide +kernel
theorem dX10_stop_22 : decode cX10_stop 22 = .ok (.iload_n 1, 1) := by decide +kernel
theorem dX10_stop_23 : decode cX10_stop 23 = .ok (.iaload, 1) := by decide +kernel
theorem dX10_stop_24 : decode cX10_stop 24 = .ok (.goto 4, 3) := by decide +kernel
theorem dX10_stop_27 : decode cX10_stop 27 = .ok (.iconst (-1), 1) := by decide +kernel
theorem dX10_stop_28 : decode cX10_stop 28 = .ok (.ireturn, 1) := by decide +kernel
theorem dX10_length_0 : decode cX10_length 0 = .ok (.aload_n 0, 1) := by decide +kernel
theorem dX10_length_1 : decode cX10_length 1 = .ok (.getfield 44, 3) := by decide +kernel
theorem dX10_length_4 : decode cX10_length 4 = .ok (.getfield 159, 3) := by decide +kernel
theorem dX10_length_7 : decode cX10_length 7 = .ok (.ifCond .le 13, 3) := by decide +kernel
theorem dX10_length_10 : decode cX10_length 10 = .ok (.aload_n 0, 1) := by decide +kernel
theorem dX10_length_11 : decode cX10_length 11 = .ok (.getfield 44, 3) := by decide +kernel
theorem dX10_length_14 : decode cX10_length 14 = .ok (.getfield 165, 3) := by decide +kernel
theorem dX10_length_17 : decode cX10_length 17 = .ok (.goto 4, 3) := by decide +kernel
theorem dX10_length_20 : decode cX10_length 20 = .ok (.iconst (-1), 1) := by decide +kernel
theorem dX10_length_21 : decode cX10_length 21 = .ok (.ireturn, 1) := by decide +kernel
theorem dX10_partner_0 : decode cX10_partner 0 = .ok (.aload_n 0, 1) := by decide +kernel
theorem dX10_partner_1 : decode cX10_partner 1 = .ok (.aload_n 0, 1) := by decide +kernel
theorem dX10_partner_2 : decode cX10_partner 2 = .ok (.getfield 16, 3) := by decide +kernel
theorem dX10_partner_5 : decode cX10_partner 5 = .ok (.bipush 11, 2) := by decide +kernel
theorem dX10_partner_7 : decode cX10_partner 7 = .ok (.iload_n 1, 1) := by decide +kernel
theorem dX10_partner_8 : decode cX10_partner 8 = .ok (.invokevirtual 96, 3) := by decide +kernel
theorem dX10_partner_11 : decode cX10_partner 11 = .ok (.ifCond .eq 20, 3) := by decide +kernel
theorem dX10_partner_14 : decode cX10_partner 14 = .ok (.aload_n 0, 1) := by decide +kernel
theorem dX10_partner_15 : decode cX10_partner 15 = .ok (.getfield 16, 3) := by decide +kernel
theorem dX10_partner_18 : decode cX10_partner 18 = .ok (.bipush 10, 2) := by decide +kernel
theorem dX10_partner_20 : decode cX10_partner 20 = .ok (.iload_n 2, 1) := by decide +kernel
theorem dX10_partner_21 : decode cX10_partner 21 = .ok (.invokevirtual 96, 3) := by decide +kernel
theorem dX10_partner_24 : decode cX10_partner 24 = .ok (.ifCond .eq 7, 3) := by decide +kernel
theorem dX10_partner_27 : decode cX10_partner 27 = .ok (.iconst 1, 1) := by decide +kernel
theorem dX10_partner_28 : decode cX10_partner 28 = .ok (.goto 4, 3) := by decide +kernel
theorem dX10_partner_31 : decode cX10_partner 31 = .ok (.iconst 0, 1) := by decide +kernel
theorem dX10_partner_32 : decode cX10_partner 32 = .ok (.iconst 0, 1) := by decide +kernel
theorem dX10_partner_33 : decode cX10_partner 33 = .ok (.invokevirtual 84, 3) := by decide +kernel
theorem dX10_partner_36 : decode cX10_partner 36 = .ok (.ifCond .ne 5, 3) := by decide +kernel
theorem dX10_partner_39 : decode cX10_partner 39 = .ok (.iconst (-1), 1) := by decide +kernel
theorem dX10_partner_40 : decode cX10_partner 40 = .ok (.ireturn, 1) := by decide +kernel
theorem dX10_partner_41 : decode cX10_partner 41 = .ok (.aload_n 0, 1) := by decide +kernel
theorem dX10_partner_42 : decode cX10_partner 42 = .ok (.getfield 37, 3) := by decide +kernel
theorem dX10_partner_45 : decode cX10_partner 45 = .ok (.aload_n 0, 1) := by decide +kernel
theorem dX10_partner_46 : decode cX10_partner 46 = .ok (.getfield 16, 3) := by decide +kernel
theorem dX10_partner_49 : decode cX10_partner 49 = .ok (.iload_n 2, 1) := by decide +kernel
theorem dX10_partner_50 : decode cX10_partner 50 = .ok (.invokevirtual 88, 3) := by decide +kernel
theorem dX10_partner_53 : decode cX10_partner 53 = .ok (.aload_n 0, 1) := by decide +kernel
theorem dX10_partner_54 : decode cX10_partner 54 = .ok (.getfield 37, 3) := by decide +kernel
theorem dX10_partner_57 : decode cX10_partner 57 = .ok (.iload_n 1, 1) := by decide +kernel
theorem dX10_partner_58 : decode cX10_partner 58 = .ok (.invokevirtual 168, 3) := by decide +kernel
theorem dX10_partner_61 : decode cX10_partner 61 = .ok (.istore_n 3, 1) := by decide +kernel
theorem dX10_partner_62 : decode cX10_partner 62 = .ok (.iload_n 3, 1) := by decide +kernel
theorem dX10_partner_63 : decode cX10_partner 63 = .ok (.ifCond .ge 12, 3) := by decide +kernel
theorem dX10_partner_66 : decode cX10_partner 66 = .ok (.aload_n 0, 1) := by decide +kernel
theorem dX10_partner_67 : decode cX10_partner 67 = .ok (.bipush 6, 2) := by decide +kernel
theorem dX10_partner_69 : decode cX10_partner 69 = .ok (.invokevirtual 56, 3) := by decide +kernel
theorem dX10_partner_72 : decode cX10_partner 72 = .ok (.goto 4, 3) := by decide +kernel
theorem dX10_partner_75 : decode cX10_partner 75 = .ok (.iload_n 3, 1) := by decide +kernel
theorem dX10_partner_76 : decode cX10_partner 76 = .ok (.ireturn, 1) := by decide +kernel
theorem dX10_saves_0 : decode cX10_saves 0 = .ok (.aload_n 0, 1) := by decide +kernel
theorem dX10_saves_1 : decode cX10_saves 1 = .ok (.aload_n 0, 1) := by decide +kernel
theorem dX10_saves_2 : decode cX10_saves 2 = .ok (.getfield 16, 3) := by decide +kernel
theorem dX10_saves_5 : decode cX10_saves 5 = .ok (.bipush 11, 2) := by decide +kernel
theorem dX10_saves_7 : decode cX10_saves 7 = .ok (.iload_n 1, 1) := by decide +kernel
theorem dX10_saves_8 : decode cX10_saves 8 = .ok (.invokevirtual 96, 3) := by decide +kernel
theorem dX10_saves_11 : decode cX10_saves 11 = .ok (.ifCond .eq 32, 3) := by decide +kernel
theorem dX10_saves_14 : decode cX10_saves 14 = .ok (.aload_n 0, 1) := by decide +kernel
theorem dX10_saves_15 : decode cX10_saves 15 = .ok (.getfield 16, 3) := by decide +kernel
theorem dX10_saves_18 : decode cX10_saves 18 = .ok (.iconst 0, 1) := by decide +kernel
theorem dX10_saves_19 : decode cX10_saves 19 = .ok (.iload_n 2, 1) := by decide +kernel
theorem dX10_saves_20 : decode cX10_saves 20 = .ok (.invokevirtual 96, 3) := by decide +kernel
theorem dX10_saves_23 : decode cX10_saves 23 = .ok (.ifCond .eq 20, 3) := by decide +kernel
theorem dX10_saves_26 : decode cX10_saves 26 = .ok (.aload_n 0, 1) := by decide +kernel
theorem dX10_saves_27 : decode cX10_saves 27 = .ok (.getfield 16, 3) := by decide +kernel
theorem dX10_saves_30 : decode cX10_saves 30 = .ok (.bipush 10, 2) := by decide +kernel
theorem dX10_saves_32 : decode cX10_saves 32 = .ok (.iload_n 3, 1) := by decide +kernel
theorem dX10_saves_33 : decode cX10_saves 33 = .ok (.invokevirtual 96, 3) := by decide +kernel
theorem dX10_saves_36 : decode cX10_saves 36 = .ok (.ifCond .eq 7, 3) := by decide +kernel
theorem dX10_saves_39 : decode cX10_saves 39 = .ok (.iconst 1, 1) := by decide +kernel
theorem dX10_saves_40 : decode cX10_saves 40 = .ok (.goto 4, 3) := by decide +kernel
theorem dX10_saves_43 : decode cX10_saves 43 = .ok (.iconst 0, 1) := by decide +kernel
theorem dX10_saves_44 : decode cX10_saves 44 = .ok (.iconst 0, 1) := by decide +kernel
theorem dX10_saves_45 : decode cX10_saves 45 = .ok (.invokevirtual 84, 3) := by decide +kernel
theorem dX10_saves_48 : decode cX10_saves 48 = .ok (.ifCond .ne 6, 3) := by decide +kernel
theorem dX10_saves_51 : decode cX10_saves 51 = .ok (.ldc 171, 2) := by decide +kernel
theorem dX10_saves_53 : decode cX10_saves 53 = .ok (.ireturn, 1) := by decide +kernel
theorem dX10_saves_54 : decode cX10_saves 54 = .ok (.aload_n 0, 1) := by decide +kernel
theorem dX10_saves_55 : decode cX10_saves 55 = .ok (.getfield 37, 3) := by decide +kernel
theorem dX10_saves_58 : decode cX10_saves 58 = .ok (.aload_n 0, 1) := by decide +kernel
theorem dX10_saves_59 : decode cX10_saves 59 = .ok (.getfield 16, 3) := by decide +kernel
theorem dX10_saves_62 : decode cX10_saves 62 = .ok (.iload_n 3, 1) := by decide +kernel
theorem dX10_saves_63 : decode cX10_saves 63 = .ok (.invokevirtual 88, 3) := by decide +kernel
theorem dX10_saves_66 : decode cX10_saves 66 = .ok (.aload_n 0, 1) := by decide +kernel
theorem dX10_saves_67 : decode cX10_saves 67 = .ok (.getfield 37, 3) := by decide +kernel
theorem dX10_saves_70 : decode cX10_saves 70 = .ok (.iload_n 1, 1) := by decide +kernel
theorem dX10_saves_71 : decode cX10_saves 71 = .ok (.invokevirtual 144, 3) := by decide +kernel
theorem dX10_saves_74 : decode cX10_saves 74 = .ok (.istore 4, 2) := by decide +kernel
theorem dX10_saves_76 : decode cX10_saves 76 = .ok (.iload 4, 2) := by decide +kernel
theorem dX10_saves_78 : decode cX10_saves 78 = .ok (.ifCond .ge 13, 3) := by decide +kernel
theorem dX10_saves_81 : decode cX10_saves 81 = .ok (.aload_n 0, 1) := by decide +kernel
theorem dX10_saves_82 : decode cX10_saves 82 = .ok (.bipush 6, 2) := by decide +kernel
theorem dX10_saves_84 : decode cX10_saves 84 = .ok (.invokevirtual 56, 3) := by decide +kernel
theorem dX10_saves_87 : decode cX10_saves 87 = .ok (.pop, 1) := by decide +kernel
theorem dX10_saves_88 : decode cX10_saves 88 = .ok (.ldc 171, 2) := by decide +kernel
theorem dX10_saves_90 : decode cX10_saves 90 = .ok (.ireturn, 1) := by decide +kernel
theorem dX10_saves_91 : decode cX10_saves 91 = .ok (.iload 4, 2) := by decide +kernel
theorem dX10_saves_93 : decode cX10_saves 93 = .ok (.aload_n 0, 1) := by decide +kernel
theorem dX10_saves_94 : decode cX10_saves 94 = .ok (.getfield 37, 3) := by decide +kernel
theorem dX10_saves_97 : decode cX10_saves 97 = .ok (.iload_n 1, 1) := by decide +kernel
theorem dX10_saves_98 : decode cX10_saves 98 = .ok (.iload_n 2, 1) := by decide +kernel
theorem dX10_saves_99 : decode cX10_saves 99 = .ok (.iconst 0, 1) := by decide +kernel
theorem dX10_saves_100 : decode cX10_saves 100 = .ok (.invokevirtual 172, 3) := by decide +kernel
theorem dX10_saves_103 : decode cX10_saves 103 = .ok (.isub, 1) := by decide +kernel
theorem dX10_saves_104 : decode cX10_saves 104 = .ok (.ireturn, 1) := by decide +kernel
theorem dX10_coin_0 : decode cX10_coin 0 = .ok (.aload_n 0, 1) := by decide +kernel
theorem dX10_coin_1 : decode cX10_coin 1 = .ok (.aload_n 0, 1) := by decide +kernel
theorem dX10_coin_2 : decode cX10_coin 2 = .ok (.getfield 16, 3) := by decide +kernel
theorem dX10_coin_5 : decode cX10_coin 5 = .ok (.bipush 10, 2) := by decide +kernel
theorem dX10_coin_7 : decode cX10_coin 7 = .ok (.iload_n 1, 1) := by decide +kernel
theorem dX10_coin_8 : decode cX10_coin 8 = .ok (.invokevirtual 96, 3) := by decide +kernel
theorem dX10_coin_11 : decode cX10_coin 11 = .ok (.iconst 0, 1) := by decide +kernel
theorem dX10_coin_12 : decode cX10_coin 12 = .ok (.invokevirtual 84, 3) := by decide +kernel
theorem dX10_coin_15 : decode cX10_coin 15 = .ok (.ifCond .ne 5, 3) := by decide +kernel
theorem dX10_coin_18 : decode cX10_coin 18 = .ok (.iconst (-1), 1) := by decide +kernel
theorem dX10_coin_19 : decode cX10_coin 19 = .ok (.ireturn, 1) := by decide +kernel
theorem dX10_coin_20 : decode cX10_coin 20 = .ok (.aload_n 0, 1) := by decide +kernel
theorem dX10_coin_21 : decode cX10_coin 21 = .ok (.getfield 37, 3) := by decide +kernel
theorem dX10_coin_24 : decode cX10_coin 24 = .ok (.aload_n 0, 1) := by decide +kernel
theorem dX10_coin_25 : decode cX10_coin 25 = .ok (.getfield 16, 3) := by decide +kernel
theorem dX10_coin_28 : decode cX10_coin 28 = .ok (.iload_n 1, 1) := by decide +kernel
theorem dX10_coin_29 : decode cX10_coin 29 = .ok (.invokevirtual 88, 3) := by decide +kernel
theorem dX10_coin_32 : decode cX10_coin 32 = .ok (.aload_n 0, 1) := by decide +kernel
theorem dX10_coin_33 : decode cX10_coin 33 = .ok (.getfield 37, 3) := by decide +kernel
theorem dX10_coin_36 : decode cX10_coin 36 = .ok (.invokevirtual 175, 3) := by decide +kernel
theorem dX10_coin_39 : decode cX10_coin 39 = .ok (.ireturn, 1) := by decide +kernel
theorem dX10_worth_0 : decode cX10_worth 0 = .ok (.aload_n 0, 1) := by decide +kernel
theorem dX10_worth_1 : decode cX10_worth 1 = .ok (.aload_n 0, 1) := by decide +kernel
theorem dX10_worth_2 : decode cX10_worth 2 = .ok (.getfield 16, 3) := by decide +kernel
theorem dX10_worth_5 : decode cX10_worth 5 = .ok (.iload_n 1, 1) := by decide +kernel
theorem dX10_worth_6 : decode cX10_worth 6 = .ok (.invokevirtual 111, 3) := by decide +kernel
theorem dX10_worth_9 : decode cX10_worth 9 = .ok (.ifCond .eq 20, 3) := by decide +kernel
theorem dX10_worth_12 : decode cX10_worth 12 = .ok (.aload_n 0, 1) := by decide +kernel
theorem dX10_worth_13 : decode cX10_worth 13 = .ok (.getfield 16, 3) := by decide +kernel
theorem dX10_worth_16 : decode cX10_worth 16 = .ok (.bipush 10, 2) := by decide +kernel
theorem dX10_worth_18 : decode cX10_worth 18 = .ok (.iload_n 2, 1) := by decide +kernel
theorem dX10_worth_19 : decode cX10_worth 19 = .ok (.invokevirtual 96, 3) := by decide +kernel
theorem dX10_worth_22 : decode cX10_worth 22 = .ok (.ifCond .eq 7, 3) := by decide +kernel
theorem dX10_worth_25 : decode cX10_worth 25 = .ok (.iconst 1, 1) := by decide +kernel
theorem dX10_worth_26 : decode cX10_worth 26 = .ok (.goto 4, 3) := by decide +kernel
theorem dX10_worth_29 : decode cX10_worth 29 = .ok (.iconst 0, 1) := by decide +kernel
theorem dX10_worth_30 : decode cX10_worth 30 = .ok (.iconst 0, 1) := by decide +kernel
theorem dX10_worth_31 : decode cX10_worth 31 = .ok (.invokevirtual 84, 3) := by decide +kernel
theorem dX10_worth_34 : decode cX10_worth 34 = .ok (.ifCond .ne 6, 3) := by decide +kernel
theorem dX10_worth_37 : decode cX10_worth 37 = .ok (.ldc 171, 2) := by decide +kernel
theorem dX10_worth_39 : decode cX10_worth 39 = .ok (.ireturn, 1) := by decide +kernel
theorem dX10_worth_40 : decode cX10_worth 40 = .ok (.aload_n 0, 1) := by decide +kernel
theorem dX10_worth_41 : decode cX10_worth 41 = .ok (.getfield 37, 3) := by decide +kernel
theorem dX10_worth_44 : decode cX10_worth 44 = .ok (.aload_n 0, 1) := by decide +kernel
theorem dX10_worth_45 : decode cX10_worth 45 = .ok (.getfield 16, 3) := by decide +kernel
theorem dX10_worth_48 : decode cX10_worth 48 = .ok (.iload_n 2, 1) := by decide +kernel
theorem dX10_worth_49 : decode cX10_worth 49 = .ok (.invokevirtual 88, 3) := by decide +kernel
theorem dX10_worth_52 : decode cX10_worth 52 = .ok (.aload_n 0, 1) := by decide +kernel
theorem dX10_worth_53 : decode cX10_worth 53 = .ok (.getfield 37, 3) := by decide +kernel
theorem dX10_worth_56 : decode cX10_worth 56 = .ok (.invokevirtual 175, 3) := by decide +kernel
theorem dX10_worth_59 : decode cX10_worth 59 = .ok (.istore_n 3, 1) := by decide +kernel
theorem dX10_worth_60 : decode cX10_worth 60 = .ok (.aload_n 0, 1) := by decide +kernel
theorem dX10_worth_61 : decode cX10_worth 61 = .ok (.getfield 37, 3) := by decide +kernel
theorem dX10_worth_64 : decode cX10_worth 64 = .ok (.getfield 115, 3) := by decide +kernel
theorem dX10_worth_67 : decode cX10_worth 67 = .ok (.getfield 178, 3) := by decide +kernel
theorem dX10_worth_70 : decode cX10_worth 70 = .ok (.iload_n 1, 1) := by decide +kernel
theorem dX10_worth_71 : decode cX10_worth 71 = .ok (.iconst 1, 1) := by decide +kernel
theorem dX10_worth_72 : decode cX10_worth 72 = .ok (.iastore, 1) := by decide +kernel
theorem dX10_worth_73 : decode cX10_worth 73 = .ok (.aload_n 0, 1) := by decide +kernel
theorem dX10_worth_74 : decode cX10_worth 74 = .ok (.getfield 37, 3) := by decide +kernel
theorem dX10_worth_77 : decode cX10_worth 77 = .ok (.invokevirtual 175, 3) := by decide +kernel
theorem dX10_worth_80 : decode cX10_worth 80 = .ok (.iload_n 3, 1) := by decide +kernel
theorem dX10_worth_81 : decode cX10_worth 81 = .ok (.isub, 1) := by decide +kernel
theorem dX10_worth_82 : decode cX10_worth 82 = .ok (.ireturn, 1) := by decide +kernel
theorem dX10_hangs_0 : decode cX10_hangs 0 = .ok (.aload_n 0, 1) := by decide +kernel
theorem dX10_hangs_1 : decode cX10_hangs 1 = .ok (.aload_n 0, 1) := by decide +kernel
theorem dX10_hangs_2 : decode cX10_hangs 2 = .ok (.getfield 16, 3) := by decide +kernel
theorem dX10_hangs_5 : decode cX10_hangs 5 = .ok (.bipush 10, 2) := by decide +kernel
theorem dX10_hangs_7 : decode cX10_hangs 7 = .ok (.iload_n 1, 1) := by decide +kernel
theorem dX10_hangs_8 : decode cX10_hangs 8 = .ok (.invokevirtual 96, 3) := by decide +kernel
theorem dX10_hangs_11 : decode cX10_hangs 11 = .ok (.iconst 0, 1) := by decide +kernel
theorem dX10_hangs_12 : decode cX10_hangs 12 = .ok (.invokevirtual 84, 3) := by decide +kernel
theorem dX10_hangs_15 : decode cX10_hangs 15 = .ok (.ifCond .ne 5, 3) := by decide +kernel
theorem dX10_hangs_18 : decode cX10_hangs 18 = .ok (.iconst (-1), 1) := by decide +kernel
theorem dX10_hangs_19 : decode cX10_hangs 19 = .ok (.ireturn, 1) := by decide +kernel
theorem dX10_hangs_20 : decode cX10_hangs 20 = .ok (.aload_n 0, 1) := by decide +kernel
theorem dX10_hangs_21 : decode cX10_hangs 21 = .ok (.getfield 37, 3) := by decide +kernel
theorem dX10_hangs_24 : decode cX10_hangs 24 = .ok (.aload_n 0, 1) := by decide +kernel
theorem dX10_hangs_25 : decode cX10_hangs 25 = .ok (.getfield 16, 3) := by decide +kernel
theorem dX10_hangs_28 : decode cX10_hangs 28 = .ok (.iload_n 1, 1) := by decide +kernel
theorem dX10_hangs_29 : decode cX10_hangs 29 = .ok (.invokevirtual 88, 3) := by decide +kernel
theorem dX10_hangs_32 : decode cX10_hangs 32 = .ok (.aload_n 0, 1) := by decide +kernel
theorem dX10_hangs_33 : decode cX10_hangs 33 = .ok (.getfield 37, 3) := by decide +kernel
theorem dX10_hangs_36 : decode cX10_hangs 36 = .ok (.invokevirtual 181, 3) := by decide +kernel
theorem dX10_hangs_39 : decode cX10_hangs 39 = .ok (.istore_n 2, 1) := by decide +kernel
theorem dX10_hangs_40 : decode cX10_hangs 40 = .ok (.iload_n 2, 1) := by decide +kernel
theorem dX10_hangs_41 : decode cX10_hangs 41 = .ok (.ifCond .ge 12, 3) := by decide +kernel
theorem dX10_hangs_44 : decode cX10_hangs 44 = .ok (.aload_n 0, 1) := by decide +kernel
theorem dX10_hangs_45 : decode cX10_hangs 45 = .ok (.bipush 6, 2) := by decide +kernel
theorem dX10_hangs_47 : decode cX10_hangs 47 = .ok (.invokevirtual 56, 3) := by decide +kernel
theorem dX10_hangs_50 : decode cX10_hangs 50 = .ok (.goto 4, 3) := by decide +kernel
theorem dX10_hangs_53 : decode cX10_hangs 53 = .ok (.iload_n 2, 1) := by decide +kernel
theorem dX10_hangs_54 : decode cX10_hangs 54 = .ok (.ireturn, 1) := by decide +kernel
theorem dX10_moves_0 : decode cX10_moves 0 = .ok (.aload_n 0, 1) := by decide +kernel
theorem dX10_moves_1 : decode cX10_moves 1 = .ok (.aload_n 0, 1) := by decide +kernel
theorem dX10_moves_2 : decode cX10_moves 2 = .ok (.getfield 16, 3) := by decide +kernel
theorem dX10_moves_5 : decode cX10_moves 5 = .ok (.iload_n 1, 1) := by decide +kernel
theorem dX10_moves_6 : decode cX10_moves 6 = .ok (.invokevirtual 111, 3) := by decide +kernel
theorem dX10_moves_9 : decode cX10_moves 9 = .ok (.ifCond .eq 20, 3) := by decide +kernel
theorem dX10_moves_12 : decode cX10_moves 12 = .ok (.aload_n 0, 1) := by decide +kernel
theorem dX10_moves_13 : decode cX10_moves 13 = .ok (.getfield 16, 3) := by decide +kernel
theorem dX10_moves_16 : decode cX10_moves 16 = .ok (.bipush 10, 2) := by decide +kernel
theorem dX10_moves_18 : decode cX10_moves 18 = .ok (.iload_n 2, 1) := by decide +kernel
theorem dX10_moves_19 : decode cX10_moves 19 = .ok (.invokevirtual 96, 3) := by decide +kernel
theorem dX10_moves_22 : decode cX10_moves 22 = .ok (.ifCond .eq 7, 3) := by decide +kernel
theorem dX10_moves_25 : decode cX10_moves 25 = .ok (.iconst 1, 1) := by decide +kernel
theorem dX10_moves_26 : decode cX10_moves 26 = .ok (.goto 4, 3) := by decide +kernel
theorem dX10_moves_29 : decode cX10_moves 29 = .ok (.iconst 0, 1) := by decide +kernel
theorem dX10_moves_30 : decode cX10_moves 30 = .ok (.iconst 0, 1) := by decide +kernel
theorem dX10_moves_31 : decode cX10_moves 31 = .ok (.invokevirtual 84, 3) := by decide +kernel
theorem dX10_moves_34 : decode cX10_moves 34 = .ok (.ifCond .ne 5, 3) := by decide +kernel
theorem dX10_moves_37 : decode cX10_moves 37 = .ok (.iconst (-1), 1) := by decide +kernel
theorem dX10_moves_38 : decode cX10_moves 38 = .ok (.ireturn, 1) := by decide +kernel
theorem dX10_moves_39 : decode cX10_moves 39 = .ok (.aload_n 0, 1) := by decide +kernel
theorem dX10_moves_40 : decode cX10_moves 40 = .ok (.getfield 37, 3) := by decide +kernel
theorem dX10_moves_43 : decode cX10_moves 43 = .ok (.aload_n 0, 1) := by decide +kernel
theorem dX10_moves_44 : decode cX10_moves 44 = .ok (.getfield 16, 3) := by decide +kernel
theorem dX10_moves_47 : decode cX10_moves 47 = .ok (.iload_n 2, 1) := by decide +kernel
theorem dX10_moves_48 : decode cX10_moves 48 = .ok (.invokevirtual 88, 3) := by decide +kernel
theorem dX10_moves_51 : decode cX10_moves 51 = .ok (.aload_n 0, 1) := by decide +kernel
theorem dX10_moves_52 : decode cX10_moves 52 = .ok (.getfield 37, 3) := by decide +kernel
theorem dX10_moves_55 : decode cX10_moves 55 = .ok (.iload_n 1, 1) := by decide +kernel
theorem dX10_moves_56 : decode cX10_moves 56 = .ok (.invokevirtual 184, 3) := by decide +kernel
theorem dX10_moves_59 : decode cX10_moves 59 = .ok (.ireturn, 1) := by decide +kernel
theorem dX10_brings_0 : decode cX10_brings 0 = .ok (.aload_n 0, 1) := by decide +kernel
theorem dX10_brings_1 : decode cX10_brings 1 = .ok (.getfield 16, 3) := by decide +kernel
theorem dX10_brings_4 : decode cX10_brings 4 = .ok (.iload_n 1, 1) := by decide +kernel
theorem dX10_brings_5 : decode cX10_brings 5 = .ok (.invokevirtual 111, 3) := by decide +kernel
theorem dX10_brings_8 : decode cX10_brings 8 = .ok (.ifCond .eq 13, 3) := by decide +kernel
theorem dX10_brings_11 : decode cX10_brings 11 = .ok (.iload_n 1, 1) := by decide +kernel
theorem dX10_brings_12 : decode cX10_brings 12 = .ok (.bipush 12, 2) := by decide +kernel
theorem dX10_brings_14 : decode cX10_brings 14 = .ok (.if_icmp .ge 7, 3) := by decide +kernel
theorem dX10_brings_17 : decode cX10_brings 17 = .ok (.iconst 1, 1) := by decide +kernel
theorem dX10_brings_18 : decode cX10_brings 18 = .ok (.goto 4, 3) := by decide +kernel
theorem dX10_brings_21 : decode cX10_brings 21 = .ok (.iconst 0, 1) := by decide +kernel
theorem dX10_brings_22 : decode cX10_brings 22 = .ok (.istore 5, 2) := by decide +kernel
theorem dX10_brings_24 : decode cX10_brings 24 = .ok (.aload_n 0, 1) := by decide +kernel
theorem dX10_brings_25 : decode cX10_brings 25 = .ok (.iload 5, 2) := by decide +kernel
theorem dX10_brings_27 : decode cX10_brings 27 = .ok (.ifCond .eq 30, 3) := by decide +kernel
theorem dX10_brings_30 : decode cX10_brings 30 = .ok (.iload_n 2, 1) := by decide +kernel
theorem dX10_brings_31 : decode cX10_brings 31 = .ok (.ifCond .lt 26, 3) := by decide +kernel
theorem dX10_brings_34 : decode cX10_brings 34 = .ok (.iload_n 2, 1) := by decide +kernel
theorem dX10_brings_35 : decode cX10_brings 35 = .ok (.iconst 2, 1) := by decide +kernel
theorem dX10_brings_36 : decode cX10_brings 36 = .ok (.if_icmp .gt 21, 3) := by decide +kernel
theorem dX10_brings_39 : decode cX10_brings 39 = .ok (.aload_n 0, 1) := by decide +kernel
theorem dX10_brings_40 : decode cX10_brings 40 = .ok (.getfield 16, 3) := by decide +kernel
theorem dX10_brings_43 : decode cX10_brings 43 = .ok (.bipush 10, 2) := by decide +kernel
theorem dX10_brings_45 : decode cX10_brings 45 = .ok (.iload 4, 2) := by decide +kernel
theorem dX10_brings_47 : decode cX10_brings 47 = .ok (.invokevirtual 96, 3) := by decide +kernel
theorem dX10_brings_50 : decode cX10_brings 50 = .ok (.ifCond .eq 7, 3) := by decide +kernel
theorem dX10_brings_53 : decode cX10_brings 53 = .ok (.iconst 1, 1) := by decide +kernel
theorem dX10_brings_54 : decode cX10_brings 54 = .ok (.goto 4, 3) := by decide +kernel
theorem dX10_brings_57 : decode cX10_brings 57 = .ok (.iconst 0, 1) := by decide +kernel
theorem dX10_brings_58 : decode cX10_brings 58 = .ok (.iload_n 3, 1) := by decide +kernel
theorem dX10_brings_59 : decode cX10_brings 59 = .ok (.invokevirtual 84, 3) := by decide +kernel
theorem dX10_brings_62 : decode cX10_brings 62 = .ok (.ifCond .ne 6, 3) := by decide +kernel
theorem dX10_brings_65 : decode cX10_brings 65 = .ok (.ldc 171, 2) := by decide +kernel
theorem dX10_brings_67 : decode cX10_brings 67 = .ok (.ireturn, 1) := by decide +kernel
theorem dX10_brings_68 : decode cX10_brings 68 = .ok (.aload_n 0, 1) := by decide +kernel
theorem dX10_brings_69 : decode cX10_brings 69 = .ok (.getfield 37, 3) := by decide +kernel
theorem dX10_brings_72 : decode cX10_brings 72 = .ok (.aload_n 0, 1) := by decide +kernel
theorem dX10_brings_73 : decode cX10_brings 73 = .ok (.getfield 16, 3) := by decide +kernel
theorem dX10_brings_76 : decode cX10_brings 76 = .ok (.iload 4, 2) := by decide +kernel
theorem dX10_brings_78 : decode cX10_brings 78 = .ok (.invokevirtual 88, 3) := by decide +kernel
theorem dX10_brings_81 : decode cX10_brings 81 = .ok (.aload_n 0, 1) := by decide +kernel
theorem dX10_brings_82 : decode cX10_brings 82 = .ok (.getfield 37, 3) := by decide +kernel
theorem dX10_brings_85 : decode cX10_brings 85 = .ok (.invokevirtual 175, 3) := by decide +kernel
theorem dX10_brings_88 : decode cX10_brings 88 = .ok (.istore 6, 2) := by decide +kernel
theorem dX10_brings_90 : decode cX10_brings 90 = .ok (.aload_n 0, 1) := by decide +kernel
theorem dX10_brings_91 : decode cX10_brings 91 = .ok (.getfield 37, 3) := by decide +kernel
theorem dX10_brings_94 : decode cX10_brings 94 = .ok (.getfield 115, 3) := by decide +kernel
theorem dX10_brings_97 : decode cX10_brings 97 = .ok (.iload_n 1, 1) := by decide +kernel
theorem dX10_brings_98 : decode cX10_brings 98 = .ok (.iload_n 2, 1) := by decide +kernel
theorem dX10_brings_99 : decode cX10_brings 99 = .ok (.iload_n 3, 1) := by decide +kernel
theorem dX10_brings_100 : decode cX10_brings 100 = .ok (.invokevirtual 187, 3) := by decide +kernel
theorem dX10_brings_103 : decode cX10_brings 103 = .ok (.aload_n 0, 1) := by decide +kernel
theorem dX10_brings_104 : decode cX10_brings 104 = .ok (.getfield 37, 3) := by decide +kernel
theorem dX10_brings_107 : decode cX10_brings 107 = .ok (.invokevirtual 175, 3) := by decide +kernel
theorem dX10_brings_110 : decode cX10_brings 110 = .ok (.iload 6, 2) := by decide +kernel
theorem dX10_brings_112 : decode cX10_brings 112 = .ok (.isub, 1) := by decide +kernel
theorem dX10_brings_113 : decode cX10_brings 113 = .ok (.ireturn, 1) := by decide +kernel
theorem dX10_part_0 : decode cX10_part 0 = .ok (.aload_n 0, 1) := by decide +kernel
theorem dX10_part_1 : decode cX10_part 1 = .ok (.aload_n 0, 1) := by decide +kernel
theorem dX10_part_2 : decode cX10_part 2 = .ok (.getfield 16, 3) := by decide +kernel
theorem dX10_part_5 : decode cX10_part 5 = .ok (.bipush 10, 2) := by decide +kernel
theorem dX10_part_7 : decode cX10_part 7 = .ok (.iload_n 1, 1) := by decide +kernel
theorem dX10_part_8 : decode cX10_part 8 = .ok (.invokevirtual 96, 3) := by decide +kernel
theorem dX10_part_11 : decode cX10_part 11 = .ok (.ifCond .eq 20, 3) := by decide +kernel
theorem dX10_part_14 : decode cX10_part 14 = .ok (.aload_n 0, 1) := by decide +kernel
theorem dX10_part_15 : decode cX10_part 15 = .ok (.getfield 16, 3) := by decide +kernel
theorem dX10_part_18 : decode cX10_part 18 = .ok (.bipush 10, 2) := by decide +kernel
theorem dX10_part_20 : decode cX10_part 20 = .ok (.iload_n 2, 1) := by decide +kernel
theorem dX10_part_21 : decode cX10_part 21 = .ok (.invokevirtual 96, 3) := by decide +kernel
theorem dX10_part_24 : decode cX10_part 24 = .ok (.ifCond .eq 7, 3) := by decide +kernel
theorem dX10_part_27 : decode cX10_part 27 = .ok (.iconst 1, 1) := by decide +kernel
theorem dX10_part_28 : decode cX10_part 28 = .ok (.goto 4, 3) := by decide +kernel
theorem dX10_part_31 : decode cX10_part 31 = .ok (.iconst 0, 1) := by decide +kernel
theorem dX10_part_32 : decode cX10_part 32 = .ok (.iconst 0, 1) := by decide +kernel
theorem dX10_part_33 : decode cX10_part 33 = .ok (.invokevirtual 84, 3) := by decide +kernel
theorem dX10_part_36 : decode cX10_part 36 = .ok (.ifCond .ne 5, 3) := by decide +kernel
theorem dX10_part_39 : decode cX10_part 39 = .ok (.iconst (-1), 1) := by decide +kernel
theorem dX10_part_40 : decode cX10_part 40 = .ok (.ireturn, 1) := by decide +kernel
theorem dX10_part_41 : decode cX10_part 41 = .ok (.iconst 0, 1) := by decide +kernel
theorem dX10_part_42 : decode cX10_part 42 = .ok (.istore_n 3, 1) := by decide +kernel
theorem dX10_part_43 : decode cX10_part 43 = .ok (.iload_n 3, 1) := by decide +kernel
theorem dX10_part_44 : decode cX10_part 44 = .ok (.aload_n 0, 1) := by decide +kernel
theorem dX10_part_45 : decode cX10_part 45 = .ok (.getfield 16, 3) := by decide +kernel
theorem dX10_part_48 : decode cX10_part 48 = .ok (.getfield 70, 3) := by decide +kernel
theorem dX10_part_51 : decode cX10_part 51 = .ok (.bipush 11, 2) := by decide +kernel
theorem dX10_part_53 : decode cX10_part 53 = .ok (.iaload, 1) := by decide +kernel
theorem dX10_part_54 : decode cX10_part 54 = .ok (.if_icmp .ge 31, 3) := by decide +kernel
theorem dX10_part_57 : decode cX10_part 57 = .ok (.aload_n 0, 1) := by decide +kernel
theorem dX10_part_58 : decode cX10_part 58 = .ok (.iload_n 3, 1) := by decide +kernel
theorem dX10_part_59 : decode cX10_part 59 = .ok (.iload_n 1, 1) := by decide +kernel
theorem dX10_part_60 : decode cX10_part 60 = .ok (.iload_n 2, 1) := by decide +kernel
theorem dX10_part_61 : decode cX10_part 61 = .ok (.invokevirtual 191, 3) := by decide +kernel
theorem dX10_part_64 : decode cX10_part 64 = .ok (.istore 4, 2) := by decide +kernel
theorem dX10_part_66 : decode cX10_part 66 = .ok (.iload 4, 2) := by decide +kernel
theorem dX10_part_68 : decode cX10_part 68 = .ok (.ifCond .lt 11, 3) := by decide +kernel
theorem dX10_part_71 : decode cX10_part 71 = .ok (.bipush 10, 2) := by decide +kernel
theorem dX10_part_73 : decode cX10_part 73 = .ok (.iload_n 3, 1) := by decide +kernel
theorem dX10_part_74 : decode cX10_part 74 = .ok (.imul, 1) := by decide +kernel
theorem dX10_part_75 : decode cX10_part 75 = .ok (.iload 4, 2) := by decide +kernel
theorem dX10_part_77 : decode cX10_part 77 = .ok (.iadd, 1) := by decide +kernel
theorem dX10_part_78 : decode cX10_part 78 = .ok (.ireturn, 1) := by decide +kernel
theorem dX10_part_79 : decode cX10_part 79 = .ok (.iinc 3 1, 3) := by decide +kernel
theorem dX10_part_82 : decode cX10_part 82 = .ok (.goto (-39), 3) := by decide +kernel
theorem dX10_part_85 : decode cX10_part 85 = .ok (.bipush (-2), 2) := by decide +kernel
theorem dX10_part_87 : decode cX10_part 87 = .ok (.ireturn, 1) := by decide +kernel
theorem dX10_firstUnlikeBridge_0 : decode cX10_firstUnlikeBridge 0 = .ok (.aload_n 0, 1) := by decide +kernel
theorem dX10_firstUnlikeBridge_1 : decode cX10_firstUnlikeBridge 1 = .ok (.getfield 16, 3) := by decide +kernel
theorem dX10_firstUnlikeBridge_4 : decode cX10_firstUnlikeBridge 4 = .ok (.iload_n 1, 1) := by decide +kernel
theorem dX10_firstUnlikeBridge_5 : decode cX10_firstUnlikeBridge 5 = .ok (.bipush 6, 2) := by decide +kernel
theorem dX10_firstUnlikeBridge_7 : decode cX10_firstUnlikeBridge 7 = .ok (.invokevirtual 151, 3) := by decide +kernel
theorem dX10_firstUnlikeBridge_10 : decode cX10_firstUnlikeBridge 10 = .ok (.istore 4, 2) := by decide +kernel
theorem dX10_firstUnlikeBridge_12 : decode cX10_firstUnlikeBridge 12 = .ok (.iconst 0, 1) := by decide +kernel
theorem dX10_firstUnlikeBridge_13 : decode cX10_firstUnlikeBridge 13 = .ok (.istore 5, 2) := by decide +kernel
theorem dX10_firstUnlikeBridge_15 : decode cX10_firstUnlikeBridge 15 = .ok (.iload 5, 2) := by decide +kernel
theorem dX10_firstUnlikeBridge_17 : decode cX10_firstUnlikeBridge 17 = .ok (.aload_n 0, 1) := by decide +kernel
theorem dX10_firstUnlikeBridge_18 : decode cX10_firstUnlikeBridge 18 = .ok (.getfield 16, 3) := by decide +kernel
theorem dX10_firstUnlikeBridge_21 : decode cX10_firstUnlikeBridge 21 = .ok (.getfield 70, 3) := by decide +kernel
theorem dX10_firstUnlikeBridge_24 : decode cX10_firstUnlikeBridge 24 = .ok (.iconst 4, 1) := by decide +kernel
theorem dX10_firstUnlikeBridge_25 : decode cX10_firstUnlikeBridge 25 = .ok (.iaload, 1) := by decide +kernel
theorem dX10_firstUnlikeBridge_26 : decode cX10_firstUnlikeBridge 26 = .ok (.if_icmp .ge 67, 3) := by decide +kernel
theorem dX10_firstUnlikeBridge_29 : decode cX10_firstUnlikeBridge 29 = .ok (.aload_n 0, 1) := by decide +kernel
theorem dX10_firstUnlikeBridge_30 : decode cX10_firstUnlikeBridge 30 = .ok (.getfield 37, 3) := by decide +kernel
theorem dX10_firstUnlikeBridge_33 : decode cX10_firstUnlikeBridge 33 = .ok (.aload_n 0, 1) := by decide +kernel
theorem dX10_firstUnlikeBridge_34 : decode cX10_firstUnlikeBridge 34 = .ok (.getfield 16, 3) := by decide +kernel
theorem dX10_firstUnlikeBridge_37 : decode cX10_firstUnlikeBridge 37 = .ok (.iload_n 2, 1) := by decide +kernel
theorem dX10_firstUnlikeBridge_38 : decode cX10_firstUnlikeBridge 38 = .ok (.invokevirtual 88, 3) := by decide +kernel
theorem dX10_firstUnlikeBridge_41 : decode cX10_firstUnlikeBridge 41 = .ok (.aload_n 0, 1) := by decide +kernel
theorem dX10_firstUnlikeBridge_42 : decode cX10_firstUnlikeBridge 42 = .ok (.getfield 37, 3) := by decide +kernel
theorem dX10_firstUnlikeBridge_45 : decode cX10_firstUnlikeBridge 45 = .ok (.iload_n 1, 1) := by decide +kernel
theorem dX10_firstUnlikeBridge_46 : decode cX10_firstUnlikeBridge 46 = .ok (.iload 5, 2) := by decide +kernel
theorem dX10_firstUnlikeBridge_48 : decode cX10_firstUnlikeBridge 48 = .ok (.iload 4, 2) := by decide +kernel
theorem dX10_firstUnlikeBridge_50 : decode cX10_firstUnlikeBridge 50 = .ok (.invokevirtual 92, 3) := by decide +kernel
theorem dX10_firstUnlikeBridge_53 : decode cX10_firstUnlikeBridge 53 = .ok (.istore 6, 2) := by decide +kernel
theorem dX10_firstUnlikeBridge_55 : decode cX10_firstUnlikeBridge 55 = .ok (.aload_n 0, 1) := by decide +kernel
theorem dX10_firstUnlikeBridge_56 : decode cX10_firstUnlikeBridge 56 = .ok (.getfield 37, 3) := by decide +kernel
theorem dX10_firstUnlikeBridge_59 : decode cX10_firstUnlikeBridge 59 = .ok (.aload_n 0, 1) := by decide +kernel
theorem dX10_firstUnlikeBridge_60 : decode cX10_firstUnlikeBridge 60 = .ok (.getfield 16, 3) := by decide +kernel
theorem dX10_firstUnlikeBridge_63 : decode cX10_firstUnlikeBridge 63 = .ok (.iload_n 3, 1) := by decide +kernel
theorem dX10_firstUnlikeBridge_64 : decode cX10_firstUnlikeBridge 64 = .ok (.invokevirtual 88, 3) := by decide +kernel
theorem dX10_firstUnlikeBridge_67 : decode cX10_firstUnlikeBridge 67 = .ok (.aload_n 0, 1) := by decide +kernel
theorem dX10_firstUnlikeBridge_68 : decode cX10_firstUnlikeBridge 68 = .ok (.getfield 37, 3) := by decide +kernel
theorem dX10_firstUnlikeBridge_71 : decode cX10_firstUnlikeBridge 71 = .ok (.iload_n 1, 1) := by decide +kernel
theorem dX10_firstUnlikeBridge_72 : decode cX10_firstUnlikeBridge 72 = .ok (.iload 5, 2) := by decide +kernel
theorem dX10_firstUnlikeBridge_74 : decode cX10_firstUnlikeBridge 74 = .ok (.iload 4, 2) := by decide +kernel
theorem dX10_firstUnlikeBridge_76 : decode cX10_firstUnlikeBridge 76 = .ok (.invokevirtual 92, 3) := by decide +kernel
theorem dX10_firstUnlikeBridge_79 : decode cX10_firstUnlikeBridge 79 = .ok (.iload 6, 2) := by decide +kernel
theorem dX10_firstUnlikeBridge_81 : decode cX10_firstUnlikeBridge 81 = .ok (.if_icmp .eq 6, 3) := by decide +kernel
theorem dX10_firstUnlikeBridge_84 : decode cX10_firstUnlikeBridge 84 = .ok (.iload 5, 2) := by decide +kernel
theorem dX10_firstUnlikeBridge_86 : decode cX10_firstUnlikeBridge 86 = .ok (.ireturn, 1) := by decide +kernel
theorem dX10_firstUnlikeBridge_87 : decode cX10_firstUnlikeBridge 87 = .ok (.iinc 5 1, 3) := by decide +kernel
theorem dX10_firstUnlikeBridge_90 : decode cX10_firstUnlikeBridge 90 = .ok (.goto (-75), 3) := by decide +kernel
theorem dX10_firstUnlikeBridge_93 : decode cX10_firstUnlikeBridge 93 = .ok (.iconst (-1), 1) := by decide +kernel
theorem dX10_firstUnlikeBridge_94 : decode cX10_firstUnlikeBridge 94 = .ok (.ireturn, 1) := by decide +kernel
theorem dX10_lose_0 : decode cX10_lose 0 = .ok (.aload_n 0, 1) := by decide +kernel
theorem dX10_lose_1 : decode cX10_lose 1 = .ok (.aload_n 0, 1) := by decide +kernel
theorem dX10_lose_2 : decode cX10_lose 2 = .ok (.getfield 16, 3) := by decide +kernel
theorem dX10_lose_5 : decode cX10_lose 5 = .ok (.iload_n 1, 1) := by decide +kernel
theorem dX10_lose_6 : decode cX10_lose 6 = .ok (.invokevirtual 111, 3) := by decide +kernel
theorem dX10_lose_9 : decode cX10_lose 9 = .ok (.iconst 0, 1) := by decide +kernel
theorem dX10_lose_10 : decode cX10_lose 10 = .ok (.invokevirtual 84, 3) := by decide +kernel
theorem dX10_lose_13 : decode cX10_lose 13 = .ok (.ifCond .ne 5, 3) := by decide +kernel
theorem dX10_lose_16 : decode cX10_lose 16 = .ok (.iconst 0, 1) := by decide +kernel
theorem dX10_lose_17 : decode cX10_lose 17 = .ok (.ireturn, 1) := by decide +kernel
theorem dX10_lose_18 : decode cX10_lose 18 = .ok (.aload_n 0, 1) := by decide +kernel
theorem dX10_lose_19 : decode cX10_lose 19 = .ok (.getfield 16, 3) := by decide +kernel
theorem dX10_lose_22 : decode cX10_lose 22 = .ok (.getfield 194, 3) := by decide +kernel
theorem dX10_lose_25 : decode cX10_lose 25 = .ok (.iload_n 1, 1) := by decide +kernel
theorem dX10_lose_26 : decode cX10_lose 26 = .ok (.iaload, 1) := by decide +kernel
theorem dX10_lose_27 : decode cX10_lose 27 = .ok (.ifCond .eq 10, 3) := by decide +kernel
theorem dX10_lose_30 : decode cX10_lose 30 = .ok (.aload_n 0, 1) := by decide +kernel
theorem dX10_lose_31 : decode cX10_lose 31 = .ok (.iconst 5, 1) := by decide +kernel
theorem dX10_lose_32 : decode cX10_lose 32 = .ok (.putfield 67, 3) := by decide +kernel
theorem dX10_lose_35 : decode cX10_lose 35 = .ok (.iconst 0, 1) := by decide +kernel
theorem dX10_lose_36 : decode cX10_lose 36 = .ok (.ireturn, 1) := by decide +kernel
theorem dX10_lose_37 : decode cX10_lose 37 = .ok (.aload_n 0, 1) := by decide +kernel
theorem dX10_lose_38 : decode cX10_lose 38 = .ok (.getfield 16, 3) := by decide +kernel
theorem dX10_lose_41 : decode cX10_lose 41 = .ok (.getfield 194, 3) := by decide +kernel
theorem dX10_lose_44 : decode cX10_lose 44 = .ok (.iload_n 1, 1) := by decide +kernel
theorem dX10_lose_45 : decode cX10_lose 45 = .ok (.iload_n 2, 1) := by decide +kernel
theorem dX10_lose_46 : decode cX10_lose 46 = .ok (.ifCond .eq 7, 3) := by decide +kernel
theorem dX10_lose_49 : decode cX10_lose 49 = .ok (.iconst 2, 1) := by decide +kernel
theorem dX10_lose_50 : decode cX10_lose 50 = .ok (.goto 4, 3) := by decide +kernel
theorem dX10_lose_53 : decode cX10_lose 53 = .ok (.iconst 1, 1) := by decide +kernel
theorem dX10_lose_54 : decode cX10_lose 54 = .ok (.iastore, 1) := by decide +kernel
theorem dX10_lose_55 : decode cX10_lose 55 = .ok (.iconst 1, 1) := by decide +kernel
theorem dX10_lose_56 : decode cX10_lose 56 = .ok (.ireturn, 1) := by decide +kernel
theorem dX10_find_0 : decode cX10_find 0 = .ok (.aload_n 0, 1) := by decide +kernel
theorem dX10_find_1 : decode cX10_find 1 = .ok (.aload_n 0, 1) := by decide +kernel
theorem dX10_find_2 : decode cX10_find 2 = .ok (.getfield 16, 3) := by decide +kernel
theorem dX10_find_5 : decode cX10_find 5 = .ok (.iload_n 1, 1) := by decide +kernel
theorem dX10_find_6 : decode cX10_find 6 = .ok (.invokevirtual 111, 3) := by decide +kernel
theorem dX10_find_9 : decode cX10_find 9 = .ok (.iconst 0, 1) := by decide +kernel
theorem dX10_find_10 : decode cX10_find 10 = .ok (.invokevirtual 84, 3) := by decide +kernel
theorem dX10_find_13 : decode cX10_find 13 = .ok (.ifCond .ne 5, 3) := by decide +kernel
theorem dX10_find_16 : decode cX10_find 16 = .ok (.iconst 0, 1) := by decide +kernel
theorem dX10_find_17 : decode cX10_find 17 = .ok (.ireturn, 1) := by decide +kernel
theorem dX10_find_18 : decode cX10_find 18 = .ok (.aload_n 0, 1) := by decide +kernel
theorem dX10_find_19 : decode cX10_find 19 = .ok (.getfield 16, 3) := by decide +kernel
theorem dX10_find_22 : decode cX10_find 22 = .ok (.getfield 194, 3) := by decide +kernel
theorem dX10_find_25 : decode cX10_find 25 = .ok (.iload_n 1, 1) := by decide +kernel
theorem dX10_find_26 : decode cX10_find 26 = .ok (.iaload, 1) := by decide +kernel
theorem dX10_find_27 : decode cX10_find 27 = .ok (.ifCond .ne 10, 3) := by decide +kernel
theorem dX10_find_30 : decode cX10_find 30 = .ok (.aload_n 0, 1) := by decide +kernel
theorem dX10_find_31 : decode cX10_find 31 = .ok (.iconst 5, 1) := by decide +kernel
theorem dX10_find_32 : decode cX10_find 32 = .ok (.putfield 67, 3) := by decide +kernel
theorem dX10_find_35 : decode cX10_find 35 = .ok (.iconst 0, 1) := by decide +kernel
theorem dX10_find_36 : decode cX10_find 36 = .ok (.ireturn, 1) := by decide +kernel
theorem dX10_find_37 : decode cX10_find 37 = .ok (.aload_n 0, 1) := by decide +kernel
theorem dX10_find_38 : decode cX10_find 38 = .ok (.getfield 16, 3) := by decide +kernel
theorem dX10_find_41 : decode cX10_find 41 = .ok (.getfield 194, 3) := by decide +kernel
theorem dX10_find_44 : decode cX10_find 44 = .ok (.iload_n 1, 1) := by decide +kernel
theorem dX10_find_45 : decode cX10_find 45 = .ok (.iconst 0, 1) := by decide +kernel
theorem dX10_find_46 : decode cX10_find 46 = .ok (.iastore, 1) := by decide +kernel
theorem dX10_find_47 : decode cX10_find 47 = .ok (.iconst 1, 1) := by decide +kernel
theorem dX10_find_48 : decode cX10_find 48 = .ok (.ireturn, 1) := by decide +kernel
theorem dX10_date_0 : decode cX10_date 0 = .ok (.aload_n 0, 1) := by decide +kernel
theorem dX10_date_1 : decode cX10_date 1 = .ok (.aload_n 0, 1) := by decide +kernel
theorem dX10_date_2 : decode cX10_date 2 = .ok (.getfield 16, 3) := by decide +kernel
theorem dX10_date_5 : decode cX10_date 5 = .ok (.iload_n 1, 1) := by decide +kernel
theorem dX10_date_6 : decode cX10_date 6 = .ok (.invokevirtual 111, 3) := by decide +kernel
theorem dX10_date_9 : decode cX10_date 9 = .ok (.iload_n 2, 1) := by decide +kernel
theorem dX10_date_10 : decode cX10_date 10 = .ok (.invokevirtual 84, 3) := by decide +kernel
theorem dX10_date_13 : decode cX10_date 13 = .ok (.ifCond .ne 5, 3) := by decide +kernel
theorem dX10_date_16 : decode cX10_date 16 = .ok (.iconst 0, 1) := by decide +kernel
theorem dX10_date_17 : decode cX10_date 17 = .ok (.ireturn, 1) := by decide +kernel
theorem dX10_date_18 : decode cX10_date 18 = .ok (.aload_n 0, 1) := by decide +kernel
theorem dX10_date_19 : decode cX10_date 19 = .ok (.getfield 16, 3) := by decide +kernel
theorem dX10_date_22 : decode cX10_date 22 = .ok (.getfield 195, 3) := by decide +kernel
theorem dX10_date_25 : decode cX10_date 25 = .ok (.iload_n 1, 1) := by decide +kernel
theorem dX10_date_26 : decode cX10_date 26 = .ok (.iload_n 2, 1) := by decide +kernel
theorem dX10_date_27 : decode cX10_date 27 = .ok (.iastore, 1) := by decide +kernel
theorem dX10_date_28 : decode cX10_date 28 = .ok (.aload_n 0, 1) := by decide +kernel
theorem dX10_date_29 : decode cX10_date 29 = .ok (.getfield 16, 3) := by decide +kernel
theorem dX10_date_32 : decode cX10_date 32 = .ok (.getfield 198, 3) := by decide +kernel
theorem dX10_date_35 : decode cX10_date 35 = .ok (.iload_n 1, 1) := by decide +kernel
theorem dX10_date_36 : decode cX10_date 36 = .ok (.iload_n 2, 1) := by decide +kernel
theorem dX10_date_37 : decode cX10_date 37 = .ok (.iastore, 1) := by decide +kernel
theorem dX10_date_38 : decode cX10_date 38 = .ok (.iconst 1, 1) := by decide +kernel
theorem dX10_date_39 : decode cX10_date 39 = .ok (.ireturn, 1) := by decide +kernel
theorem dX10_grant_0 : decode cX10_grant 0 = .ok (.aload_n 0, 1) := by decide +kernel
theorem dX10_grant_1 : decode cX10_grant 1 = .ok (.getfield 16, 3) := by decide +kernel
theorem dX10_grant_4 : decode cX10_grant 4 = .ok (.iload_n 1, 1) := by decide +kernel
theorem dX10_grant_5 : decode cX10_grant 5 = .ok (.invokevirtual 111, 3) := by decide +kernel
theorem dX10_grant_8 : decode cX10_grant 8 = .ok (.ifCond .ne 5, 3) := by decide +kernel
theorem dX10_grant_11 : decode cX10_grant 11 = .ok (.iconst (-1), 1) := by decide +kernel
theorem dX10_grant_12 : decode cX10_grant 12 = .ok (.ireturn, 1) := by decide +kernel
theorem dX10_grant_13 : decode cX10_grant 13 = .ok (.iload_n 2, 1) := by decide +kernel
theorem dX10_grant_14 : decode cX10_grant 14 = .ok (.tableswitch 111 0 6 #[42, 52, 62, 72, 82, 92, 102], 42) := by decide +kernel
theorem dX10_grant_56 : decode cX10_grant 56 = .ok (.aload_n 0, 1) := by decide +kernel
theorem dX10_grant_57 : decode cX10_grant 57 = .ok (.getfield 16, 3) := by decide +kernel
theorem dX10_grant_60 : decode cX10_grant 60 = .ok (.getfield 195, 3) := by decide +kernel
theorem dX10_grant_63 : decode cX10_grant 63 = .ok (.iload_n 1, 1) := by decide +kernel
theorem dX10_grant_64 : decode cX10_grant 64 = .ok (.iaload, 1) := by decide +kernel
theorem dX10_grant_65 : decode cX10_grant 65 = .ok (.ireturn, 1) := by decide +kernel
theorem dX10_grant_66 : decode cX10_grant 66 = .ok (.aload_n 0, 1) := by decide +kernel
theorem dX10_grant_67 : decode cX10_grant 67 = .ok (.getfield 16, 3) := by decide +kernel
theorem dX10_grant_70 : decode cX10_grant 70 = .ok (.getfield 198, 3) := by decide +kernel
theorem dX10_grant_73 : decode cX10_grant 73 = .ok (.iload_n 1, 1) := by decide +kernel
theorem dX10_grant_74 : decode cX10_grant 74 = .ok (.iaload, 1) := by decide +kernel
theorem dX10_grant_75 : decode cX10_grant 75 = .ok (.ireturn, 1) := by decide +kernel
theorem dX10_grant_76 : decode cX10_grant 76 = .ok (.aload_n 0, 1) := by decide +kernel
theorem dX10_grant_77 : decode cX10_grant 77 = .ok (.getfield 16, 3) := by decide +kernel
theorem dX10_grant_80 : decode cX10_grant 80 = .ok (.getfield 194, 3) := by decide +kernel
theorem dX10_grant_83 : decode cX10_grant 83 = .ok (.iload_n 1, 1) := by decide +kernel
theorem dX10_grant_84 : decode cX10_grant 84 = .ok (.iaload, 1) := by decide +kernel
theorem dX10_grant_85 : decode cX10_grant 85 = .ok (.ireturn, 1) := by decide +kernel
theorem dX10_grant_86 : decode cX10_grant 86 = .ok (.aload_n 0, 1) := by decide +kernel
theorem dX10_grant_87 : decode cX10_grant 87 = .ok (.getfield 16, 3) := by decide +kernel
theorem dX10_grant_90 : decode cX10_grant 90 = .ok (.getfield 201, 3) := by decide +kernel
theorem dX10_grant_93 : decode cX10_grant 93 = .ok (.iload_n 1, 1) := by decide +kernel
theorem dX10_grant_94 : decode cX10_grant 94 = .ok (.iaload, 1) := by decide +kernel
theorem dX10_grant_95 : decode cX10_grant 95 = .ok (.ireturn, 1) := by decide +kernel
theorem dX10_grant_96 : decode cX10_grant 96 = .ok (.aload_n 0, 1) := by decide +kernel
theorem dX10_grant_97 : decode cX10_grant 97 = .ok (.getfield 16, 3) := by decide +kernel
theorem dX10_grant_100 : decode cX10_grant 100 = .ok (.getfield 204, 3) := by decide +kernel
theorem dX10_grant_103 : decode cX10_grant 103 = .ok (.iload_n 1, 1) := by decide +kernel
theorem dX10_grant_104 : decode cX10_grant 104 = .ok (.iaload, 1) := by decide +kernel
theorem dX10_grant_105 : decode cX10_grant 105 = .ok (.ireturn, 1) := by decide +kernel
theorem dX10_grant_106 : decode cX10_grant 106 = .ok (.aload_n 0, 1) := by decide +kernel
theorem dX10_grant_107 : decode cX10_grant 107 = .ok (.getfield 16, 3) := by decide +kernel
theorem dX10_grant_110 : decode cX10_grant 110 = .ok (.getfield 207, 3) := by decide +kernel
theorem dX10_grant_113 : decode cX10_grant 113 = .ok (.iload_n 1, 1) := by decide +kernel
theorem dX10_grant_114 : decode cX10_grant 114 = .ok (.iaload, 1) := by decide +kernel
theorem dX10_grant_115 : decode cX10_grant 115 = .ok (.ireturn, 1) := by decide +kernel
theorem dX10_grant_116 : decode cX10_grant 116 = .ok (.aload_n 0, 1) := by decide +kernel
theorem dX10_grant_117 : decode cX10_grant 117 = .ok (.getfield 16, 3) := by decide +kernel
theorem dX10_grant_120 : decode cX10_grant 120 = .ok (.iload_n 1, 1) := by decide +kernel
theorem dX10_grant_121 : decode cX10_grant 121 = .ok (.invokevirtual 210, 3) := by decide +kernel
theorem dX10_grant_124 : decode cX10_grant 124 = .ok (.ireturn, 1) := by decide +kernel
theorem dX10_grant_125 : decode cX10_grant 125 = .ok (.iconst (-1), 1) := by decide +kernel
theorem dX10_grant_126 : decode cX10_grant 126 = .ok (.ireturn, 1) := by decide +kernel
theorem dX10_cart_0 : decode cX10_cart 0 = .ok (.aload_n 0, 1) := by decide +kernel
theorem dX10_cart_1 : decode cX10_cart 1 = .ok (.getfield 16, 3) := by decide +kernel
theorem dX10_cart_4 : decode cX10_cart 4 = .ok (.bipush 11, 2) := by decide +kernel
theorem dX10_cart_6 : decode cX10_cart 6 = .ok (.iload_n 1, 1) := by decide +kernel
theorem dX10_cart_7 : decode cX10_cart 7 = .ok (.invokevirtual 96, 3) := by decide +kernel
theorem dX10_cart_10 : decode cX10_cart 10 = .ok (.ifCond .eq 25, 3) := by decide +kernel
theorem dX10_cart_13 : decode cX10_cart 13 = .ok (.iload_n 2, 1) := by decide +kernel
theorem dX10_cart_14 : decode cX10_cart 14 = .ok (.ifCond .lt 21, 3) := by decide +kernel
theorem dX10_cart_17 : decode cX10_cart 17 = .ok (.iload_n 2, 1) := by decide +kernel
theorem dX10_cart_18 : decode cX10_cart 18 = .ok (.bipush 7, 2) := by decide +kernel
theorem dX10_cart_20 : decode cX10_cart 20 = .ok (.if_icmp .ge 15, 3) := by decide +kernel
theorem dX10_cart_23 : decode cX10_cart 23 = .ok (.aload_n 0, 1) := by decide +kernel
theorem dX10_cart_24 : decode cX10_cart 24 = .ok (.getfield 16, 3) := by decide +kernel
theorem dX10_cart_27 : decode cX10_cart 27 = .ok (.iload_n 1, 1) := by decide +kernel
theorem dX10_cart_28 : decode cX10_cart 28 = .ok (.iload_n 2, 1) := by decide +kernel
theorem dX10_cart_29 : decode cX10_cart 29 = .ok (.invokevirtual 151, 3) := by decide +kernel
theorem dX10_cart_32 : decode cX10_cart 32 = .ok (.goto 4, 3) := by decide +kernel
theorem dX10_cart_35 : decode cX10_cart 35 = .ok (.iconst (-1), 1) := by decide +kernel
theorem dX10_cart_36 : decode cX10_cart 36 = .ok (.ireturn, 1) := by decide +kernel
theorem dX10_led_0 : decode cX10_led 0 = .ok (.iload_n 1, 1) := by decide +kernel
theorem dX10_led_1 : decode cX10_led 1 = .ok (.ifCond .lt 14, 3) := by decide +kernel
theorem dX10_led_4 : decode cX10_led 4 = .ok (.iload_n 1, 1) := by decide +kernel
theorem dX10_led_5 : decode cX10_led 5 = .ok (.aload_n 0, 1) := by decide +kernel
theorem dX10_led_6 : decode cX10_led 6 = .ok (.getfield 44, 3) := by decide +kernel
theorem dX10_led_9 : decode cX10_led 9 = .ok (.getfield 213, 3) := by decide +kernel
theorem dX10_led_12 : decode cX10_led 12 = .ok (.if_icmp .lt 13, 3) := by decide +kernel
theorem dX10_led_15 : decode cX10_led 15 = .ok (.new 216, 3) := by decide +kernel
theorem dX10_led_18 : decode cX10_led 18 = .ok (.dup, 1) := by decide +kernel
theorem dX10_led_19 : decode cX10_led 19 = .ok (.ldc 218, 2) := by decide +kernel
theorem dX10_led_21 : decode cX10_led 21 = .ok (.invokespecial 220, 3) := by decide +kernel
theorem dX10_led_24 : decode cX10_led 24 = .ok (.athrow, 1) := by decide +kernel
theorem dX10_led_25 : decode cX10_led 25 = .ok (.aload_n 0, 1) := by decide +kernel
theorem dX10_led_26 : decode cX10_led 26 = .ok (.getfield 44, 3) := by decide +kernel
theorem dX10_led_29 : decode cX10_led 29 = .ok (.getfield 223, 3) := by decide +kernel
theorem dX10_led_32 : decode cX10_led 32 = .ok (.iload_n 1, 1) := by decide +kernel
theorem dX10_led_33 : decode cX10_led 33 = .ok (.iaload, 1) := by decide +kernel
theorem dX10_led_34 : decode cX10_led 34 = .ok (.ireturn, 1) := by decide +kernel
theorem dX10_size_0 : decode cX10_size 0 = .ok (.iload_n 1, 1) := by decide +kernel
theorem dX10_size_1 : decode cX10_size 1 = .ok (.getstatic 226, 3) := by decide +kernel
theorem dX10_size_4 : decode cX10_size 4 = .ok (.arraylength, 1) := by decide +kernel
theorem dX10_size_5 : decode cX10_size 5 = .ok (.if_icmp .ne 8, 3) := by decide +kernel
theorem dX10_size_8 : decode cX10_size 8 = .ok (.aload_n 0, 1) := by decide +kernel
theorem dX10_size_9 : decode cX10_size 9 = .ok (.getfield 48, 3) := by decide +kernel
theorem dX10_size_12 : decode cX10_size 12 = .ok (.ireturn, 1) := by decide +kernel
theorem dX10_size_13 : decode cX10_size 13 = .ok (.iload_n 1, 1) := by decide +kernel
theorem dX10_size_14 : decode cX10_size 14 = .ok (.ifCond .lt 27, 3) := by decide +kernel
theorem dX10_size_17 : decode cX10_size 17 = .ok (.iload_n 1, 1) := by decide +kernel
theorem dX10_size_18 : decode cX10_size 18 = .ok (.getstatic 226, 3) := by decide +kernel
theorem dX10_size_21 : decode cX10_size 21 = .ok (.arraylength, 1) := by decide +kernel
theorem dX10_size_22 : decode cX10_size 22 = .ok (.if_icmp .ge 19, 3) := by decide +kernel
theorem dX10_size_25 : decode cX10_size 25 = .ok (.aload_n 0, 1) := by decide +kernel
theorem dX10_size_26 : decode cX10_size 26 = .ok (.getfield 16, 3) := by decide +kernel
theorem dX10_size_29 : decode cX10_size 29 = .ok (.getfield 70, 3) := by decide +kernel
theorem dX10_size_32 : decode cX10_size 32 = .ok (.getstatic 226, 3) := by decide +kernel
theorem dX10_size_35 : decode cX10_size 35 = .ok (.iload_n 1, 1) := by decide +kernel
theorem dX10_size_36 : decode cX10_size 36 = .ok (.iaload, 1) := by decide +kernel
theorem dX10_size_37 : decode cX10_size 37 = .ok (.iaload, 1) := by decide +kernel
theorem dX10_size_38 : decode cX10_size 38 = .ok (.goto 4, 3) := by decide +kernel
theorem dX10_size_41 : decode cX10_size 41 = .ok (.iconst (-1), 1) := by decide +kernel
theorem dX10_size_42 : decode cX10_size 42 = .ok (.ireturn, 1) := by decide +kernel
theorem dX10_trouble_0 : decode cX10_trouble 0 = .ok (.aload_n 0, 1) := by decide +kernel
theorem dX10_trouble_1 : decode cX10_trouble 1 = .ok (.getfield 67, 3) := by decide +kernel
theorem dX10_trouble_4 : decode cX10_trouble 4 = .ok (.ireturn, 1) := by decide +kernel
theorem dX10_knownCase_0 : decode cX10_knownCase 0 = .ok (.aload_n 0, 1) := by decide +kernel
theorem dX10_knownCase_1 : decode cX10_knownCase 1 = .ok (.getfield 16, 3) := by decide +kernel
theorem dX10_knownCase_4 : decode cX10_knownCase 4 = .ok (.bipush 11, 2) := by decide +kernel
theorem dX10_knownCase_6 : decode cX10_knownCase 6 = .ok (.iload_n 1, 1) := by decide +kernel
theorem dX10_knownCase_7 : decode cX10_knownCase 7 = .ok (.invokevirtual 96, 3) := by decide +kernel
theorem dX10_knownCase_10 : decode cX10_knownCase 10 = .ok (.ifCond .eq 32, 3) := by decide +kernel
theorem dX10_knownCase_13 : decode cX10_knownCase 13 = .ok (.aload_n 0, 1) := by decide +kernel
theorem dX10_knownCase_14 : decode cX10_knownCase 14 = .ok (.getfield 16, 3) := by decide +kernel
theorem dX10_knownCase_17 : decode cX10_knownCase 17 = .ok (.iconst 4, 1) := by decide +kernel
theorem dX10_knownCase_18 : decode cX10_knownCase 18 = .ok (.iload_n 2, 1) := by decide +kernel
theorem dX10_knownCase_19 : decode cX10_knownCase 19 = .ok (.invokevirtual 96, 3) := by decide +kernel
theorem dX10_knownCase_22 : decode cX10_knownCase 22 = .ok (.ifCond .eq 20, 3) := by decide +kernel
theorem dX10_knownCase_25 : decode cX10_knownCase 25 = .ok (.aload_n 0, 1) := by decide +kernel
theorem dX10_knownCase_26 : decode cX10_knownCase 26 = .ok (.getfield 16, 3) := by decide +kernel
theorem dX10_knownCase_29 : decode cX10_knownCase 29 = .ok (.bipush 10, 2) := by decide +kernel
theorem dX10_knownCase_31 : decode cX10_knownCase 31 = .ok (.iload_n 3, 1) := by decide +kernel
theorem dX10_knownCase_32 : decode cX10_knownCase 32 = .ok (.invokevirtual 96, 3) := by decide +kernel
theorem dX10_knownCase_35 : decode cX10_knownCase 35 = .ok (.ifCond .eq 7, 3) := by decide +kernel
theorem dX10_knownCase_38 : decode cX10_knownCase 38 = .ok (.iconst 1, 1) := by decide +kernel
theorem dX10_knownCase_39 : decode cX10_knownCase 39 = .ok (.goto 4, 3) := by decide +kernel
theorem dX10_knownCase_42 : decode cX10_knownCase 42 = .ok (.iconst 0, 1) := by decide +kernel
theorem dX10_knownCase_43 : decode cX10_knownCase 43 = .ok (.ireturn, 1) := by decide +kernel
theorem dX10_admitted_0 : decode cX10_admitted 0 = .ok (.aload_n 0, 1) := by decide +kernel
theorem dX10_admitted_1 : decode cX10_admitted 1 = .ok (.iconst 0, 1) := by decide +kernel
theorem dX10_admitted_2 : decode cX10_admitted 2 = .ok (.putfield 67, 3) := by decide +kernel
theorem dX10_admitted_5 : decode cX10_admitted 5 = .ok (.iload_n 1, 1) := by decide +kernel
theorem dX10_admitted_6 : decode cX10_admitted 6 = .ok (.ifCond .ne 11, 3) := by decide +kernel
theorem dX10_admitted_9 : decode cX10_admitted 9 = .ok (.aload_n 0, 1) := by decide +kernel
theorem dX10_admitted_10 : decode cX10_admitted 10 = .ok (.iconst 1, 1) := by decide +kernel
theorem dX10_admitted_11 : decode cX10_admitted 11 = .ok (.putfield 67, 3) := by decide +kernel
theorem dX10_admitted_14 : decode cX10_admitted 14 = .ok (.goto 19, 3) := by decide +kernel
theorem dX10_admitted_17 : decode cX10_admitted 17 = .ok (.iload_n 2, 1) := by decide +kernel
theorem dX10_admitted_18 : decode cX10_admitted 18 = .ok (.ifCond .lt 10, 3) := by decide +kernel
theorem dX10_admitted_21 : decode cX10_admitted 21 = .ok (.iload_n 2, 1) := by decide +kernel
theorem dX10_admitted_22 : decode cX10_admitted 22 = .ok (.sipush 999, 3) := by decide +kernel
theorem dX10_admitted_25 : decode cX10_admitted 25 = .ok (.if_icmp .le 8, 3) := by decide +kernel
theorem dX10_admitted_28 : decode cX10_admitted 28 = .ok (.aload_n 0, 1) := by decide +kernel
theorem dX10_admitted_29 : decode cX10_admitted 29 = .ok (.iconst 2, 1) := by decide +kernel
theorem dX10_admitted_30 : decode cX10_admitted 30 = .ok (.putfield 67, 3) := by decide +kernel
theorem dX10_admitted_33 : decode cX10_admitted 33 = .ok (.aload_n 0, 1) := by decide +kernel
theorem dX10_admitted_34 : decode cX10_admitted 34 = .ok (.getfield 67, 3) := by decide +kernel
theorem dX10_admitted_37 : decode cX10_admitted 37 = .ok (.ifCond .ne 7, 3) := by decide +kernel
theorem dX10_admitted_40 : decode cX10_admitted 40 = .ok (.iconst 1, 1) := by decide +kernel
theorem dX10_admitted_41 : decode cX10_admitted 41 = .ok (.goto 4, 3) := by decide +kernel
theorem dX10_admitted_44 : decode cX10_admitted 44 = .ok (.iconst 0, 1) := by decide +kernel
theorem dX10_admitted_45 : decode cX10_admitted 45 = .ok (.ireturn, 1) := by decide +kernel
theorem dX10_refused_0 : decode cX10_refused 0 = .ok (.aload_n 0, 1) := by decide +kernel
theorem dX10_refused_1 : decode cX10_refused 1 = .ok (.iload_n 1, 1) := by decide +kernel
theorem dX10_refused_2 : decode cX10_refused 2 = .ok (.putfield 67, 3) := by decide +kernel
theorem dX10_refused_5 : decode cX10_refused 5 = .ok (.iconst (-1), 1) := by decide +kernel
theorem dX10_refused_6 : decode cX10_refused 6 = .ok (.ireturn, 1) := by decide +kernel
theorem dX11_init_0 : decode cX11_init 0 = .ok (.aload_n 0, 1) := by decide +kernel
theorem dX11_init_1 : decode cX11_init 1 = .ok (.invokespecial 3, 3) := by decide +kernel
theorem dX11_init_4 : decode cX11_init 4 = .ok (.aload_n 0, 1) := by decide +kernel
theorem dX11_init_5 : decode cX11_init 5 = .ok (.bipush 6, 2) := by decide +kernel
theorem dX11_init_7 : decode cX11_init 7 = .ok (.newarray .int, 2) := by decide +kernel
theorem dX11_init_9 : decode cX11_init 9 = .ok (.putfield 9, 3) := by decide +kernel
theorem dX11_init_12 : decode cX11_init 12 = .ok (.aload_n 0, 1) := by decide +kernel
theorem dX11_init_13 : decode cX11_init 13 = .ok (.bipush 6, 2) := by decide +kernel
theorem dX11_init_15 : decode cX11_init 15 = .ok (.newarray .int, 2) := by decide +kernel
theorem dX11_init_17 : decode cX11_init 17 = .ok (.putfield 15, 3) := by decide +kernel
theorem dX11_init_20 : decode cX11_init 20 = .ok (.aload_n 0, 1) := by decide +kernel
theorem dX11_init_21 : decode cX11_init 21 = .ok (.bipush 20, 2) := by decide +kernel
theorem dX11_init_23 : decode cX11_init 23 = .ok (.newarray .int, 2) := by decide +kernel
theorem dX11_init_25 : decode cX11_init 25 = .ok (.putfield 18, 3) := by decide +kernel
theorem dX11_init_28 : decode cX11_init 28 = .ok (.aload_n 0, 1) := by decide +kernel
theorem dX11_init_29 : decode cX11_init 29 = .ok (.bipush 20, 2) := by decide +kernel
theorem dX11_init_31 : decode cX11_init 31 = .ok (.newarray .int, 2) := by decide +kernel
theorem dX11_init_33 : decode cX11_init 33 = .ok (.putfield 21, 3) := by decide +kernel
theorem dX11_init_36 : decode cX11_init 36 = .ok (.aload_n 0, 1) := by decide +kernel
theorem dX11_init_37 : decode cX11_init 37 = .ok (.bipush 20, 2) := by decide +kernel
theorem dX11_init_39 : decode cX11_init 39 = .ok (.newarray .int, 2) := by decide +kernel
theorem dX11_init_41 : decode cX11_init 41 = .ok (.putfield 24, 3) := by decide +kernel
theorem dX11_init_44 : decode cX11_init 44 = .ok (.aload_n 0, 1) := by decide +kernel
theorem dX11_init_45 : decode cX11_init 45 = .ok (.bipush 20, 2) := by decide +kernel
theorem dX11_init_47 : decode cX11_init 47 = .ok (.newarray .int, 2) := by decide +kernel
theorem dX11_init_49 : decode cX11_init 49 = .ok (.putfield 27, 3) := by decide +kernel
theorem dX11_init_52 : decode cX11_init 52 = .ok (.aload_n 0, 1) := by decide +kernel
theorem dX11_init_53 : decode cX11_init 53 = .ok (.bipush 16, 2) := by decide +kernel
theorem dX11_init_55 : decode cX11_init 55 = .ok (.newarray .int, 2) := by decide +kernel
theorem dX11_init_57 : decode cX11_init 57 = .ok (.putfield 30, 3) := by decide +kernel
theorem dX11_init_60 : decode cX11_init 60 = .ok (.aload_n 0, 1) := by decide +kernel
theorem dX11_init_61 : decode cX11_init 61 = .ok (.bipush 16, 2) := by decide +kernel
theorem dX11_init_63 : decode cX11_init 63 = .ok (.newarray .int, 2) := by decide +kernel
theorem dX11_init_65 : decode cX11_init 65 = .ok (.putfield 33, 3) := by decide +kernel
theorem dX11_init_68 : decode cX11_init 68 = .ok (.aload_n 0, 1) := by decide +kernel
theorem dX11_init_69 : decode cX11_init 69 = .ok (.bipush 16, 2) := by decide +kernel
theorem dX11_init_71 : decode cX11_init 71 = .ok (.newarray .int, 2) := by decide +kernel
theorem dX11_init_73 : decode cX11_init 73 = .ok (.putfield 36, 3) := by decide +kernel
theorem dX11_init_76 : decode cX11_init 76 = .ok (.aload_n 0, 1) := by decide +kernel
theorem dX11_init_77 : decode cX11_init 77 = .ok (.bipush 16, 2) := by decide +kernel
theorem dX11_init_79 : decode cX11_init 79 = .ok (.newarray .int, 2) := by decide +kernel
theorem dX11_init_81 : decode cX11_init 81 = .ok (.putfield 39, 3) := by decide +kernel
theorem dX11_init_84 : decode cX11_init 84 = .ok (.aload_n 0, 1) := by decide +kernel
theorem dX11_init_85 : decode cX11_init 85 = .ok (.bipush 16, 2) := by decide +kernel
theorem dX11_init_87 : decode cX11_init 87 = .ok (.newarray .int, 2) := by decide +kernel
theorem dX11_init_89 : decode cX11_init 89 = .ok (.putfield 42, 3) := by decide +kernel
theorem dX11_init_92 : decode cX11_init 92 = .ok (.aload_n 0, 1) := by decide +kernel
theorem dX11_init_93 : decode cX11_init 93 = .ok (.bipush 16, 2) := by decide +kernel
theorem dX11_init_95 : decode cX11_init 95 = .ok (.newarray .int, 2) := by decide +kernel
theorem dX11_init_97 : decode cX11_init 97 = .ok (.putfield 45, 3) := by decide +kernel
theorem dX11_init_100 : decode cX11_init 100 = .ok (.aload_n 0, 1) := by decide +kernel
theorem dX11_init_101 : decode cX11_init 101 = .ok (.iconst 4, 1) := by decide +kernel
theorem dX11_init_102 : decode cX11_init 102 = .ok (.newarray .int, 2) := by decide +kernel
theorem dX11_init_104 : decode cX11_init 104 = .ok (.putfield 48, 3) := by decide +kernel
theorem dX11_init_107 : decode cX11_init 107 = .ok (.aload_n 0, 1) := by decide +kernel
theorem dX11_init_108 : decode cX11_init 108 = .ok (.iconst 4, 1) := by decide +kernel
theorem dX11_init_109 : decode cX11_init 109 = .ok (.newarray .int, 2) := by decide +kernel
theorem dX11_init_111 : decode cX11_init 111 = .ok (.putfield 51, 3) := by decide +kernel
theorem dX11_init_114 : decode cX11_init 114 = .ok (.aload_n 0, 1) := by decide +kernel
theorem dX11_init_115 : decode cX11_init 115 = .ok (.iconst 4, 1) := by decide +kernel
theorem dX11_init_116 : decode cX11_init 116 = .ok (.newarray .int, 2) := by decide +kernel
theorem dX11_init_118 : decode cX11_init 118 = .ok (.putfield 54, 3) := by decide +kernel
theorem dX11_init_121 : decode cX11_init 121 = .ok (.aload_n 0, 1) := by decide +kernel
theorem dX11_init_122 : decode cX11_init 122 = .ok (.iconst 3, 1) := by decide +kernel
theorem dX11_init_123 : decode cX11_init 123 = .ok (.newarray .boolean, 2) := by decide +kernel
theorem dX11_init_125 : decode cX11_init 125 = .ok (.putfield 57, 3) := by decide +kernel
theorem dX11_init_128 : decode cX11_init 128 = .ok (.aload_n 0, 1) := by decide +kernel
theorem dX11_init_129 : decode cX11_init 129 = .ok (.iconst 3, 1) := by decide +kernel
theorem dX11_init_130 : decode cX11_init 130 = .ok (.newarray .boolean, 2) := by decide +kernel
theorem dX11_init_132 : decode cX11_init 132 = .ok (.putfield 61, 3) := by decide +kernel
theorem dX11_init_135 : decode cX11_init 135 = .ok (.aload_n 0, 1) := by decide +kernel
theorem dX11_init_136 : decode cX11_init 136 = .ok (.iconst 3, 1) := by decide +kernel
theorem dX11_init_137 : decode cX11_init 137 = .ok (.newarray .boolean, 2) := by decide +kernel
theorem dX11_init_139 : decode cX11_init 139 = .ok (.putfield 64, 3) := by decide +kernel
theorem dX11_init_142 : decode cX11_init 142 = .ok (.aload_n 0, 1) := by decide +kernel
theorem dX11_init_143 : decode cX11_init 143 = .ok (.iconst 3, 1) := by decide +kernel
theorem dX11_init_144 : decode cX11_init 144 = .ok (.newarray .boolean, 2) := by decide +kernel
theorem dX11_init_146 : decode cX11_init 146 = .ok (.putfield 67, 3) := by decide +kernel
theorem dX11_init_149 : decode cX11_init 149 = .ok (.aload_n 0, 1) := by decide +kernel
theorem dX11_init_150 : decode cX11_init 150 = .ok (.bipush 6, 2) := by decide +kernel
theorem dX11_init_152 : decode cX11_init 152 = .ok (.newarray .int, 2) := by decide +kernel
theorem dX11_init_154 : decode cX11_init 154 = .ok (.putfield 70, 3) := by decide +kernel
theorem dX11_init_157 : decode cX11_init 157 = .ok (.aload_n 0, 1) := by decide +kernel
theorem dX11_init_158 : decode cX11_init 158 = .ok (.bipush 6, 2) := by decide +kernel
theorem dX11_init_160 : decode cX11_init 160 = .ok (.newarray .int, 2) := by decide +kernel
theorem dX11_init_162 : decode cX11_init 162 = .ok (.putfield 73, 3) := by decide +kernel
theorem dX11_init_165 : decode cX11_init 165 = .ok (.aload_n 0, 1) := by decide +kernel
theorem dX11_init_166 : decode cX11_init 166 = .ok (.bipush 6, 2) := by decide +kernel
theorem dX11_init_168 : decode cX11_init 168 = .ok (.newarray .int, 2) := by decide +kernel
theorem dX11_init_170 : decode cX11_init 170 = .ok (.putfield 76, 3) := by decide +kernel
theorem dX11_init_173 : decode cX11_init 173 = .ok (.aload_n 0, 1) := by decide +kernel
theorem dX11_init_174 : decode cX11_init 174 = .ok (.bipush 6, 2) := by decide +kernel
theorem dX11_init_176 : decode cX11_init 176 = .ok (.newarray .int, 2) := by decide +kernel
theorem dX11_init_178 : decode cX11_init 178 = .ok (.putfield 79, 3) := by decide +kernel
theorem dX11_init_181 : decode cX11_init 181 = .ok (.aload_n 0, 1) := by decide +kernel
theorem dX11_init_182 : decode cX11_init 182 = .ok (.bipush 6, 2) := by decide +kernel
theorem dX11_init_184 : decode cX11_init 184 = .ok (.newarray .int, 2) := by decide +kernel
theorem dX11_init_186 : decode cX11_init 186 = .ok (.putfield 82, 3) := by decide +kernel
theorem dX11_init_189 : decode cX11_init 189 = .ok (.aload_n 0, 1) := by decide +kernel
theorem dX11_init_190 : decode cX11_init 190 = .ok (.bipush 6, 2) := by decide +kernel
theorem dX11_init_192 : decode cX11_init 192 = .ok (.newarray .int, 2) := by decide +kernel
theorem dX11_init_194 : decode cX11_init 194 = .ok (.putfield 85, 3) := by decide +kernel
theorem dX11_init_197 : decode cX11_init 197 = .ok (.aload_n 0, 1) := by decide +kernel
theorem dX11_init_198 : decode cX11_init 198 = .ok (.bipush 6, 2) := by decide +kernel
theorem dX11_init_200 : decode cX11_init 200 = .ok (.newarray .int, 2) := by decide +kernel
theorem dX11_init_202 : decode cX11_init 202 = .ok (.putfield 88, 3) := by decide +kernel
theorem dX11_init_205 : decode cX11_init 205 = .ok (.aload_n 0, 1) := by decide +kernel
theorem dX11_init_206 : decode cX11_init 206 = .ok (.bipush 51, 2) := by decide +kernel
theorem dX11_init_208 : decode cX11_init 208 = .ok (.newarray .long, 2) := by decide +kernel
theorem dX11_init_210 : decode cX11_init 210 = .ok (.putfield 91, 3) := by decide +kernel
theorem dX11_init_213 : decode cX11_init 213 = .ok (.aload_n 0, 1) := by decide +kernel
theorem dX11_init_214 : decode cX11_init 214 = .ok (.bipush 51, 2) := by decide +kernel
theorem dX11_init_216 : decode cX11_init 216 = .ok (.newarray .int, 2) := by decide +kernel
theorem dX11_init_218 : decode cX11_init 218 = .ok (.putfield 95, 3) := by decide +kernel
theorem dX11_init_221 : decode cX11_init 221 = .ok (.aload_n 0, 1) := by decide +kernel
theorem dX11_init_222 : decode cX11_init 222 = .ok (.bipush 51, 2) := by decide +kernel
theorem dX11_init_224 : decode cX11_init 224 = .ok (.newarray .int, 2) := by decide +kernel
theorem dX11_init_226 : decode cX11_init 226 = .ok (.putfield 98, 3) := by decide +kernel
theorem dX11_init_229 : decode cX11_init 229 = .ok (.return_, 1) := by decide +kernel
theorem dX11_find_0 : decode cX11_find 0 = .ok (.iconst 0, 1) := by decide +kernel
theorem dX11_find_1 : decode cX11_find 1 = .ok (.istore_n 3, 1) := by decide +kernel
theorem dX11_find_2 : decode cX11_find 2 = .ok (.iload_n 3, 1) := by decide +kernel
theorem dX11_find_3 : decode cX11_find 3 = .ok (.aload_n 0, 1) := by decide +kernel
theorem dX11_find_4 : decode cX11_find 4 = .ok (.getfield 101, 3) := by decide +kernel
theorem dX11_find_7 : decode cX11_find 7 = .ok (.if_icmp .ge 22, 3) := by decide +kernel
theorem dX11_find_10 : decode cX11_find 10 = .ok (.aload_n 0, 1) := by decide +kernel
theorem dX11_find_11 : decode cX11_find 11 = .ok (.getfield 91, 3) := by decide +kernel
theorem dX11_find_14 : decode cX11_find 14 = .ok (.iload_n 3, 1) := by decide +kernel
theorem dX11_find_15 : decode cX11_find 15 = .ok (.laload, 1) := by decide +kernel
theorem dX11_find_16 : decode cX11_find 16 = .ok (.lload_n 1, 1) := by decide +kernel
theorem dX11_find_17 : decode cX11_find 17 = .ok (.lcmp, 1) := by decide +kernel
theorem dX11_find_18 : decode cX11_find 18 = .ok (.ifCond .ne 5, 3) := by decide +kernel
theorem dX11_find_21 : decode cX11_find 21 = .ok (.iload_n 3, 1) := by decide +kernel
theorem dX11_find_22 : decode cX11_find 22 = .ok (.ireturn, 1) := by decide +kernel
theorem dX11_find_23 : decode cX11_find 23 = .ok (.iinc 3 1, 3) := by decide +kernel
theorem dX11_find_26 : decode cX11_find 26 = .ok (.goto (-24), 3) := by decide +kernel
theorem dX11_find_29 : decode cX11_find 29 = .ok (.iconst (-1), 1) := by decide +kernel
theorem dX11_find_30 : decode cX11_find 30 = .ok (.ireturn, 1) := by decide +kernel
theorem dX11_isGrant_0 : decode cX11_isGrant 0 = .ok (.iload_n 1, 1) := by decide +kernel
theorem dX11_isGrant_1 : decode cX11_isGrant 1 = .ok (.ifCond .lt 11, 3) := by decide +kernel
theorem dX11_isGrant_4 : decode cX11_isGrant 4 = .ok (.iload_n 1, 1) := by decide +kernel
theorem dX11_isGrant_5 : decode cX11_isGrant 5 = .ok (.aload_n 0, 1) := by decide +kernel
theorem dX11_isGrant_6 : decode cX11_isGrant 6 = .ok (.getfield 105, 3) := by decide +kernel
theorem dX11_isGrant_9 : decode cX11_isGrant 9 = .ok (.if_icmp .lt 37, 3) := by decide +kernel
theorem dX11_isGrant_12 : decode cX11_isGrant 12 = .ok (.iload_n 1, 1) := by decide +kernel
theorem dX11_isGrant_13 : decode cX11_isGrant 13 = .ok (.bipush 6, 2) := by decide +kernel
theorem dX11_isGrant_15 : decode cX11_isGrant 15 = .ok (.if_icmp .lt 14, 3) := by decide +kernel
theorem dX11_isGrant_18 : decode cX11_isGrant 18 = .ok (.iload_n 1, 1) := by decide +kernel
theorem dX11_isGrant_19 : decode cX11_isGrant 19 = .ok (.bipush 6, 2) := by decide +kernel
theorem dX11_isGrant_21 : decode cX11_isGrant 21 = .ok (.aload_n 0, 1) := by decide +kernel
theorem dX11_isGrant_22 : decode cX11_isGrant 22 = .ok (.getfield 108, 3) := by decide +kernel
theorem dX11_isGrant_25 : decode cX11_isGrant 25 = .ok (.iadd, 1) := by decide +kernel
theorem dX11_isGrant_26 : decode cX11_isGrant 26 = .ok (.if_icmp .lt 20, 3) := by decide +kernel
theorem dX11_isGrant_29 : decode cX11_isGrant 29 = .ok (.iload_n 1, 1) := by decide +kernel
theorem dX11_isGrant_30 : decode cX11_isGrant 30 = .ok (.bipush 12, 2) := by decide +kernel
theorem dX11_isGrant_32 : decode cX11_isGrant 32 = .ok (.if_icmp .lt 18, 3) := by decide +kernel
theorem dX11_isGrant_35 : decode cX11_isGrant 35 = .ok (.iload_n 1, 1) := by decide +kernel
theorem dX11_isGrant_36 : decode cX11_isGrant 36 = .ok (.bipush 12, 2) := by decide +kernel
theorem dX11_isGrant_38 : decode cX11_isGrant 38 = .ok (.aload_n 0, 1) := by decide +kernel
theorem dX11_isGrant_39 : decode cX11_isGrant 39 = .ok (.getfield 111, 3) := by decide +kernel
theorem dX11_isGrant_42 : decode cX11_isGrant 42 = .ok (.iadd, 1) := by decide +kernel
theorem dX11_isGrant_43 : decode cX11_isGrant 43 = .ok (.if_icmp .ge 7, 3) := by decide +kernel
theorem dX11_isGrant_46 : decode cX11_isGrant 46 = .ok (.iconst 1, 1) := by decide +kernel
theorem dX11_isGrant_47 : decode cX11_isGrant 47 = .ok (.goto 4, 3) := by decide +kernel
theorem dX11_isGrant_50 : decode cX11_isGrant 50 = .ok (.iconst 0, 1) := by decide +kernel
theorem dX11_isGrant_51 : decode cX11_isGrant 51 = .ok (.ireturn, 1) := by decide +kernel
theorem dX12_init_0 : decode cX12_init 0 = .ok (.aload_n 0, 1) := by decide +kernel
theorem dX12_init_1 : decode cX12_init 1 = .ok (.invokespecial 3, 3) := by decide +kernel
theorem dX12_init_4 : decode cX12_init 4 = .ok (.aload_n 0, 1) := by decide +kernel
theorem dX12_init_5 : decode cX12_init 5 = .ok (.iconst (-1), 1) := by decide +kernel
theorem dX12_init_6 : decode cX12_init 6 = .ok (.putfield 9, 3) := by decide +kernel
theorem dX12_init_9 : decode cX12_init 9 = .ok (.aload_n 0, 1) := by decide +kernel
theorem dX12_init_10 : decode cX12_init 10 = .ok (.sipush 900, 3) := by decide +kernel
theorem dX12_init_13 : decode cX12_init 13 = .ok (.newarray .byte, 2) := by decide +kernel
theorem dX12_init_15 : decode cX12_init 15 = .ok (.putfield 13, 3) := by decide +kernel
theorem dX12_init_18 : decode cX12_init 18 = .ok (.aload_n 0, 1) := by decide +kernel
theorem dX12_init_19 : decode cX12_init 19 = .ok (.bipush 16, 2) := by decide +kernel
theorem dX12_init_21 : decode cX12_init 21 = .ok (.newarray .int, 2) := by decide +kernel
theorem dX12_init_23 : decode cX12_init 23 = .ok (.putfield 17, 3) := by decide +kernel
theorem dX12_init_26 : decode cX12_init 26 = .ok (.aload_n 0, 1) := by decide +kernel
theorem dX12_init_27 : decode cX12_init 27 = .ok (.bipush 16, 2) := by decide +kernel
theorem dX12_init_29 : decode cX12_init 29 = .ok (.newarray .int, 2) := by decide +kernel
theorem dX12_init_31 : decode cX12_init 31 = .ok (.putfield 21, 3) := by decide +kernel
theorem dX12_init_34 : decode cX12_init 34 = .ok (.aload_n 0, 1) := by decide +kernel
theorem dX12_init_35 : decode cX12_init 35 = .ok (.bipush 8, 2) := by decide +kernel
theorem dX12_init_37 : decode cX12_init 37 = .ok (.newarray .int, 2) := by decide +kernel
theorem dX12_init_39 : decode cX12_init 39 = .ok (.putfield 24, 3) := by decide +kernel
theorem dX12_init_42 : decode cX12_init 42 = .ok (.aload_n 0, 1) := by decide +kernel
theorem dX12_init_43 : decode cX12_init 43 = .ok (.bipush 8, 2) := by decide +kernel
theorem dX12_init_45 : decode cX12_init 45 = .ok (.newarray .int, 2) := by decide +kernel
theorem dX12_init_47 : decode cX12_init 47 = .ok (.putfield 27, 3) := by decide +kernel
theorem dX12_init_50 : decode cX12_init 50 = .ok (.aload_n 0, 1) := by decide +kernel
theorem dX12_init_51 : decode cX12_init 51 = .ok (.bipush 8, 2) := by decide +kernel
theorem dX12_init_53 : decode cX12_init 53 = .ok (.newarray .int, 2) := by decide +kernel
theorem dX12_init_55 : decode cX12_init 55 = .ok (.putfield 30, 3) := by decide +kernel
theorem dX12_init_58 : decode cX12_init 58 = .ok (.aload_n 0, 1) := by decide +kernel
theorem dX12_init_59 : decode cX12_init 59 = .ok (.iconst (-1), 1) := by decide +kernel
theorem dX12_init_60 : decode cX12_init 60 = .ok (.putfield 33, 3) := by decide +kernel
theorem dX12_init_63 : decode cX12_init 63 = .ok (.aload_n 0, 1) := by decide +kernel
theorem dX12_init_64 : decode cX12_init 64 = .ok (.bipush 8, 2) := by decide +kernel
theorem dX12_init_66 : decode cX12_init 66 = .ok (.newarray .int, 2) := by decide +kernel
theorem dX12_init_68 : decode cX12_init 68 = .ok (.putfield 36, 3) := by decide +kernel
theorem dX12_init_71 : decode cX12_init 71 = .ok (.aload_n 0, 1) := by decide +kernel
theorem dX12_init_72 : decode cX12_init 72 = .ok (.bipush 8, 2) := by decide +kernel
theorem dX12_init_74 : decode cX12_init 74 = .ok (.newarray .int, 2) := by decide +kernel
theorem dX12_init_76 : decode cX12_init 76 = .ok (.putfield 39, 3) := by decide +kernel
theorem dX12_init_79 : decode cX12_init 79 = .ok (.aload_n 0, 1) := by decide +kernel
theorem dX12_init_80 : decode cX12_init 80 = .ok (.bipush 64, 2) := by decide +kernel
theorem dX12_init_82 : decode cX12_init 82 = .ok (.newarray .int, 2) := by decide +kernel
theorem dX12_init_84 : decode cX12_init 84 = .ok (.putfield 42, 3) := by decide +kernel
theorem dX12_init_87 : decode cX12_init 87 = .ok (.aload_n 0, 1) := by decide +kernel
theorem dX12_init_88 : decode cX12_init 88 = .ok (.bipush 64, 2) := by decide +kernel
theorem dX12_init_90 : decode cX12_init 90 = .ok (.newarray .int, 2) := by decide +kernel
theorem dX12_init_92 : decode cX12_init 92 = .ok (.putfield 45, 3) := by decide +kernel
theorem dX12_init_95 : decode cX12_init 95 = .ok (.aload_n 0, 1) := by decide +kernel
theorem dX12_init_96 : decode cX12_init 96 = .ok (.bipush 8, 2) := by decide +kernel
theorem dX12_init_98 : decode cX12_init 98 = .ok (.newarray .int, 2) := by decide +kernel
theorem dX12_init_100 : decode cX12_init 100 = .ok (.putfield 48, 3) := by decide +kernel
theorem dX12_init_103 : decode cX12_init 103 = .ok (.aload_n 0, 1) := by decide +kernel
theorem dX12_init_104 : decode cX12_init 104 = .ok (.bipush 8, 2) := by decide +kernel
theorem dX12_init_106 : decode cX12_init 106 = .ok (.newarray .int, 2) := by decide +kernel
theorem dX12_init_108 : decode cX12_init 108 = .ok (.putfield 51, 3) := by decide +kernel
theorem dX12_init_111 : decode cX12_init 111 = .ok (.return_, 1) := by decide +kernel
theorem dX12_thrown_0 : decode cX12_thrown 0 = .ok (.aload_n 0, 1) := by decide +kernel
theorem dX12_thrown_1 : decode cX12_thrown 1 = .ok (.getfield 54, 3) := by decide +kernel
theorem dX12_thrown_4 : decode cX12_thrown 4 = .ok (.ireturn, 1) := by decide +kernel
theorem dX12_refused_0 : decode cX12_refused 0 = .ok (.aload_n 0, 1) := by decide +kernel
theorem dX12_refused_1 : decode cX12_refused 1 = .ok (.iload_n 1, 1) := by decide +kernel
theorem dX12_refused_2 : decode cX12_refused 2 = .ok (.putfield 57, 3) := by decide +kernel
theorem dX12_refused_5 : decode cX12_refused 5 = .ok (.aload_n 0, 1) := by decide +kernel
theorem dX12_refused_6 : decode cX12_refused 6 = .ok (.iconst (-1), 1) := by decide +kernel
theorem dX12_refused_7 : decode cX12_refused 7 = .ok (.putfield 9, 3) := by decide +kernel
theorem dX12_refused_10 : decode cX12_refused 10 = .ok (.iconst (-1), 1) := by decide +kernel
theorem dX12_refused_11 : decode cX12_refused 11 = .ok (.ireturn, 1) := by decide +kernel
theorem dX12_lost_0 : decode cX12_lost 0 = .ok (.aload_n 0, 1) := by decide +kernel
theorem dX12_lost_1 : decode cX12_lost 1 = .ok (.iload_n 1, 1) := by decide +kernel
theorem dX12_lost_2 : decode cX12_lost 2 = .ok (.invokevirtual 60, 3) := by decide +kernel
theorem dX12_lost_5 : decode cX12_lost 5 = .ok (.pop, 1) := by decide +kernel
theorem dX12_lost_6 : decode cX12_lost 6 = .ok (.ldc 64, 2) := by decide +kernel
theorem dX12_lost_8 : decode cX12_lost 8 = .ok (.ireturn, 1) := by decide +kernel
theorem dX12_denied_0 : decode cX12_denied 0 = .ok (.aload_n 0, 1) := by decide +kernel
theorem dX12_denied_1 : decode cX12_denied 1 = .ok (.iload_n 1, 1) := by decide +kernel
theorem dX12_denied_2 : decode cX12_denied 2 = .ok (.invokevirtual 60, 3) := by decide +kernel
theorem dX12_denied_5 : decode cX12_denied 5 = .ok (.pop, 1) := by decide +kernel
theorem dX12_denied_6 : decode cX12_denied 6 = .ok (.iconst 0, 1) := by decide +kernel
theorem dX12_denied_7 : decode cX12_denied 7 = .ok (.ireturn, 1) := by decide +kernel
theorem dX12_done_0 : decode cX12_done 0 = .ok (.aload_n 0, 1) := by decide +kernel
theorem dX12_done_1 : decode cX12_done 1 = .ok (.iconst 0, 1) := by decide +kernel
theorem dX12_done_2 : decode cX12_done 2 = .ok (.putfield 57, 3) := by decide +kernel
theorem dX12_done_5 : decode cX12_done 5 = .ok (.aload_n 0, 1) := by decide +kernel
theorem dX12_done_6 : decode cX12_done 6 = .ok (.iconst (-1), 1) := by decide +kernel
theorem dX12_done_7 : decode cX12_done 7 = .ok (.putfield 9, 3) := by decide +kernel
theorem dX12_done_10 : decode cX12_done 10 = .ok (.iload_n 1, 1) := by decide +kernel
theorem dX12_done_11 : decode cX12_done 11 = .ok (.ireturn, 1) := by decide +kernel
theorem dX12_granted_0 : decode cX12_granted 0 = .ok (.aload_n 0, 1) := by decide +kernel
theorem dX12_granted_1 : decode cX12_granted 1 = .ok (.iconst 0, 1) := by decide +kernel
theorem dX12_granted_2 : decode cX12_granted 2 = .ok (.invokevirtual 65, 3) := by decide +kernel
theorem dX12_granted_5 : decode cX12_granted 5 = .ok (.pop, 1) := by decide +kernel
theorem dX12_granted_6 : decode cX12_granted 6 = .ok (.iconst 1, 1) := by decide +kernel
theorem dX12_granted_7 : decode cX12_granted 7 = .ok (.ireturn, 1) := by decide +kernel
theorem dX12_in_0 : decode cX12_in 0 = .ok (.iload_n 0, 1) := by decide +kernel
theorem dX12_in_1 : decode cX12_in 1 = .ok (.iload_n 1, 1) := by decide +kernel
theorem dX12_in_2 : decode cX12_in 2 = .ok (.if_icmp .lt 12, 3) := by decide +kernel
theorem dX12_in_5 : decode cX12_in 5 = .ok (.iload_n 0, 1) := by decide +kernel
theorem dX12_in_6 : decode cX12_in 6 = .ok (.iload_n 2, 1) := by decide +kernel
theorem dX12_in_7 : decode cX12_in 7 = .ok (.if_icmp .gt 7, 3) := by decide +kernel
theorem dX12_in_10 : decode cX12_in 10 = .ok (.iconst 1, 1) := by decide +kernel
theorem dX12_in_11 : decode cX12_in 11 = .ok (.goto 4, 3) := by decide +kernel
theorem dX12_in_14 : decode cX12_in 14 = .ok (.iconst 0, 1) := by decide +kernel
theorem dX12_in_15 : decode cX12_in 15 = .ok (.ireturn, 1) := by decide +kernel
theorem dX12_byteAt_0 : decode cX12_byteAt 0 = .ok (.iload_n 1, 1) := by decide +kernel
theorem dX12_byteAt_1 : decode cX12_byteAt 1 = .ok (.aload_n 0, 1) := by decide +kernel
theorem dX12_byteAt_2 : decode cX12_byteAt 2 = .ok (.getfield 68, 3) := by decide +kernel
theorem dX12_byteAt_5 : decode cX12_byteAt 5 = .ok (.if_icmp .ge 16, 3) := by decide +kernel
theorem dX12_byteAt_8 : decode cX12_byteAt 8 = .ok (.aload_n 0, 1) := by decide +kernel
theorem dX12_byteAt_9 : decode cX12_byteAt 9 = .ok (.getfield 13, 3) := by decide +kernel
theorem dX12_byteAt_12 : decode cX12_byteAt 12 = .ok (.iload_n 1, 1) := by decide +kernel
theorem dX12_byteAt_13 : decode cX12_byteAt 13 = .ok (.baload, 1) := by decide +kernel
theorem dX12_byteAt_14 : decode cX12_byteAt 14 = .ok (.sipush 255, 3) := by decide +kernel
theorem dX12_byteAt_17 : decode cX12_byteAt 17 = .ok (.iand, 1) := by decide +kernel
theorem dX12_byteAt_18 : decode cX12_byteAt 18 = .ok (.goto 4, 3) := by decide +kernel
theorem dX12_byteAt_21 : decode cX12_byteAt 21 = .ok (.iconst (-1), 1) := by decide +kernel
theorem dX12_byteAt_22 : decode cX12_byteAt 22 = .ok (.ireturn, 1) := by decide +kernel
theorem dX12_isLetter_0 : decode cX12_isLetter 0 = .ok (.iload_n 0, 1) := by decide +kernel
theorem dX12_isLetter_1 : decode cX12_isLetter 1 = .ok (.bipush 97, 2) := by decide +kernel
theorem dX12_isLetter_3 : decode cX12_isLetter 3 = .ok (.if_icmp .lt 13, 3) := by decide +kernel
theorem dX12_isLetter_6 : decode cX12_isLetter 6 = .ok (.iload_n 0, 1) := by decide +kernel
theorem dX12_isLetter_7 : decode cX12_isLetter 7 = .ok (.bipush 122, 2) := by decide +kernel
theorem dX12_isLetter_9 : decode cX12_isLetter 9 = .ok (.if_icmp .gt 7, 3) := by decide +kernel
theorem dX12_isLetter_12 : decode cX12_isLetter 12 = .ok (.iconst 1, 1) := by decide +kernel
theorem dX12_isLetter_13 : decode cX12_isLetter 13 = .ok (.goto 4, 3) := by decide +kernel
theorem dX12_isLetter_16 : decode cX12_isLetter 16 = .ok (.iconst 0, 1) := by decide +kernel
theorem dX12_isLetter_17 : decode cX12_isLetter 17 = .ok (.ireturn, 1) := by decide +kernel
theorem dX12_isDigit_0 : decode cX12_isDigit 0 = .ok (.iload_n 0, 1) := by decide +kernel
theorem dX12_isDigit_1 : decode cX12_isDigit 1 = .ok (.bipush 48, 2) := by decide +kernel
theorem dX12_isDigit_3 : decode cX12_isDigit 3 = .ok (.if_icmp .lt 13, 3) := by decide +kernel
theorem dX12_isDigit_6 : decode cX12_isDigit 6 = .ok (.iload_n 0, 1) := by decide +kernel
theorem dX12_isDigit_7 : decode cX12_isDigit 7 = .ok (.bipush 57, 2) := by decide +kernel
theorem dX12_isDigit_9 : decode cX12_isDigit 9 = .ok (.if_icmp .gt 7, 3) := by decide +kernel
theorem dX12_isDigit_12 : decode cX12_isDigit 12 = .ok (.iconst 1, 1) := by decide +kernel
theorem dX12_isDigit_13 : decode cX12_isDigit 13 = .ok (.goto 4, 3) := by decide +kernel
theorem dX12_isDigit_16 : decode cX12_isDigit 16 = .ok (.iconst 0, 1) := by decide +kernel
theorem dX12_isDigit_17 : decode cX12_isDigit 17 = .ok (.ireturn, 1) := by decide +kernel
theorem dX12_wordOf_0 : decode cX12_wordOf 0 = .ok (.lconst 0, 1) := by decide +kernel
theorem dX12_wordOf_1 : decode cX12_wordOf 1 = .ok (.lstore_n 1, 1) := by decide +kernel
theorem dX12_wordOf_2 : decode cX12_wordOf 2 = .ok (.iconst 0, 1) := by decide +kernel
theorem dX12_wordOf_3 : decode cX12_wordOf 3 = .ok (.istore_n 3, 1) := by decide +kernel
theorem dX12_wordOf_4 : decode cX12_wordOf 4 = .ok (.iload_n 3, 1) := by decide +kernel
theorem dX12_wordOf_5 : decode cX12_wordOf 5 = .ok (.aload_n 0, 1) := by decide +kernel
theorem dX12_wordOf_6 : decode cX12_wordOf 6 = .ok (.invokevirtual 71, 3) := by decide +kernel
theorem dX12_wordOf_9 : decode cX12_wordOf 9 = .ok (.if_icmp .ge 27, 3) := by decide +kernel
theorem dX12_wordOf_12 : decode cX12_wordOf 12 = .ok (.ldc2_w 77, 3) := by decide +kernel
theorem dX12_wordOf_15 : decode cX12_wordOf 15 = .ok (.lload_n 1, 1) := by decide +kernel
theorem dX12_wordOf_16 : decode cX12_wordOf 16 = .ok (.lmul, 1) := by decide +kernel
theorem dX12_wordOf_17 : decode cX12_wordOf 17 = .ok (.aload_n 0, 1) := by decide +kernel
theorem dX12_wordOf_18 : decode cX12_wordOf 18 = .ok (.iload_n 3, 1) := by decide +kernel
theorem dX12_wordOf_19 : decode cX12_wordOf 19 = .ok (.invokevirtual 79, 3) := by decide +kernel
theorem dX12_wordOf_22 : decode cX12_wordOf 22 = .ok (.bipush 97, 2) := by decide +kernel
theorem dX12_wordOf_24 : decode cX12_wordOf 24 = .ok (.isub, 1) := by decide +kernel
theorem dX12_wordOf_25 : decode cX12_wordOf 25 = .ok (.iconst 1, 1) := by decide +kernel
theorem dX12_wordOf_26 : decode cX12_wordOf 26 = .ok (.iadd, 1) := by decide +kernel
theorem dX12_wordOf_27 : decode cX12_wordOf 27 = .ok (.i2l, 1) := by decide +kernel
theorem dX12_wordOf_28 : decode cX12_wordOf 28 = .ok (.ladd, 1) := by decide +kernel
theorem dX12_wordOf_29 : decode cX12_wordOf 29 = .ok (.lstore_n 1, 1) := by decide +kernel
theorem dX12_wordOf_30 : decode cX12_wordOf 30 = .ok (.iinc 3 1, 3) := by decide +kernel
theorem dX12_wordOf_33 : decode cX12_wordOf 33 = .ok (.goto (-29), 3) := by decide +kernel
theorem dX12_wordOf_36 : decode cX12_wordOf 36 = .ok (.lload_n 1, 1) := by decide +kernel
theorem dX12_wordOf_37 : decode cX12_wordOf 37 = .ok (.lreturn, 1) := by decide +kernel
theorem dX12_goesOn_0 : decode cX12_goesOn 0 = .ok (.aload_n 0, 1) := by decide +kernel
theorem dX12_goesOn_1 : decode cX12_goesOn 1 = .ok (.getfield 83, 3) := by decide +kernel
theorem dX12_goesOn_4 : decode cX12_goesOn 4 = .ok (.iconst 5, 1) := by decide +kernel
theorem dX12_goesOn_5 : decode cX12_goesOn 5 = .ok (.if_icmp .ne 4, 3) := by decide +kernel
theorem dX12_goesOn_8 : decode cX12_goesOn 8 = .ok (.return_, 1) := by decide +kernel
theorem dX12_goesOn_9 : decode cX12_goesOn 9 = .ok (.aload_n 0, 1) := by decide +kernel
theorem dX12_goesOn_10 : decode cX12_goesOn 10 = .ok (.aload_n 0, 1) := by decide +kernel
theorem dX12_goesOn_11 : decode cX12_goesOn 11 = .ok (.getfield 86, 3) := by decide +kernel
theorem dX12_goesOn_14 : decode cX12_goesOn 14 = .ok (.invokevirtual 89, 3) := by decide +kernel
theorem dX12_goesOn_17 : decode cX12_goesOn 17 = .ok (.bipush 32, 2) := by decide +kernel
theorem dX12_goesOn_19 : decode cX12_goesOn 19 = .ok (.if_icmp .ne 16, 3) := by decide +kernel
theorem dX12_goesOn_22 : decode cX12_goesOn 22 = .ok (.aload_n 0, 1) := by decide +kernel
theorem dX12_goesOn_23 : decode cX12_goesOn 23 = .ok (.dup, 1) := by decide +kernel
theorem dX12_goesOn_24 : decode cX12_goesOn 24 = .ok (.getfield 86, 3) := by decide +kernel
theorem dX12_goesOn_27 : decode cX12_goesOn 27 = .ok (.iconst 1, 1) := by decide +kernel
theorem dX12_goesOn_28 : decode cX12_goesOn 28 = .ok (.iadd, 1) := by decide +kernel
theorem dX12_goesOn_29 : decode cX12_goesOn 29 = .ok (.putfield 86, 3) := by decide +kernel
theorem dX12_goesOn_32 : decode cX12_goesOn 32 = .ok (.goto (-23), 3) := by decide +kernel
theorem dX12_goesOn_35 : decode cX12_goesOn 35 = .ok (.aload_n 0, 1) := by decide +kernel
theorem dX12_goesOn_36 : decode cX12_goesOn 36 = .ok (.aload_n 0, 1) := by decide +kernel
theorem dX12_goesOn_37 : decode cX12_goesOn 37 = .ok (.getfield 86, 3) := by decide +kernel
theorem dX12_goesOn_40 : decode cX12_goesOn 40 = .ok (.putfield 92, 3) := by decide +kernel
theorem dX12_goesOn_43 : decode cX12_goesOn 43 = .ok (.aload_n 0, 1) := by decide +kernel
theorem dX12_goesOn_44 : decode cX12_goesOn 44 = .ok (.iconst 0, 1) := by decide +kernel
theorem dX12_goesOn_45 : decode cX12_goesOn 45 = .ok (.putfield 83, 3) := by decide +kernel
theorem dX12_goesOn_48 : decode cX12_goesOn 48 = .ok (.aload_n 0, 1) := by decide +kernel
theorem dX12_goesOn_49 : decode cX12_goesOn 49 = .ok (.aload_n 0, 1) := by decide +kernel
theorem dX12_goesOn_50 : decode cX12_goesOn 50 = .ok (.getfield 86, 3) := by decide +kernel
theorem dX12_goesOn_53 : decode cX12_goesOn 53 = .ok (.invokevirtual 89, 3) := by decide +kernel
theorem dX12_goesOn_56 : decode cX12_goesOn 56 = .ok (.istore_n 1, 1) := by decide +kernel
theorem dX12_goesOn_57 : decode cX12_goesOn 57 = .ok (.iconst 0, 1) := by decide +kernel
theorem dX12_goesOn_58 : decode cX12_goesOn 58 = .ok (.istore_n 2, 1) := by decide +kernel
theorem dX12_goesOn_59 : decode cX12_goesOn 59 = .ok (.iload_n 1, 1) := by decide +kernel
theorem dX12_goesOn_60 : decode cX12_goesOn 60 = .ok (.iconst (-1), 1) := by decide +kernel
theorem dX12_goesOn_61 : decode cX12_goesOn 61 = .ok (.if_icmp .ne 11, 3) := by decide +kernel
theorem dX12_goesOn_64 : decode cX12_goesOn 64 = .ok (.aload_n 0, 1) := by decide +kernel
theorem dX12_goesOn_65 : decode cX12_goesOn 65 = .ok (.iconst 1, 1) := by decide +kernel
theorem dX12_goesOn_66 : decode cX12_goesOn 66 = .ok (.putfield 83, 3) := by decide +kernel
theorem dX12_goesOn_69 : decode cX12_goesOn 69 = .ok (.goto 196, 3) := by decide +kernel
theorem dX12_goesOn_72 : decode cX12_goesOn 72 = .ok (.iload_n 1, 1) := by decide +kernel
theorem dX12_goesOn_73 : decode cX12_goesOn 73 = .ok (.invokestatic 95, 3) := by decide +kernel
theorem dX12_goesOn_76 : decode cX12_goesOn 76 = .ok (.ifCond .eq 85, 3) := by decide +kernel
theorem dX12_goesOn_79 : decode cX12_goesOn 79 = .ok (.aload_n 0, 1) := by decide +kernel
theorem dX12_goesOn_80 : decode cX12_goesOn 80 = .ok (.lconst 0, 1) := by decide +kernel
theorem dX12_goesOn_81 : decode cX12_goesOn 81 = .ok (.putfield 99, 3) := by decide +kernel
theorem dX12_goesOn_84 : decode cX12_goesOn 84 = .ok (.aload_n 0, 1) := by decide +kernel
theorem dX12_goesOn_85 : decode cX12_goesOn 85 = .ok (.aload_n 0, 1) := by decide +kernel
theorem dX12_goesOn_86 : decode cX12_goesOn 86 = .ok (.getfield 86, 3) := by decide +kernel
theorem dX12_goesOn_89 : decode cX12_goesOn 89 = .ok (.invokevirtual 89, 3) := by decide +kernel
theorem dX12_goesOn_92 : decode cX12_goesOn 92 = .ok (.invokestatic 95, 3) := by decide +kernel
theorem dX12_goesOn_95 : decode cX12_goesOn 95 = .ok (.ifCond .eq 52, 3) := by decide +kernel
theorem dX12_goesOn_98 : decode cX12_goesOn 98 = .ok (.iload_n 2, 1) := by decide +kernel
theorem dX12_goesOn_99 : decode cX12_goesOn 99 = .ok (.bipush 8, 2) := by decide +kernel
theorem dX12_goesOn_101 : decode cX12_goesOn 101 = .ok (.if_icmp .ge 30, 3) := by decide +kernel
theorem dX12_goesOn_104 : decode cX12_goesOn 104 = .ok (.aload_n 0, 1) := by decide +kernel
theorem dX12_goesOn_105 : decode cX12_goesOn 105 = .ok (.ldc2_w 77, 3) := by decide +kernel
theorem dX12_goesOn_108 : decode cX12_goesOn 108 = .ok (.aload_n 0, 1) := by decide +kernel
theorem dX12_goesOn_109 : decode cX12_goesOn 109 = .ok (.getfield 99, 3) := by decide +kernel
theorem dX12_goesOn_112 : decode cX12_goesOn 112 = .ok (.lmul, 1) := by decide +kernel
theorem dX12_goesOn_113 : decode cX12_goesOn 113 = .ok (.aload_n 0, 1) := by decide +kernel
theorem dX12_goesOn_114 : decode cX12_goesOn 114 = .ok (.aload_n 0, 1) := by decide +kernel
theorem dX12_goesOn_115 : decode cX12_goesOn 115 = .ok (.getfield 86, 3) := by decide +kernel
theorem dX12_goesOn_118 : decode cX12_goesOn 118 = .ok (.invokevirtual 89, 3) := by decide +kernel
theorem dX12_goesOn_121 : decode cX12_goesOn 121 = .ok (.bipush 97, 2) := by decide +kernel
theorem dX12_goesOn_123 : decode cX12_goesOn 123 = .ok (.isub, 1) := by decide +kernel
theorem dX12_goesOn_124 : decode cX12_goesOn 124 = .ok (.iconst 1, 1) := by decide +kernel
theorem dX12_goesOn_125 : decode cX12_goesOn 125 = .ok (.iadd, 1) := by decide +kernel
theorem dX12_goesOn_126 : decode cX12_goesOn 126 = .ok (.i2l, 1) := by decide +kernel
theorem dX12_goesOn_127 : decode cX12_goesOn 127 = .ok (.ladd, 1) := by decide +kernel
theorem dX12_goesOn_128 : decode cX12_goesOn 128 = .ok (.putfield 99, 3) := by decide +kernel
theorem dX12_goesOn_131 : decode cX12_goesOn 131 = .ok (.iinc 2 1, 3) := by decide +kernel
theorem dX12_goesOn_134 : decode cX12_goesOn 134 = .ok (.aload_n 0, 1) := by decide +kernel
theorem dX12_goesOn_135 : decode cX12_goesOn 135 = .ok (.dup, 1) := by decide +kernel
theorem dX12_goesOn_136 : decode cX12_goesOn 136 = .ok (.getfield 86, 3) := by decide +kernel
theorem dX12_goesOn_139 : decode cX12_goesOn 139 = .ok (.iconst 1, 1) := by decide +kernel
theorem dX12_goesOn_140 : decode cX12_goesOn 140 = .ok (.iadd, 1) := by decide +kernel
theorem dX12_goesOn_141 : decode cX12_goesOn 141 = .ok (.putfield 86, 3) := by decide +kernel
theorem dX12_goesOn_144 : decode cX12_goesOn 144 = .ok (.goto (-60), 3) := by decide +kernel
theorem dX12_goesOn_147 : decode cX12_goesOn 147 = .ok (.iload_n 2, 1) := by decide +kernel
theorem dX12_goesOn_148 : decode cX12_goesOn 148 = .ok (.bipush 8, 2) := by decide +kernel
theorem dX12_goesOn_150 : decode cX12_goesOn 150 = .ok (.if_icmp .gt 115, 3) := by decide +kernel
theorem dX12_goesOn_153 : decode cX12_goesOn 153 = .ok (.aload_n 0, 1) := by decide +kernel
theorem dX12_goesOn_154 : decode cX12_goesOn 154 = .ok (.iconst 2, 1) := by decide +kernel
theorem dX12_goesOn_155 : decode cX12_goesOn 155 = .ok (.putfield 83, 3) := by decide +kernel
theorem dX12_goesOn_158 : decode cX12_goesOn 158 = .ok (.goto 107, 3) := by decide +kernel
theorem dX12_goesOn_161 : decode cX12_goesOn 161 = .ok (.iload_n 1, 1) := by decide +kernel
theorem dX12_goesOn_162 : decode cX12_goesOn 162 = .ok (.invokestatic 103, 3) := by decide +kernel
theorem dX12_goesOn_165 : decode cX12_goesOn 165 = .ok (.ifCond .eq 79, 3) := by decide +kernel
theorem dX12_goesOn_168 : decode cX12_goesOn 168 = .ok (.aload_n 0, 1) := by decide +kernel
theorem dX12_goesOn_169 : decode cX12_goesOn 169 = .ok (.iconst 0, 1) := by decide +kernel
theorem dX12_goesOn_170 : decode cX12_goesOn 170 = .ok (.putfield 106, 3) := by decide +kernel
theorem dX12_goesOn_173 : decode cX12_goesOn 173 = .ok (.aload_n 0, 1) := by decide +kernel
theorem dX12_goesOn_174 : decode cX12_goesOn 174 = .ok (.aload_n 0, 1) := by decide +kernel
theorem dX12_goesOn_175 : decode cX12_goesOn 175 = .ok (.getfield 86, 3) := by decide +kernel
theorem dX12_goesOn_178 : decode cX12_goesOn 178 = .ok (.invokevirtual 89, 3) := by decide +kernel
theorem dX12_goesOn_181 : decode cX12_goesOn 181 = .ok (.invokestatic 103, 3) := by decide +kernel
theorem dX12_goesOn_184 : decode cX12_goesOn 184 = .ok (.ifCond .eq 47, 3) := by decide +kernel
theorem dX12_goesOn_187 : decode cX12_goesOn 187 = .ok (.iload_n 2, 1) := by decide +kernel
theorem dX12_goesOn_188 : decode cX12_goesOn 188 = .ok (.iconst 3, 1) := by decide +kernel
theorem dX12_goesOn_189 : decode cX12_goesOn 189 = .ok (.if_icmp .ge 26, 3) := by decide +kernel
theorem dX12_goesOn_192 : decode cX12_goesOn 192 = .ok (.aload_n 0, 1) := by decide +kernel
theorem dX12_goesOn_193 : decode cX12_goesOn 193 = .ok (.bipush 10, 2) := by decide +kernel
theorem dX12_goesOn_195 : decode cX12_goesOn 195 = .ok (.aload_n 0, 1) := by decide +kernel
theorem dX12_goesOn_196 : decode cX12_goesOn 196 = .ok (.getfield 106, 3) := by decide +kernel
theorem dX12_goesOn_199 : decode cX12_goesOn 199 = .ok (.imul, 1) := by decide +kernel
theorem dX12_goesOn_200 : decode cX12_goesOn 200 = .ok (.aload_n 0, 1) := by decide +kernel
theorem dX12_goesOn_201 : decode cX12_goesOn 201 = .ok (.aload_n 0, 1) := by decide +kernel
theorem dX12_goesOn_202 : decode cX12_goesOn 202 = .ok (.getfield 86, 3) := by decide +kernel
theorem dX12_goesOn_205 : decode cX12_goesOn 205 = .ok (.invokevirtual 89, 3) := by decide +kernel
theorem dX12_goesOn_208 : decode cX12_goesOn 208 = .ok (.iadd, 1) := by decide +kernel
theorem dX12_goesOn_209 : decode cX12_goesOn 209 = .ok (.bipush 48, 2) := by decide +kernel
theorem dX12_goesOn_211 : decode cX12_goesOn 211 = .ok (.isub, 1) := by decide +kernel
theorem dX12_goesOn_212 : decode cX12_goesOn 212 = .ok (.putfield 106, 3) := by decide +kernel
theorem dX12_goesOn_215 : decode cX12_goesOn 215 = .ok (.iinc 2 1, 3) := by decide +kernel
theorem dX12_goesOn_218 : decode cX12_goesOn 218 = .ok (.aload_n 0, 1) := by decide +kernel
theorem dX12_goesOn_219 : decode cX12_goesOn 219 = .ok (.dup, 1) := by decide +kernel
theorem dX12_goesOn_220 : decode cX12_goesOn 220 = .ok (.getfield 86, 3) := by decide +kernel
theorem dX12_goesOn_223 : decode cX12_goesOn 223 = .ok (.iconst 1, 1) := by decide +kernel
theorem dX12_goesOn_224 : decode cX12_goesOn 224 = .ok (.iadd, 1) := by decide +kernel
theorem dX12_goesOn_225 : decode cX12_goesOn 225 = .ok (.putfield 86, 3) := by decide +kernel
theorem dX12_goesOn_228 : decode cX12_goesOn 228 = .ok (.goto (-55), 3) := by decide +kernel
theorem dX12_goesOn_231 : decode cX12_goesOn 231 = .ok (.iload_n 2, 1) := by decide +kernel
theorem dX12_goesOn_232 : decode cX12_goesOn 232 = .ok (.iconst 3, 1) := by decide +kernel
theorem dX12_goesOn_233 : decode cX12_goesOn 233 = .ok (.if_icmp .gt 32, 3) := by decide +kernel
theorem dX12_goesOn_236 : decode cX12_goesOn 236 = .ok (.aload_n 0, 1) := by decide +kernel
theorem dX12_goesOn_237 : decode cX12_goesOn 237 = .ok (.iconst 3, 1) := by decide +kernel
theorem dX12_goesOn_238 : decode cX12_goesOn 238 = .ok (.putfield 83, 3) := by decide +kernel
theorem dX12_goesOn_241 : decode cX12_goesOn 241 = .ok (.goto 24, 3) := by decide +kernel
theorem dX12_goesOn_244 : decode cX12_goesOn 244 = .ok (.iload_n 1, 1) := by decide +kernel
theorem dX12_goesOn_245 : decode cX12_goesOn 245 = .ok (.bipush 59, 2) := by decide +kernel
theorem dX12_goesOn_247 : decode cX12_goesOn 247 = .ok (.if_icmp .ne 18, 3) := by decide +kernel
theorem dX12_goesOn_250 : decode cX12_goesOn 250 = .ok (.aload_n 0, 1) := by decide +kernel
theorem dX12_goesOn_251 : decode cX12_goesOn 251 = .ok (.iconst 4, 1) := by decide +kernel
theorem dX12_goesOn_252 : decode cX12_goesOn 252 = .ok (.putfield 83, 3) := by decide +kernel
theorem dX12_goesOn_255 : decode cX12_goesOn 255 = .ok (.aload_n 0, 1) := by decide +kernel
theorem dX12_goesOn_256 : decode cX12_goesOn 256 = .ok (.dup, 1) := by decide +kernel
theorem dX12_goesOn_257 : decode cX12_goesOn 257 = .ok (.getfield 86, 3) := by decide +kernel
theorem dX12_goesOn_260 : decode cX12_goesOn 260 = .ok (.iconst 1, 1) := by decide +kernel
theorem dX12_goesOn_261 : decode cX12_goesOn 261 = .ok (.iadd, 1) := by decide +kernel
theorem dX12_goesOn_262 : decode cX12_goesOn 262 = .ok (.putfield 86, 3) := by decide +kernel
theorem dX12_goesOn_265 : decode cX12_goesOn 265 = .ok (.return_, 1) := by decide +kernel
theorem dX12_wrong_0 : decode cX12_wrong 0 = .ok (.aload_n 0, 1) := by decide +kernel
theorem dX12_wrong_1 : decode cX12_wrong 1 = .ok (.getfield 83, 3) := by decide +kernel
theorem dX12_wrong_4 : decode cX12_wrong 4 = .ok (.iconst 5, 1) := by decide +kernel
theorem dX12_wrong_5 : decode cX12_wrong 5 = .ok (.if_icmp .ne 4, 3) := by decide +kernel
theorem dX12_wrong_8 : decode cX12_wrong 8 = .ok (.return_, 1) := by decide +kernel
theorem dX12_wrong_9 : decode cX12_wrong 9 = .ok (.aload_n 0, 1) := by decide +kernel
theorem dX12_wrong_10 : decode cX12_wrong 10 = .ok (.iload_n 1, 1) := by decide +kernel
theorem dX12_wrong_11 : decode cX12_wrong 11 = .ok (.putfield 109, 3) := by decide +kernel
theorem dX12_wrong_14 : decode cX12_wrong 14 = .ok (.aload_n 0, 1) := by decide +kernel
theorem dX12_wrong_15 : decode cX12_wrong 15 = .ok (.aload_n 0, 1) := by decide +kernel
theorem dX12_wrong_16 : decode cX12_wrong 16 = .ok (.getfield 92, 3) := by decide +kernel
theorem dX12_wrong_19 : decode cX12_wrong 19 = .ok (.putfield 112, 3) := by decide +kernel
theorem dX12_wrong_22 : decode cX12_wrong 22 = .ok (.aload_n 0, 1) := by decide +kernel
theorem dX12_wrong_23 : decode cX12_wrong 23 = .ok (.iconst 5, 1) := by decide +kernel
theorem dX12_wrong_24 : decode cX12_wrong 24 = .ok (.putfield 83, 3) := by decide +kernel
theorem dX12_wrong_27 : decode cX12_wrong 27 = .ok (.return_, 1) := by decide +kernel
theorem dX12_isWord_0 : decode cX12_isWord 0 = .ok (.aload_n 0, 1) := by decide +kernel
theorem dX12_isWord_1 : decode cX12_isWord 1 = .ok (.getfield 83, 3) := by decide +kernel
theorem dX12_isWord_4 : decode cX12_isWord 4 = .ok (.iconst 2, 1) := by decide +kernel
theorem dX12_isWord_5 : decode cX12_isWord 5 = .ok (.if_icmp .ne 19, 3) := by decide +kernel
theorem dX12_isWord_8 : decode cX12_isWord 8 = .ok (.aload_n 0, 1) := by decide +kernel
theorem dX12_isWord_9 : decode cX12_isWord 9 = .ok (.getfield 99, 3) := by decide +kernel
theorem dX12_isWord_12 : decode cX12_isWord 12 = .ok (.aload_n 1, 1) := by decide +kernel
theorem dX12_isWord_13 : decode cX12_isWord 13 = .ok (.invokestatic 115, 3) := by decide +kernel
theorem dX12_isWord_16 : decode cX12_isWord 16 = .ok (.lcmp, 1) := by decide +kernel
theorem dX12_isWord_17 : decode cX12_isWord 17 = .ok (.ifCond .ne 7, 3) := by decide +kernel
theorem dX12_isWord_20 : decode cX12_isWord 20 = .ok (.iconst 1, 1) := by decide +kernel
theorem dX12_isWord_21 : decode cX12_isWord 21 = .ok (.goto 4, 3) := by decide +kernel
theorem dX12_isWord_24 : decode cX12_isWord 24 = .ok (.iconst 0, 1) := by decide +kernel
theorem dX12_isWord_25 : decode cX12_isWord 25 = .ok (.ireturn, 1) := by decide +kernel
theorem dX12_eats_0 : decode cX12_eats 0 = .ok (.aload_n 0, 1) := by decide +kernel
theorem dX12_eats_1 : decode cX12_eats 1 = .ok (.aload_n 1, 1) := by decide +kernel
theorem dX12_eats_2 : decode cX12_eats 2 = .ok (.invokevirtual 119, 3) := by decide +kernel
theorem dX12_eats_5 : decode cX12_eats 5 = .ok (.istore_n 2, 1) := by decide +kernel
theorem dX12_eats_6 : decode cX12_eats 6 = .ok (.iload_n 2, 1) := by decide +kernel
theorem dX12_eats_7 : decode cX12_eats 7 = .ok (.ifCond .eq 7, 3) := by decide +kernel
theorem dX12_eats_10 : decode cX12_eats 10 = .ok (.aload_n 0, 1) := by decide +kernel
theorem dX12_eats_11 : decode cX12_eats 11 = .ok (.invokevirtual 123, 3) := by decide +kernel
theorem dX12_eats_14 : decode cX12_eats 14 = .ok (.iload_n 2, 1) := by decide +kernel
theorem dX12_eats_15 : decode cX12_eats 15 = .ok (.ireturn, 1) := by decide +kernel
theorem dX12_needs_0 : decode cX12_needs 0 = .ok (.aload_n 0, 1) := by decide +kernel
theorem dX12_needs_1 : decode cX12_needs 1 = .ok (.aload_n 1, 1) := by decide +kernel
theorem dX12_needs_2 : decode cX12_needs 2 = .ok (.invokevirtual 119, 3) := by decide +kernel
theorem dX12_needs_5 : decode cX12_needs 5 = .ok (.ifCond .ne 8, 3) := by decide +kernel
theorem dX12_needs_8 : decode cX12_needs 8 = .ok (.aload_n 0, 1) := by decide +kernel
theorem dX12_needs_9 : decode cX12_needs 9 = .ok (.iconst 1, 1) := by decide +kernel
theorem dX12_needs_10 : decode cX12_needs 10 = .ok (.invokevirtual 126, 3) := by decide +kernel
theorem dX12_needs_13 : decode cX12_needs 13 = .ok (.aload_n 0, 1) := by decide +kernel
theorem dX12_needs_14 : decode cX12_needs 14 = .ok (.invokevirtual 123, 3) := by decide +kernel
theorem dX12_needs_17 : decode cX12_needs 17 = .ok (.return_, 1) := by decide +kernel
theorem dX12_readWhole_0 : decode cX12_readWhole 0 = .ok (.aload_n 0, 1) := by decide +kernel
theorem dX12_readWhole_1 : decode cX12_readWhole 1 = .ok (.getfield 83, 3) := by decide +kernel
theorem dX12_readWhole_4 : decode cX12_readWhole 4 = .ok (.iconst 3, 1) := by decide +kernel
theorem dX12_readWhole_5 : decode cX12_readWhole 5 = .ok (.if_icmp .eq 11, 3) := by decide +kernel
theorem dX12_readWhole_8 : decode cX12_readWhole 8 = .ok (.aload_n 0, 1) := by decide +kernel
theorem dX12_readWhole_9 : decode cX12_readWhole 9 = .ok (.iconst 1, 1) := by decide +kernel
theorem dX12_readWhole_10 : decode cX12_readWhole 10 = .ok (.invokevirtual 126, 3) := by decide +kernel
theorem dX12_readWhole_13 : decode cX12_readWhole 13 = .ok (.goto 20, 3) := by decide +kernel
theorem dX12_readWhole_16 : decode cX12_readWhole 16 = .ok (.aload_n 0, 1) := by decide +kernel
theorem dX12_readWhole_17 : decode cX12_readWhole 17 = .ok (.getfield 106, 3) := by decide +kernel
theorem dX12_readWhole_20 : decode cX12_readWhole 20 = .ok (.iload_n 1, 1) := by decide +kernel
theorem dX12_readWhole_21 : decode cX12_readWhole 21 = .ok (.iload_n 2, 1) := by decide +kernel
theorem dX12_readWhole_22 : decode cX12_readWhole 22 = .ok (.invokestatic 130, 3) := by decide +kernel
theorem dX12_readWhole_25 : decode cX12_readWhole 25 = .ok (.ifCond .ne 8, 3) := by decide +kernel
theorem dX12_readWhole_28 : decode cX12_readWhole 28 = .ok (.aload_n 0, 1) := by decide +kernel
theorem dX12_readWhole_29 : decode cX12_readWhole 29 = .ok (.iconst 4, 1) := by decide +kernel
theorem dX12_readWhole_30 : decode cX12_readWhole 30 = .ok (.invokevirtual 126, 3) := by decide +kernel
theorem dX12_readWhole_33 : decode cX12_readWhole 33 = .ok (.aload_n 0, 1) := by decide +kernel
theorem dX12_readWhole_34 : decode cX12_readWhole 34 = .ok (.getfield 106, 3) := by decide +kernel
theorem dX12_readWhole_37 : decode cX12_readWhole 37 = .ok (.istore_n 3, 1) := by decide +kernel
theorem dX12_readWhole_38 : decode cX12_readWhole 38 = .ok (.aload_n 0, 1) := by decide +kernel
theorem dX12_readWhole_39 : decode cX12_readWhole 39 = .ok (.invokevirtual 123, 3) := by decide +kernel
theorem dX12_readWhole_42 : decode cX12_readWhole 42 = .ok (.iload_n 3, 1) := by decide +kernel
theorem dX12_readWhole_43 : decode cX12_readWhole 43 = .ok (.ireturn, 1) := by decide +kernel
theorem dX12_isName_0 : decode cX12_isName 0 = .ok (.aload_n 0, 1) := by decide +kernel
theorem dX12_isName_1 : decode cX12_isName 1 = .ok (.getfield 83, 3) := by decide +kernel
theorem dX12_isName_4 : decode cX12_isName 4 = .ok (.iconst 2, 1) := by decide +kernel
theorem dX12_isName_5 : decode cX12_isName 5 = .ok (.if_icmp .eq 5, 3) := by decide +kernel
theorem dX12_isName_8 : decode cX12_isName 8 = .ok (.iconst 0, 1) := by decide +kernel
theorem dX12_isName_9 : decode cX12_isName 9 = .ok (.ireturn, 1) := by decide +kernel
theorem dX12_isName_10 : decode cX12_isName 10 = .ok (.aload_n 0, 1) := by decide +kernel
theorem dX12_isName_11 : decode cX12_isName 11 = .ok (.ldc 134, 2) := by decide +kernel
theorem dX12_isName_13 : decode cX12_isName 13 = .ok (.invokevirtual 119, 3) := by decide +kernel
theorem dX12_isName_16 : decode cX12_isName 16 = .ok (.ifCond .ne 57, 3) := by decide +kernel
theorem dX12_isName_19 : decode cX12_isName 19 = .ok (.aload_n 0, 1) := by decide +kernel
theorem dX12_isName_20 : decode cX12_isName 20 = .ok (.ldc 135, 2) := by decide +kernel
theorem dX12_isName_22 : decode cX12_isName 22 = .ok (.invokevirtual 119, 3) := by decide +kernel
theorem dX12_isName_25 : decode cX12_isName 25 = .ok (.ifCond .ne 48, 3) := by decide +kernel
theorem dX12_isName_28 : decode cX12_isName 28 = .ok (.aload_n 0, 1) := by decide +kernel
theorem dX12_isName_29 : decode cX12_isName 29 = .ok (.ldc 137, 2) := by decide +kernel
theorem dX12_isName_31 : decode cX12_isName 31 = .ok (.invokevirtual 119, 3) := by decide +kernel
theorem dX12_isName_34 : decode cX12_isName 34 = .ok (.ifCond .ne 39, 3) := by decide +kernel
theorem dX12_isName_37 : decode cX12_isName 37 = .ok (.aload_n 0, 1) := by decide +kernel
theorem dX12_isName_38 : decode cX12_isName 38 = .ok (.ldc 139, 2) := by decide +kernel
theorem dX12_isName_40 : decode cX12_isName 40 = .ok (.invokevirtual 119, 3) := by decide +kernel
theorem dX12_isName_43 : decode cX12_isName 43 = .ok (.ifCond .ne 30, 3) := by decide +kernel
theorem dX12_isName_46 : decode cX12_isName 46 = .ok (.aload_n 0, 1) := by decide +kernel
theorem dX12_isName_47 : decode cX12_isName 47 = .ok (.ldc 141, 2) := by decide +kernel
theorem dX12_isName_49 : decode cX12_isName 49 = .ok (.invokevirtual 119, 3) := by decide +kernel
theorem dX12_isName_52 : decode cX12_isName 52 = .ok (.ifCond .ne 21, 3) := by decide +kernel
theorem dX12_isName_55 : decode cX12_isName 55 = .ok (.aload_n 0, 1) := by decide +kernel
theorem dX12_isName_56 : decode cX12_isName 56 = .ok (.ldc 143, 2) := by decide +kernel
theorem dX12_isName_58 : decode cX12_isName 58 = .ok (.invokevirtual 119, 3) := by decide +kernel
theorem dX12_isName_61 : decode cX12_isName 61 = .ok (.ifCond .ne 12, 3) := by decide +kernel
theorem dX12_isName_64 : decode cX12_isName 64 = .ok (.aload_n 0, 1) := by decide +kernel
theorem dX12_isName_65 : decode cX12_isName 65 = .ok (.ldc 145, 2) := by decide +kernel
theorem dX12_isName_67 : decode cX12_isName 67 = .ok (.invokevirtual 119, 3) := by decide +kernel
theorem dX12_isName_70 : decode cX12_isName 70 = .ok (.ifCond .eq 5, 3) := by decide +kernel
theorem dX12_isName_73 : decode cX12_isName 73 = .ok (.iconst 0, 1) := by decide +kernel
theorem dX12_isName_74 : decode cX12_isName 74 = .ok (.ireturn, 1) := by decide +kernel
theorem dX12_isName_75 : decode cX12_isName 75 = .ok (.aload_n 0, 1) := by decide +kernel
theorem dX12_isName_76 : decode cX12_isName 76 = .ok (.ldc 147, 2) := by decide +kernel
theorem dX12_isName_78 : decode cX12_isName 78 = .ok (.invokevirtual 119, 3) := by decide +kernel
theorem dX12_isName_81 : decode cX12_isName 81 = .ok (.ifCond .ne 70, 3) := by decide +kernel
theorem dX12_isName_84 : decode cX12_isName 84 = .ok (.aload_n 0, 1) := by decide +kernel
theorem dX12_isName_85 : decode cX12_isName 85 = .ok (.ldc 149, 2) := by decide +kernel
theorem dX12_isName_87 : decode cX12_isName 87 = .ok (.invokevirtual 119, 3) := by decide +kernel
theorem dX12_isName_90 : decode cX12_isName 90 = .ok (.ifCond .ne 61, 3) := by decide +kernel
theorem dX12_isName_93 : decode cX12_isName 93 = .ok (.aload_n 0, 1) := by decide +kernel
theorem dX12_isName_94 : decode cX12_isName 94 = .ok (.ldc 151, 2) := by decide +kernel
theorem dX12_isName_96 : decode cX12_isName 96 = .ok (.invokevirtual 119, 3) := by decide +kernel
theorem dX12_isName_99 : decode cX12_isName 99 = .ok (.ifCond .ne 52, 3) := by decide +kernel
theorem dX12_isName_102 : decode cX12_isName 102 = .ok (.aload_n 0, 1) := by decide +kernel
theorem dX12_isName_103 : decode cX12_isName 103 = .ok (.ldc 153, 2) := by decide +kernel
theorem dX12_isName_105 : decode cX12_isName 105 = .ok (.invokevirtual 119, 3) := by decide +kernel
theorem dX12_isName_108 : decode cX12_isName 108 = .ok (.ifCond .ne 43, 3) := by decide +kernel
theorem dX12_isName_111 : decode cX12_isName 111 = .ok (.aload_n 0, 1) := by decide +kernel
theorem dX12_isName_112 : decode cX12_isName 112 = .ok (.ldc 155, 2) := by decide +kernel
theorem dX12_isName_114 : decode cX12_isName 114 = .ok (.invokevirtual 119, 3) := by decide +kernel
theorem dX12_isName_117 : decode cX12_isName 117 = .ok (.ifCond .ne 34, 3) := by decide +kernel
theorem dX12_isName_120 : decode cX12_isName 120 = .ok (.aload_n 0, 1) := by decide +kernel
theorem dX12_isName_121 : decode cX12_isName 121 = .ok (.ldc 157, 2) := by decide +kernel
theorem dX12_isName_123 : decode cX12_isName 123 = .ok (.invokevirtual 119, 3) := by decide +kernel
theorem dX12_isName_126 : decode cX12_isName 126 = .ok (.ifCond .ne 25, 3) := by decide +kernel
theorem dX12_isName_129 : decode cX12_isName 129 = .ok (.aload_n 0, 1) := by decide +kernel
theorem dX12_isName_130 : decode cX12_isName 130 = .ok (.ldc 159, 2) := by decide +kernel
theorem dX12_isName_132 : decode cX12_isName 132 = .ok (.invokevirtual 119, 3) := by decide +kernel
theorem dX12_isName_135 : decode cX12_isName 135 = .ok (.ifCond .ne 16, 3) := by decide +kernel
theorem dX12_isName_138 : decode cX12_isName 138 = .ok (.aload_n 0, 1) := by decide +kernel
theorem dX12_isName_139 : decode cX12_isName 139 = .ok (.ldc 161, 2) := by decide +kernel
theorem dX12_isName_141 : decode cX12_isName 141 = .ok (.invokevirtual 119, 3) := by decide +kernel
theorem dX12_isName_144 : decode cX12_isName 144 = .ok (.ifCond .ne 7, 3) := by decide +kernel
theorem dX12_isName_147 : decode cX12_isName 147 = .ok (.iconst 1, 1) := by decide +kernel
theorem dX12_isName_148 : decode cX12_isName 148 = .ok (.goto 4, 3) := by decide +kernel
theorem dX12_isName_151 : decode cX12_isName 151 = .ok (.iconst 0, 1) := by decide +kernel
theorem dX12_isName_152 : decode cX12_isName 152 = .ok (.ireturn, 1) := by decide +kernel
theorem dX12_readFresh_0 : decode cX12_readFresh 0 = .ok (.aload_n 0, 1) := by decide +kernel
theorem dX12_readFresh_1 : decode cX12_readFresh 1 = .ok (.invokevirtual 163, 3) := by decide +kernel
theorem dX12_readFresh_4 : decode cX12_readFresh 4 = .ok (.ifCond .ne 8, 3) := by decide +kernel
theorem dX12_readFresh_7 : decode cX12_readFresh 7 = .ok (.aload_n 0, 1) := by decide +kernel
theorem dX12_readFresh_8 : decode cX12_readFresh 8 = .ok (.iconst 1, 1) := by decide +kernel
theorem dX12_readFresh_9 : decode cX12_readFresh 9 = .ok (.invokevirtual 126, 3) := by decide +kernel
theorem dX12_readFresh_12 : decode cX12_readFresh 12 = .ok (.aload_n 0, 1) := by decide +kernel
theorem dX12_readFresh_13 : decode cX12_readFresh 13 = .ok (.getfield 167, 3) := by decide +kernel
theorem dX12_readFresh_16 : decode cX12_readFresh 16 = .ok (.aload_n 0, 1) := by decide +kernel
theorem dX12_readFresh_17 : decode cX12_readFresh 17 = .ok (.getfield 99, 3) := by decide +kernel
theorem dX12_readFresh_20 : decode cX12_readFresh 20 = .ok (.invokevirtual 171, 3) := by decide +kernel
theorem dX12_readFresh_23 : decode cX12_readFresh 23 = .ok (.iconst (-1), 1) := by decide +kernel
theorem dX12_readFresh_24 : decode cX12_readFresh 24 = .ok (.if_icmp .eq 8, 3) := by decide +kernel
theorem dX12_readFresh_27 : decode cX12_readFresh 27 = .ok (.aload_n 0, 1) := by decide +kernel
theorem dX12_readFresh_28 : decode cX12_readFresh 28 = .ok (.iconst 3, 1) := by decide +kernel
theorem dX12_readFresh_29 : decode cX12_readFresh 29 = .ok (.invokevirtual 126, 3) := by decide +kernel
theorem dX12_readFresh_32 : decode cX12_readFresh 32 = .ok (.aload_n 0, 1) := by decide +kernel
theorem dX12_readFresh_33 : decode cX12_readFresh 33 = .ok (.getfield 83, 3) := by decide +kernel
theorem dX12_readFresh_36 : decode cX12_readFresh 36 = .ok (.iconst 5, 1) := by decide +kernel
theorem dX12_readFresh_37 : decode cX12_readFresh 37 = .ok (.if_icmp .ne 4, 3) := by decide +kernel
theorem dX12_readFresh_40 : decode cX12_readFresh 40 = .ok (.return_, 1) := by decide +kernel
theorem dX12_readFresh_41 : decode cX12_readFresh 41 = .ok (.aload_n 0, 1) := by decide +kernel
theorem dX12_readFresh_42 : decode cX12_readFresh 42 = .ok (.getfield 167, 3) := by decide +kernel
theorem dX12_readFresh_45 : decode cX12_readFresh 45 = .ok (.getfield 177, 3) := by decide +kernel
theorem dX12_readFresh_48 : decode cX12_readFresh 48 = .ok (.aload_n 0, 1) := by decide +kernel
theorem dX12_readFresh_49 : decode cX12_readFresh 49 = .ok (.getfield 167, 3) := by decide +kernel
theorem dX12_readFresh_52 : decode cX12_readFresh 52 = .ok (.getfield 181, 3) := by decide +kernel
theorem dX12_readFresh_55 : decode cX12_readFresh 55 = .ok (.aload_n 0, 1) := by decide +kernel
theorem dX12_readFresh_56 : decode cX12_readFresh 56 = .ok (.getfield 99, 3) := by decide +kernel
theorem dX12_readFresh_59 : decode cX12_readFresh 59 = .ok (.lastore, 1) := by decide +kernel
theorem dX12_readFresh_60 : decode cX12_readFresh 60 = .ok (.aload_n 0, 1) := by decide +kernel
theorem dX12_readFresh_61 : decode cX12_readFresh 61 = .ok (.getfield 167, 3) := by decide +kernel
theorem dX12_readFresh_64 : decode cX12_readFresh 64 = .ok (.getfield 184, 3) := by decide +kernel
theorem dX12_readFresh_67 : decode cX12_readFresh 67 = .ok (.aload_n 0, 1) := by decide +kernel
theorem dX12_readFresh_68 : decode cX12_readFresh 68 = .ok (.getfield 167, 3) := by decide +kernel
theorem dX12_readFresh_71 : decode cX12_readFresh 71 = .ok (.getfield 181, 3) := by decide +kernel
theorem dX12_readFresh_74 : decode cX12_readFresh 74 = .ok (.iload_n 1, 1) := by decide +kernel
theorem dX12_readFresh_75 : decode cX12_readFresh 75 = .ok (.iastore, 1) := by decide +kernel
theorem dX12_readFresh_76 : decode cX12_readFresh 76 = .ok (.aload_n 0, 1) := by decide +kernel
theorem dX12_readFresh_77 : decode cX12_readFresh 77 = .ok (.getfield 167, 3) := by decide +kernel
theorem dX12_readFresh_80 : decode cX12_readFresh 80 = .ok (.getfield 187, 3) := by decide +kernel
theorem dX12_readFresh_83 : decode cX12_readFresh 83 = .ok (.aload_n 0, 1) := by decide +kernel
theorem dX12_readFresh_84 : decode cX12_readFresh 84 = .ok (.getfield 167, 3) := by decide +kernel
theorem dX12_readFresh_87 : decode cX12_readFresh 87 = .ok (.getfield 181, 3) := by decide +kernel
theorem dX12_readFresh_90 : decode cX12_readFresh 90 = .ok (.iload_n 2, 1) := by decide +kernel
theorem dX12_readFresh_91 : decode cX12_readFresh 91 = .ok (.iastore, 1) := by decide +kernel
theorem dX12_readFresh_92 : decode cX12_readFresh 92 = .ok (.aload_n 0, 1) := by decide +kernel
theorem dX12_readFresh_93 : decode cX12_readFresh 93 = .ok (.getfield 167, 3) := by decide +kernel
theorem dX12_readFresh_96 : decode cX12_readFresh 96 = .ok (.dup, 1) := by decide +kernel
theorem dX12_readFresh_97 : decode cX12_readFresh 97 = .ok (.getfield 181, 3) := by decide +kernel
theorem dX12_readFresh_100 : decode cX12_readFresh 100 = .ok (.iconst 1, 1) := by decide +kernel
theorem dX12_readFresh_101 : decode cX12_readFresh 101 = .ok (.iadd, 1) := by decide +kernel
theorem dX12_readFresh_102 : decode cX12_readFresh 102 = .ok (.putfield 181, 3) := by decide +kernel
theorem dX12_readFresh_105 : decode cX12_readFresh 105 = .ok (.aload_n 0, 1) := by decide +kernel
theorem dX12_readFresh_106 : decode cX12_readFresh 106 = .ok (.invokevirtual 123, 3) := by decide +kernel
theorem dX12_readFresh_109 : decode cX12_readFresh 109 = .ok (.return_, 1) := by decide +kernel
theorem dX12_known_0 : decode cX12_known 0 = .ok (.aload_n 0, 1) := by decide +kernel
theorem dX12_known_1 : decode cX12_known 1 = .ok (.invokevirtual 163, 3) := by decide +kernel
theorem dX12_known_4 : decode cX12_known 4 = .ok (.ifCond .ne 8, 3) := by decide +kernel
theorem dX12_known_7 : decode cX12_known 7 = .ok (.aload_n 0, 1) := by decide +kernel
theorem dX12_known_8 : decode cX12_known 8 = .ok (.iconst 1, 1) := by decide +kernel
theorem dX12_known_9 : decode cX12_known 9 = .ok (.invokevirtual 126, 3) := by decide +kernel
theorem dX12_known_12 : decode cX12_known 12 = .ok (.aload_n 0, 1) := by decide +kernel
theorem dX12_known_13 : decode cX12_known 13 = .ok (.getfield 167, 3) := by decide +kernel
theorem dX12_known_16 : decode cX12_known 16 = .ok (.aload_n 0, 1) := by decide +kernel
theorem dX12_known_17 : decode cX12_known 17 = .ok (.getfield 99, 3) := by decide +kernel
theorem dX12_known_20 : decode cX12_known 20 = .ok (.invokevirtual 171, 3) := by decide +kernel
theorem dX12_known_23 : decode cX12_known 23 = .ok (.istore_n 2, 1) := by decide +kernel
theorem dX12_known_24 : decode cX12_known 24 = .ok (.iload_n 2, 1) := by decide +kernel
theorem dX12_known_25 : decode cX12_known 25 = .ok (.iconst (-1), 1) := by decide +kernel
theorem dX12_known_26 : decode cX12_known 26 = .ok (.if_icmp .eq 16, 3) := by decide +kernel
theorem dX12_known_29 : decode cX12_known 29 = .ok (.aload_n 0, 1) := by decide +kernel
theorem dX12_known_30 : decode cX12_known 30 = .ok (.getfield 167, 3) := by decide +kernel
theorem dX12_known_33 : decode cX12_known 33 = .ok (.getfield 184, 3) := by decide +kernel
theorem dX12_known_36 : decode cX12_known 36 = .ok (.iload_n 2, 1) := by decide +kernel
theorem dX12_known_37 : decode cX12_known 37 = .ok (.iaload, 1) := by decide +kernel
theorem dX12_known_38 : decode cX12_known 38 = .ok (.iload_n 1, 1) := by decide +kernel
theorem dX12_known_39 : decode cX12_known 39 = .ok (.if_icmp .eq 8, 3) := by decide +kernel
theorem dX12_known_42 : decode cX12_known 42 = .ok (.aload_n 0, 1) := by decide +kernel
theorem dX12_known_43 : decode cX12_known 43 = .ok (.iconst 2, 1) := by decide +kernel
theorem dX12_known_44 : decode cX12_known 44 = .ok (.invokevirtual 126, 3) := by decide +kernel
theorem dX12_known_47 : decode cX12_known 47 = .ok (.aload_n 0, 1) := by decide +kernel
theorem dX12_known_48 : decode cX12_known 48 = .ok (.getfield 83, 3) := by decide +kernel
theorem dX12_known_51 : decode cX12_known 51 = .ok (.iconst 5, 1) := by decide +kernel
theorem dX12_known_52 : decode cX12_known 52 = .ok (.if_icmp .ne 7, 3) := by decide +kernel
theorem dX12_known_55 : decode cX12_known 55 = .ok (.iconst 0, 1) := by decide +kernel
theorem dX12_known_56 : decode cX12_known 56 = .ok (.goto 12, 3) := by decide +kernel
theorem dX12_known_59 : decode cX12_known 59 = .ok (.aload_n 0, 1) := by decide +kernel
theorem dX12_known_60 : decode cX12_known 60 = .ok (.getfield 167, 3) := by decide +kernel
theorem dX12_known_63 : decode cX12_known 63 = .ok (.getfield 187, 3) := by decide +kernel
theorem dX12_known_66 : decode cX12_known 66 = .ok (.iload_n 2, 1) := by decide +kernel
theorem dX12_known_67 : decode cX12_known 67 = .ok (.iaload, 1) := by decide +kernel
theorem dX12_known_68 : decode cX12_known 68 = .ok (.ireturn, 1) := by decide +kernel
theorem dX12_readKnown_0 : decode cX12_readKnown 0 = .ok (.aload_n 0, 1) := by decide +kernel
theorem dX12_readKnown_1 : decode cX12_readKnown 1 = .ok (.iload_n 1, 1) := by decide +kernel
theorem dX12_readKnown_2 : decode cX12_readKnown 2 = .ok (.invokevirtual 190, 3) := by decide +kernel
theorem dX12_readKnown_5 : decode cX12_readKnown 5 = .ok (.istore_n 2, 1) := by decide +kernel
theorem dX12_readKnown_6 : decode cX12_readKnown 6 = .ok (.aload_n 0, 1) := by decide +kernel
theorem dX12_readKnown_7 : decode cX12_readKnown 7 = .ok (.invokevirtual 123, 3) := by decide +kernel
theorem dX12_readKnown_10 : decode cX12_readKnown 10 = .ok (.iload_n 2, 1) := by decide +kernel
theorem dX12_readKnown_11 : decode cX12_readKnown 11 = .ok (.ireturn, 1) := by decide +kernel
theorem dX12_readOther_0 : decode cX12_readOther 0 = .ok (.aload_n 0, 1) := by decide +kernel
theorem dX12_readOther_1 : decode cX12_readOther 1 = .ok (.iconst 0, 1) := by decide +kernel
theorem dX12_readOther_2 : decode cX12_readOther 2 = .ok (.invokevirtual 190, 3) := by decide +kernel
theorem dX12_readOther_5 : decode cX12_readOther 5 = .ok (.istore_n 2, 1) := by decide +kernel
theorem dX12_readOther_6 : decode cX12_readOther 6 = .ok (.iload_n 2, 1) := by decide +kernel
theorem dX12_readOther_7 : decode cX12_readOther 7 = .ok (.iload_n 1, 1) := by decide +kernel
theorem dX12_readOther_8 : decode cX12_readOther 8 = .ok (.if_icmp .ne 8, 3) := by decide +kernel
theorem dX12_readOther_11 : decode cX12_readOther 11 = .ok (.aload_n 0, 1) := by decide +kernel
theorem dX12_readOther_12 : decode cX12_readOther 12 = .ok (.iconst 3, 1) := by decide +kernel
theorem dX12_readOther_13 : decode cX12_readOther 13 = .ok (.invokevirtual 126, 3) := by decide +kernel
theorem dX12_readOther_16 : decode cX12_readOther 16 = .ok (.aload_n 0, 1) := by decide +kernel
theorem dX12_readOther_17 : decode cX12_readOther 17 = .ok (.invokevirtual 123, 3) := by decide +kernel
theorem dX12_readOther_20 : decode cX12_readOther 20 = .ok (.iload_n 2, 1) := by decide +kernel
theorem dX12_readOther_21 : decode cX12_readOther 21 = .ok (.ireturn, 1) := by decide +kernel
theorem dX12_readEither_0 : decode cX12_readEither 0 = .ok (.aload_n 0, 1) := by decide +kernel
theorem dX12_readEither_1 : decode cX12_readEither 1 = .ok (.aload_n 2, 1) := by decide +kernel
theorem dX12_readEither_2 : decode cX12_readEither 2 = .ok (.invokevirtual 119, 3) := by decide +kernel
theorem dX12_readEither_5 : decode cX12_readEither 5 = .ok (.istore_n 3, 1) := by decide +kernel
theorem dX12_readEither_6 : decode cX12_readEither 6 = .ok (.iload_n 3, 1) := by decide +kernel
theorem dX12_readEither_7 : decode cX12_readEither 7 = .ok (.ifCond .ne 16, 3) := by decide +kernel
theorem dX12_readEither_10 : decode cX12_readEither 10 = .ok (.aload_n 0, 1) := by decide +kernel
theorem dX12_readEither_11 : decode cX12_readEither 11 = .ok (.aload_n 1, 1) := by decide +kernel
theorem dX12_readEither_12 : decode cX12_readEither 12 = .ok (.invokevirtual 119, 3) := by decide +kernel
theorem dX12_readEither_15 : decode cX12_readEither 15 = .ok (.ifCond .ne 8, 3) := by decide +kernel
theorem dX12_readEither_18 : decode cX12_readEither 18 = .ok (.aload_n 0, 1) := by decide +kernel
theorem dX12_readEither_19 : decode cX12_readEither 19 = .ok (.iconst 1, 1) := by decide +kernel
theorem dX12_readEither_20 : decode cX12_readEither 20 = .ok (.invokevirtual 126, 3) := by decide +kernel
theorem dX12_readEither_23 : decode cX12_readEither 23 = .ok (.aload_n 0, 1) := by decide +kernel
theorem dX12_readEither_24 : decode cX12_readEither 24 = .ok (.invokevirtual 123, 3) := by decide +kernel
theorem dX12_readEither_27 : decode cX12_readEither 27 = .ok (.iload_n 3, 1) := by decide +kernel
theorem dX12_readEither_28 : decode cX12_readEither 28 = .ok (.ireturn, 1) := by decide +kernel
theorem dX12_readRealm_0 : decode cX12_readRealm 0 = .ok (.iconst 1, 1) := by decide +kernel
theorem dX12_readRealm_1 : decode cX12_readRealm 1 = .ok (.istore_n 1, 1) := by decide +kernel
theorem dX12_readRealm_2 : decode cX12_readRealm 2 = .ok (.iload_n 1, 1) := by decide +kernel
theorem dX12_readRealm_3 : decode cX12_readRealm 3 = .ok (.ifCond .eq 32, 3) := by decide +kernel
theorem dX12_readRealm_6 : decode cX12_readRealm 6 = .ok (.aload_n 0, 1) := by decide +kernel
theorem dX12_readRealm_7 : decode cX12_readRealm 7 = .ok (.invokevirtual 193, 3) := by decide +kernel
theorem dX12_readRealm_10 : decode cX12_readRealm 10 = .ok (.aload_n 0, 1) := by decide +kernel
theorem dX12_readRealm_11 : decode cX12_readRealm 11 = .ok (.getfield 83, 3) := by decide +kernel
theorem dX12_readRealm_14 : decode cX12_readRealm 14 = .ok (.iconst 4, 1) := by decide +kernel
theorem dX12_readRealm_15 : decode cX12_readRealm 15 = .ok (.if_icmp .ne 7, 3) := by decide +kernel
theorem dX12_readRealm_18 : decode cX12_readRealm 18 = .ok (.iconst 1, 1) := by decide +kernel
theorem dX12_readRealm_19 : decode cX12_readRealm 19 = .ok (.goto 4, 3) := by decide +kernel
theorem dX12_readRealm_22 : decode cX12_readRealm 22 = .ok (.iconst 0, 1) := by decide +kernel
theorem dX12_readRealm_23 : decode cX12_readRealm 23 = .ok (.istore_n 1, 1) := by decide +kernel
theorem dX12_readRealm_24 : decode cX12_readRealm 24 = .ok (.iload_n 1, 1) := by decide +kernel
theorem dX12_readRealm_25 : decode cX12_readRealm 25 = .ok (.ifCond .eq (-23), 3) := by decide +kernel
theorem dX12_readRealm_28 : decode cX12_readRealm 28 = .ok (.aload_n 0, 1) := by decide +kernel
theorem dX12_readRealm_29 : decode cX12_readRealm 29 = .ok (.invokevirtual 123, 3) := by decide +kernel
theorem dX12_readRealm_32 : decode cX12_readRealm 32 = .ok (.goto (-30), 3) := by decide +kernel
theorem dX12_readRealm_35 : decode cX12_readRealm 35 = .ok (.aload_n 0, 1) := by decide +kernel
theorem dX12_readRealm_36 : decode cX12_readRealm 36 = .ok (.getfield 83, 3) := by decide +kernel
theorem dX12_readRealm_39 : decode cX12_readRealm 39 = .ok (.iconst 1, 1) := by decide +kernel
theorem dX12_readRealm_40 : decode cX12_readRealm 40 = .ok (.if_icmp .eq 8, 3) := by decide +kernel
theorem dX12_readRealm_43 : decode cX12_readRealm 43 = .ok (.aload_n 0, 1) := by decide +kernel
theorem dX12_readRealm_44 : decode cX12_readRealm 44 = .ok (.iconst 1, 1) := by decide +kernel
theorem dX12_readRealm_45 : decode cX12_readRealm 45 = .ok (.invokevirtual 126, 3) := by decide +kernel
theorem dX12_readRealm_48 : decode cX12_readRealm 48 = .ok (.aload_n 0, 1) := by decide +kernel
theorem dX12_readRealm_49 : decode cX12_readRealm 49 = .ok (.getfield 167, 3) := by decide +kernel
theorem dX12_readRealm_52 : decode cX12_readRealm 52 = .ok (.getfield 196, 3) := by decide +kernel
theorem dX12_readRealm_55 : decode cX12_readRealm 55 = .ok (.iconst 2, 1) := by decide +kernel
theorem dX12_readRealm_56 : decode cX12_readRealm 56 = .ok (.if_icmp .lt 13, 3) := by decide +kernel
theorem dX12_readRealm_59 : decode cX12_readRealm 59 = .ok (.aload_n 0, 1) := by decide +kernel
theorem dX12_readRealm_60 : decode cX12_readRealm 60 = .ok (.getfield 167, 3) := by decide +kernel
