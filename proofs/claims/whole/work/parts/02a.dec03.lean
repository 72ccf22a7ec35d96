theorem dX12_readRealm_63 : decode cX12_readRealm 63 = .ok (.getfield 199, 3) := by decide +kernel
theorem dX12_readRealm_66 : decode cX12_readRealm 66 = .ok (.ifCond .ne 9, 3) := by decide +kernel
theorem dX12_readRealm_69 : decode cX12_readRealm 69 = .ok (.aload_n 0, 1) := by decide +kernel
theorem dX12_readRealm_70 : decode cX12_readRealm 70 = .ok (.bipush 6, 2) := by decide +kernel
theorem dX12_readRealm_72 : decode cX12_readRealm 72 = .ok (.invokevirtual 126, 3) := by decide +kernel
theorem dX12_readRealm_75 : decode cX12_readRealm 75 = .ok (.return_, 1) := by decide +kernel
theorem dX12_readLine_0 : decode cX12_readLine 0 = .ok (.aload_n 0, 1) := by decide +kernel
theorem dX12_readLine_1 : decode cX12_readLine 1 = .ok (.ldc 134, 2) := by decide +kernel
theorem dX12_readLine_3 : decode cX12_readLine 3 = .ok (.invokevirtual 119, 3) := by decide +kernel
theorem dX12_readLine_6 : decode cX12_readLine 6 = .ok (.ifCond .eq 10, 3) := by decide +kernel
theorem dX12_readLine_9 : decode cX12_readLine 9 = .ok (.aload_n 0, 1) := by decide +kernel
theorem dX12_readLine_10 : decode cX12_readLine 10 = .ok (.invokevirtual 202, 3) := by decide +kernel
theorem dX12_readLine_13 : decode cX12_readLine 13 = .ok (.goto 184, 3) := by decide +kernel
theorem dX12_readLine_16 : decode cX12_readLine 16 = .ok (.aload_n 0, 1) := by decide +kernel
theorem dX12_readLine_17 : decode cX12_readLine 17 = .ok (.ldc 135, 2) := by decide +kernel
theorem dX12_readLine_19 : decode cX12_readLine 19 = .ok (.invokevirtual 119, 3) := by decide +kernel
theorem dX12_readLine_22 : decode cX12_readLine 22 = .ok (.ifCond .eq 10, 3) := by decide +kernel
theorem dX12_readLine_25 : decode cX12_readLine 25 = .ok (.aload_n 0, 1) := by decide +kernel
theorem dX12_readLine_26 : decode cX12_readLine 26 = .ok (.invokevirtual 205, 3) := by decide +kernel
theorem dX12_readLine_29 : decode cX12_readLine 29 = .ok (.goto 168, 3) := by decide +kernel
theorem dX12_readLine_32 : decode cX12_readLine 32 = .ok (.aload_n 0, 1) := by decide +kernel
theorem dX12_readLine_33 : decode cX12_readLine 33 = .ok (.ldc 137, 2) := by decide +kernel
theorem dX12_readLine_35 : decode cX12_readLine 35 = .ok (.invokevirtual 119, 3) := by decide +kernel
theorem dX12_readLine_38 : decode cX12_readLine 38 = .ok (.ifCond .eq 10, 3) := by decide +kernel
theorem dX12_readLine_41 : decode cX12_readLine 41 = .ok (.aload_n 0, 1) := by decide +kernel
theorem dX12_readLine_42 : decode cX12_readLine 42 = .ok (.invokevirtual 208, 3) := by decide +kernel
theorem dX12_readLine_45 : decode cX12_readLine 45 = .ok (.goto 152, 3) := by decide +kernel
theorem dX12_readLine_48 : decode cX12_readLine 48 = .ok (.aload_n 0, 1) := by decide +kernel
theorem dX12_readLine_49 : decode cX12_readLine 49 = .ok (.ldc 139, 2) := by decide +kernel
theorem dX12_readLine_51 : decode cX12_readLine 51 = .ok (.invokevirtual 119, 3) := by decide +kernel
theorem dX12_readLine_54 : decode cX12_readLine 54 = .ok (.ifCond .eq 10, 3) := by decide +kernel
theorem dX12_readLine_57 : decode cX12_readLine 57 = .ok (.aload_n 0, 1) := by decide +kernel
theorem dX12_readLine_58 : decode cX12_readLine 58 = .ok (.invokevirtual 211, 3) := by decide +kernel
theorem dX12_readLine_61 : decode cX12_readLine 61 = .ok (.goto 136, 3) := by decide +kernel
theorem dX12_readLine_64 : decode cX12_readLine 64 = .ok (.aload_n 0, 1) := by decide +kernel
theorem dX12_readLine_65 : decode cX12_readLine 65 = .ok (.ldc 141, 2) := by decide +kernel
theorem dX12_readLine_67 : decode cX12_readLine 67 = .ok (.invokevirtual 119, 3) := by decide +kernel
theorem dX12_readLine_70 : decode cX12_readLine 70 = .ok (.ifCond .eq 10, 3) := by decide +kernel
theorem dX12_readLine_73 : decode cX12_readLine 73 = .ok (.aload_n 0, 1) := by decide +kernel
theorem dX12_readLine_74 : decode cX12_readLine 74 = .ok (.invokevirtual 214, 3) := by decide +kernel
theorem dX12_readLine_77 : decode cX12_readLine 77 = .ok (.goto 120, 3) := by decide +kernel
theorem dX12_readLine_80 : decode cX12_readLine 80 = .ok (.aload_n 0, 1) := by decide +kernel
theorem dX12_readLine_81 : decode cX12_readLine 81 = .ok (.ldc 143, 2) := by decide +kernel
theorem dX12_readLine_83 : decode cX12_readLine 83 = .ok (.invokevirtual 119, 3) := by decide +kernel
theorem dX12_readLine_86 : decode cX12_readLine 86 = .ok (.ifCond .eq 10, 3) := by decide +kernel
theorem dX12_readLine_89 : decode cX12_readLine 89 = .ok (.aload_n 0, 1) := by decide +kernel
theorem dX12_readLine_90 : decode cX12_readLine 90 = .ok (.invokevirtual 217, 3) := by decide +kernel
theorem dX12_readLine_93 : decode cX12_readLine 93 = .ok (.goto 104, 3) := by decide +kernel
theorem dX12_readLine_96 : decode cX12_readLine 96 = .ok (.aload_n 0, 1) := by decide +kernel
theorem dX12_readLine_97 : decode cX12_readLine 97 = .ok (.ldc 145, 2) := by decide +kernel
theorem dX12_readLine_99 : decode cX12_readLine 99 = .ok (.invokevirtual 119, 3) := by decide +kernel
theorem dX12_readLine_102 : decode cX12_readLine 102 = .ok (.ifCond .eq 10, 3) := by decide +kernel
theorem dX12_readLine_105 : decode cX12_readLine 105 = .ok (.aload_n 0, 1) := by decide +kernel
theorem dX12_readLine_106 : decode cX12_readLine 106 = .ok (.invokevirtual 220, 3) := by decide +kernel
theorem dX12_readLine_109 : decode cX12_readLine 109 = .ok (.goto 88, 3) := by decide +kernel
theorem dX12_readLine_112 : decode cX12_readLine 112 = .ok (.aload_n 0, 1) := by decide +kernel
theorem dX12_readLine_113 : decode cX12_readLine 113 = .ok (.ldc 147, 2) := by decide +kernel
theorem dX12_readLine_115 : decode cX12_readLine 115 = .ok (.invokevirtual 119, 3) := by decide +kernel
theorem dX12_readLine_118 : decode cX12_readLine 118 = .ok (.ifCond .eq 10, 3) := by decide +kernel
theorem dX12_readLine_121 : decode cX12_readLine 121 = .ok (.aload_n 0, 1) := by decide +kernel
theorem dX12_readLine_122 : decode cX12_readLine 122 = .ok (.invokevirtual 223, 3) := by decide +kernel
theorem dX12_readLine_125 : decode cX12_readLine 125 = .ok (.goto 72, 3) := by decide +kernel
theorem dX12_readLine_128 : decode cX12_readLine 128 = .ok (.aload_n 0, 1) := by decide +kernel
theorem dX12_readLine_129 : decode cX12_readLine 129 = .ok (.ldc 149, 2) := by decide +kernel
theorem dX12_readLine_131 : decode cX12_readLine 131 = .ok (.invokevirtual 119, 3) := by decide +kernel
theorem dX12_readLine_134 : decode cX12_readLine 134 = .ok (.ifCond .eq 10, 3) := by decide +kernel
theorem dX12_readLine_137 : decode cX12_readLine 137 = .ok (.aload_n 0, 1) := by decide +kernel
theorem dX12_readLine_138 : decode cX12_readLine 138 = .ok (.invokevirtual 226, 3) := by decide +kernel
theorem dX12_readLine_141 : decode cX12_readLine 141 = .ok (.goto 56, 3) := by decide +kernel
theorem dX12_readLine_144 : decode cX12_readLine 144 = .ok (.aload_n 0, 1) := by decide +kernel
theorem dX12_readLine_145 : decode cX12_readLine 145 = .ok (.ldc 151, 2) := by decide +kernel
theorem dX12_readLine_147 : decode cX12_readLine 147 = .ok (.invokevirtual 119, 3) := by decide +kernel
theorem dX12_readLine_150 : decode cX12_readLine 150 = .ok (.ifCond .eq 10, 3) := by decide +kernel
theorem dX12_readLine_153 : decode cX12_readLine 153 = .ok (.aload_n 0, 1) := by decide +kernel
theorem dX12_readLine_154 : decode cX12_readLine 154 = .ok (.invokevirtual 229, 3) := by decide +kernel
theorem dX12_readLine_157 : decode cX12_readLine 157 = .ok (.goto 40, 3) := by decide +kernel
theorem dX12_readLine_160 : decode cX12_readLine 160 = .ok (.aload_n 0, 1) := by decide +kernel
theorem dX12_readLine_161 : decode cX12_readLine 161 = .ok (.ldc 153, 2) := by decide +kernel
theorem dX12_readLine_163 : decode cX12_readLine 163 = .ok (.invokevirtual 119, 3) := by decide +kernel
theorem dX12_readLine_166 : decode cX12_readLine 166 = .ok (.ifCond .eq 10, 3) := by decide +kernel
theorem dX12_readLine_169 : decode cX12_readLine 169 = .ok (.aload_n 0, 1) := by decide +kernel
theorem dX12_readLine_170 : decode cX12_readLine 170 = .ok (.invokevirtual 232, 3) := by decide +kernel
theorem dX12_readLine_173 : decode cX12_readLine 173 = .ok (.goto 24, 3) := by decide +kernel
theorem dX12_readLine_176 : decode cX12_readLine 176 = .ok (.aload_n 0, 1) := by decide +kernel
theorem dX12_readLine_177 : decode cX12_readLine 177 = .ok (.ldc 155, 2) := by decide +kernel
theorem dX12_readLine_179 : decode cX12_readLine 179 = .ok (.invokevirtual 119, 3) := by decide +kernel
theorem dX12_readLine_182 : decode cX12_readLine 182 = .ok (.ifCond .eq 10, 3) := by decide +kernel
theorem dX12_readLine_185 : decode cX12_readLine 185 = .ok (.aload_n 0, 1) := by decide +kernel
theorem dX12_readLine_186 : decode cX12_readLine 186 = .ok (.invokevirtual 235, 3) := by decide +kernel
theorem dX12_readLine_189 : decode cX12_readLine 189 = .ok (.goto 8, 3) := by decide +kernel
theorem dX12_readLine_192 : decode cX12_readLine 192 = .ok (.aload_n 0, 1) := by decide +kernel
theorem dX12_readLine_193 : decode cX12_readLine 193 = .ok (.iconst 1, 1) := by decide +kernel
theorem dX12_readLine_194 : decode cX12_readLine 194 = .ok (.invokevirtual 126, 3) := by decide +kernel
theorem dX12_readLine_197 : decode cX12_readLine 197 = .ok (.return_, 1) := by decide +kernel
theorem dX12_begins_0 : decode cX12_begins 0 = .ok (.iload_n 1, 1) := by decide +kernel
theorem dX12_begins_1 : decode cX12_begins 1 = .ok (.iload_n 2, 1) := by decide +kernel
theorem dX12_begins_2 : decode cX12_begins 2 = .ok (.if_icmp .ne 8, 3) := by decide +kernel
theorem dX12_begins_5 : decode cX12_begins 5 = .ok (.aload_n 0, 1) := by decide +kernel
theorem dX12_begins_6 : decode cX12_begins 6 = .ok (.iconst 5, 1) := by decide +kernel
theorem dX12_begins_7 : decode cX12_begins 7 = .ok (.invokevirtual 126, 3) := by decide +kernel
theorem dX12_begins_10 : decode cX12_begins 10 = .ok (.aload_n 0, 1) := by decide +kernel
theorem dX12_begins_11 : decode cX12_begins 11 = .ok (.invokevirtual 123, 3) := by decide +kernel
theorem dX12_begins_14 : decode cX12_begins 14 = .ok (.return_, 1) := by decide +kernel
theorem dX12_readPlace_0 : decode cX12_readPlace 0 = .ok (.aload_n 0, 1) := by decide +kernel
theorem dX12_readPlace_1 : decode cX12_readPlace 1 = .ok (.aload_n 0, 1) := by decide +kernel
theorem dX12_readPlace_2 : decode cX12_readPlace 2 = .ok (.getfield 167, 3) := by decide +kernel
theorem dX12_readPlace_5 : decode cX12_readPlace 5 = .ok (.getfield 196, 3) := by decide +kernel
theorem dX12_readPlace_8 : decode cX12_readPlace 8 = .ok (.bipush 8, 2) := by decide +kernel
theorem dX12_readPlace_10 : decode cX12_readPlace 10 = .ok (.invokevirtual 238, 3) := by decide +kernel
theorem dX12_readPlace_13 : decode cX12_readPlace 13 = .ok (.aload_n 0, 1) := by decide +kernel
theorem dX12_readPlace_14 : decode cX12_readPlace 14 = .ok (.iconst 0, 1) := by decide +kernel
theorem dX12_readPlace_15 : decode cX12_readPlace 15 = .ok (.aload_n 0, 1) := by decide +kernel
theorem dX12_readPlace_16 : decode cX12_readPlace 16 = .ok (.getfield 167, 3) := by decide +kernel
theorem dX12_readPlace_19 : decode cX12_readPlace 19 = .ok (.getfield 196, 3) := by decide +kernel
theorem dX12_readPlace_22 : decode cX12_readPlace 22 = .ok (.invokevirtual 242, 3) := by decide +kernel
theorem dX12_readPlace_25 : decode cX12_readPlace 25 = .ok (.aload_n 0, 1) := by decide +kernel
theorem dX12_readPlace_26 : decode cX12_readPlace 26 = .ok (.getfield 83, 3) := by decide +kernel
theorem dX12_readPlace_29 : decode cX12_readPlace 29 = .ok (.iconst 5, 1) := by decide +kernel
theorem dX12_readPlace_30 : decode cX12_readPlace 30 = .ok (.if_icmp .eq 16, 3) := by decide +kernel
theorem dX12_readPlace_33 : decode cX12_readPlace 33 = .ok (.aload_n 0, 1) := by decide +kernel
theorem dX12_readPlace_34 : decode cX12_readPlace 34 = .ok (.getfield 167, 3) := by decide +kernel
theorem dX12_readPlace_37 : decode cX12_readPlace 37 = .ok (.dup, 1) := by decide +kernel
theorem dX12_readPlace_38 : decode cX12_readPlace 38 = .ok (.getfield 196, 3) := by decide +kernel
theorem dX12_readPlace_41 : decode cX12_readPlace 41 = .ok (.iconst 1, 1) := by decide +kernel
theorem dX12_readPlace_42 : decode cX12_readPlace 42 = .ok (.iadd, 1) := by decide +kernel
theorem dX12_readPlace_43 : decode cX12_readPlace 43 = .ok (.putfield 196, 3) := by decide +kernel
theorem dX12_readPlace_46 : decode cX12_readPlace 46 = .ok (.return_, 1) := by decide +kernel
theorem dX12_readGoods_0 : decode cX12_readGoods 0 = .ok (.aload_n 0, 1) := by decide +kernel
theorem dX12_readGoods_1 : decode cX12_readGoods 1 = .ok (.aload_n 0, 1) := by decide +kernel
theorem dX12_readGoods_2 : decode cX12_readGoods 2 = .ok (.getfield 167, 3) := by decide +kernel
theorem dX12_readGoods_5 : decode cX12_readGoods 5 = .ok (.getfield 245, 3) := by decide +kernel
theorem dX12_readGoods_8 : decode cX12_readGoods 8 = .ok (.iconst 4, 1) := by decide +kernel
theorem dX12_readGoods_9 : decode cX12_readGoods 9 = .ok (.invokevirtual 238, 3) := by decide +kernel
theorem dX12_readGoods_12 : decode cX12_readGoods 12 = .ok (.aload_n 0, 1) := by decide +kernel
theorem dX12_readGoods_13 : decode cX12_readGoods 13 = .ok (.iconst 1, 1) := by decide +kernel
theorem dX12_readGoods_14 : decode cX12_readGoods 14 = .ok (.aload_n 0, 1) := by decide +kernel
theorem dX12_readGoods_15 : decode cX12_readGoods 15 = .ok (.getfield 167, 3) := by decide +kernel
theorem dX12_readGoods_18 : decode cX12_readGoods 18 = .ok (.getfield 245, 3) := by decide +kernel
theorem dX12_readGoods_21 : decode cX12_readGoods 21 = .ok (.invokevirtual 242, 3) := by decide +kernel
theorem dX12_readGoods_24 : decode cX12_readGoods 24 = .ok (.aload_n 0, 1) := by decide +kernel
theorem dX12_readGoods_25 : decode cX12_readGoods 25 = .ok (.getfield 83, 3) := by decide +kernel
theorem dX12_readGoods_28 : decode cX12_readGoods 28 = .ok (.iconst 5, 1) := by decide +kernel
theorem dX12_readGoods_29 : decode cX12_readGoods 29 = .ok (.if_icmp .eq 16, 3) := by decide +kernel
theorem dX12_readGoods_32 : decode cX12_readGoods 32 = .ok (.aload_n 0, 1) := by decide +kernel
theorem dX12_readGoods_33 : decode cX12_readGoods 33 = .ok (.getfield 167, 3) := by decide +kernel
theorem dX12_readGoods_36 : decode cX12_readGoods 36 = .ok (.dup, 1) := by decide +kernel
theorem dX12_readGoods_37 : decode cX12_readGoods 37 = .ok (.getfield 245, 3) := by decide +kernel
theorem dX12_readGoods_40 : decode cX12_readGoods 40 = .ok (.iconst 1, 1) := by decide +kernel
theorem dX12_readGoods_41 : decode cX12_readGoods 41 = .ok (.iadd, 1) := by decide +kernel
theorem dX12_readGoods_42 : decode cX12_readGoods 42 = .ok (.putfield 245, 3) := by decide +kernel
theorem dX12_readGoods_45 : decode cX12_readGoods 45 = .ok (.return_, 1) := by decide +kernel
theorem dX12_readMan_0 : decode cX12_readMan 0 = .ok (.aload_n 0, 1) := by decide +kernel
theorem dX12_readMan_1 : decode cX12_readMan 1 = .ok (.aload_n 0, 1) := by decide +kernel
theorem dX12_readMan_2 : decode cX12_readMan 2 = .ok (.getfield 167, 3) := by decide +kernel
theorem dX12_readMan_5 : decode cX12_readMan 5 = .ok (.getfield 247, 3) := by decide +kernel
theorem dX12_readMan_8 : decode cX12_readMan 8 = .ok (.bipush 6, 2) := by decide +kernel
theorem dX12_readMan_10 : decode cX12_readMan 10 = .ok (.invokevirtual 238, 3) := by decide +kernel
theorem dX12_readMan_13 : decode cX12_readMan 13 = .ok (.aload_n 0, 1) := by decide +kernel
theorem dX12_readMan_14 : decode cX12_readMan 14 = .ok (.iconst 2, 1) := by decide +kernel
theorem dX12_readMan_15 : decode cX12_readMan 15 = .ok (.aload_n 0, 1) := by decide +kernel
theorem dX12_readMan_16 : decode cX12_readMan 16 = .ok (.getfield 167, 3) := by decide +kernel
theorem dX12_readMan_19 : decode cX12_readMan 19 = .ok (.getfield 247, 3) := by decide +kernel
theorem dX12_readMan_22 : decode cX12_readMan 22 = .ok (.invokevirtual 242, 3) := by decide +kernel
theorem dX12_readMan_25 : decode cX12_readMan 25 = .ok (.aload_n 0, 1) := by decide +kernel
theorem dX12_readMan_26 : decode cX12_readMan 26 = .ok (.ldc 250, 2) := by decide +kernel
theorem dX12_readMan_28 : decode cX12_readMan 28 = .ok (.invokevirtual 252, 3) := by decide +kernel
theorem dX12_readMan_31 : decode cX12_readMan 31 = .ok (.aload_n 0, 1) := by decide +kernel
theorem dX12_readMan_32 : decode cX12_readMan 32 = .ok (.iconst 0, 1) := by decide +kernel
theorem dX12_readMan_33 : decode cX12_readMan 33 = .ok (.invokevirtual 256, 3) := by decide +kernel
theorem dX12_readMan_36 : decode cX12_readMan 36 = .ok (.istore_n 1, 1) := by decide +kernel
theorem dX12_readMan_37 : decode cX12_readMan 37 = .ok (.aload_n 0, 1) := by decide +kernel
theorem dX12_readMan_38 : decode cX12_readMan 38 = .ok (.ldc_w 259, 3) := by decide +kernel
theorem dX12_readMan_41 : decode cX12_readMan 41 = .ok (.invokevirtual 252, 3) := by decide +kernel
theorem dX12_readMan_44 : decode cX12_readMan 44 = .ok (.aload_n 0, 1) := by decide +kernel
theorem dX12_readMan_45 : decode cX12_readMan 45 = .ok (.iconst 0, 1) := by decide +kernel
theorem dX12_readMan_46 : decode cX12_readMan 46 = .ok (.sipush 999, 3) := by decide +kernel
theorem dX12_readMan_49 : decode cX12_readMan 49 = .ok (.invokevirtual 261, 3) := by decide +kernel
theorem dX12_readMan_52 : decode cX12_readMan 52 = .ok (.istore_n 2, 1) := by decide +kernel
theorem dX12_readMan_53 : decode cX12_readMan 53 = .ok (.aload_n 0, 1) := by decide +kernel
theorem dX12_readMan_54 : decode cX12_readMan 54 = .ok (.getfield 83, 3) := by decide +kernel
theorem dX12_readMan_57 : decode cX12_readMan 57 = .ok (.iconst 5, 1) := by decide +kernel
theorem dX12_readMan_58 : decode cX12_readMan 58 = .ok (.if_icmp .ne 4, 3) := by decide +kernel
theorem dX12_readMan_61 : decode cX12_readMan 61 = .ok (.return_, 1) := by decide +kernel
theorem dX12_readMan_62 : decode cX12_readMan 62 = .ok (.aload_n 0, 1) := by decide +kernel
theorem dX12_readMan_63 : decode cX12_readMan 63 = .ok (.getfield 167, 3) := by decide +kernel
theorem dX12_readMan_66 : decode cX12_readMan 66 = .ok (.getfield 265, 3) := by decide +kernel
theorem dX12_readMan_69 : decode cX12_readMan 69 = .ok (.aload_n 0, 1) := by decide +kernel
theorem dX12_readMan_70 : decode cX12_readMan 70 = .ok (.getfield 167, 3) := by decide +kernel
theorem dX12_readMan_73 : decode cX12_readMan 73 = .ok (.getfield 247, 3) := by decide +kernel
theorem dX12_readMan_76 : decode cX12_readMan 76 = .ok (.iload_n 1, 1) := by decide +kernel
theorem dX12_readMan_77 : decode cX12_readMan 77 = .ok (.iastore, 1) := by decide +kernel
theorem dX12_readMan_78 : decode cX12_readMan 78 = .ok (.aload_n 0, 1) := by decide +kernel
theorem dX12_readMan_79 : decode cX12_readMan 79 = .ok (.getfield 167, 3) := by decide +kernel
theorem dX12_readMan_82 : decode cX12_readMan 82 = .ok (.getfield 268, 3) := by decide +kernel
theorem dX12_readMan_85 : decode cX12_readMan 85 = .ok (.aload_n 0, 1) := by decide +kernel
theorem dX12_readMan_86 : decode cX12_readMan 86 = .ok (.getfield 167, 3) := by decide +kernel
theorem dX12_readMan_89 : decode cX12_readMan 89 = .ok (.getfield 247, 3) := by decide +kernel
theorem dX12_readMan_92 : decode cX12_readMan 92 = .ok (.iload_n 2, 1) := by decide +kernel
theorem dX12_readMan_93 : decode cX12_readMan 93 = .ok (.iastore, 1) := by decide +kernel
theorem dX12_readMan_94 : decode cX12_readMan 94 = .ok (.aload_n 0, 1) := by decide +kernel
theorem dX12_readMan_95 : decode cX12_readMan 95 = .ok (.getfield 167, 3) := by decide +kernel
theorem dX12_readMan_98 : decode cX12_readMan 98 = .ok (.dup, 1) := by decide +kernel
theorem dX12_readMan_99 : decode cX12_readMan 99 = .ok (.getfield 247, 3) := by decide +kernel
theorem dX12_readMan_102 : decode cX12_readMan 102 = .ok (.iconst 1, 1) := by decide +kernel
theorem dX12_readMan_103 : decode cX12_readMan 103 = .ok (.iadd, 1) := by decide +kernel
theorem dX12_readMan_104 : decode cX12_readMan 104 = .ok (.putfield 247, 3) := by decide +kernel
theorem dX12_readMan_107 : decode cX12_readMan 107 = .ok (.return_, 1) := by decide +kernel
theorem dX12_readEdge_0 : decode cX12_readEdge 0 = .ok (.aload_n 0, 1) := by decide +kernel
theorem dX12_readEdge_1 : decode cX12_readEdge 1 = .ok (.iconst 0, 1) := by decide +kernel
theorem dX12_readEdge_2 : decode cX12_readEdge 2 = .ok (.invokevirtual 256, 3) := by decide +kernel
theorem dX12_readEdge_5 : decode cX12_readEdge 5 = .ok (.istore_n 2, 1) := by decide +kernel
theorem dX12_readEdge_6 : decode cX12_readEdge 6 = .ok (.aload_n 0, 1) := by decide +kernel
theorem dX12_readEdge_7 : decode cX12_readEdge 7 = .ok (.ldc 159, 2) := by decide +kernel
theorem dX12_readEdge_9 : decode cX12_readEdge 9 = .ok (.invokevirtual 252, 3) := by decide +kernel
theorem dX12_readEdge_12 : decode cX12_readEdge 12 = .ok (.aload_n 0, 1) := by decide +kernel
theorem dX12_readEdge_13 : decode cX12_readEdge 13 = .ok (.iload_n 2, 1) := by decide +kernel
theorem dX12_readEdge_14 : decode cX12_readEdge 14 = .ok (.invokevirtual 271, 3) := by decide +kernel
theorem dX12_readEdge_17 : decode cX12_readEdge 17 = .ok (.istore_n 3, 1) := by decide +kernel
theorem dX12_readEdge_18 : decode cX12_readEdge 18 = .ok (.aload_n 0, 1) := by decide +kernel
theorem dX12_readEdge_19 : decode cX12_readEdge 19 = .ok (.ldc_w 274, 3) := by decide +kernel
theorem dX12_readEdge_22 : decode cX12_readEdge 22 = .ok (.invokevirtual 252, 3) := by decide +kernel
theorem dX12_readEdge_25 : decode cX12_readEdge 25 = .ok (.aload_n 0, 1) := by decide +kernel
theorem dX12_readEdge_26 : decode cX12_readEdge 26 = .ok (.iconst 1, 1) := by decide +kernel
theorem dX12_readEdge_27 : decode cX12_readEdge 27 = .ok (.bipush 99, 2) := by decide +kernel
theorem dX12_readEdge_29 : decode cX12_readEdge 29 = .ok (.invokevirtual 261, 3) := by decide +kernel
theorem dX12_readEdge_32 : decode cX12_readEdge 32 = .ok (.istore 4, 2) := by decide +kernel
theorem dX12_readEdge_34 : decode cX12_readEdge 34 = .ok (.aload_n 0, 1) := by decide +kernel
theorem dX12_readEdge_35 : decode cX12_readEdge 35 = .ok (.getfield 83, 3) := by decide +kernel
theorem dX12_readEdge_38 : decode cX12_readEdge 38 = .ok (.iconst 5, 1) := by decide +kernel
theorem dX12_readEdge_39 : decode cX12_readEdge 39 = .ok (.if_icmp .ne 4, 3) := by decide +kernel
theorem dX12_readEdge_42 : decode cX12_readEdge 42 = .ok (.return_, 1) := by decide +kernel
theorem dX12_readEdge_43 : decode cX12_readEdge 43 = .ok (.aload_n 0, 1) := by decide +kernel
theorem dX12_readEdge_44 : decode cX12_readEdge 44 = .ok (.getfield 167, 3) := by decide +kernel
theorem dX12_readEdge_47 : decode cX12_readEdge 47 = .ok (.getfield 276, 3) := by decide +kernel
theorem dX12_readEdge_50 : decode cX12_readEdge 50 = .ok (.aload_n 0, 1) := by decide +kernel
theorem dX12_readEdge_51 : decode cX12_readEdge 51 = .ok (.getfield 167, 3) := by decide +kernel
theorem dX12_readEdge_54 : decode cX12_readEdge 54 = .ok (.getfield 279, 3) := by decide +kernel
theorem dX12_readEdge_57 : decode cX12_readEdge 57 = .ok (.iload_n 2, 1) := by decide +kernel
theorem dX12_readEdge_58 : decode cX12_readEdge 58 = .ok (.iastore, 1) := by decide +kernel
theorem dX12_readEdge_59 : decode cX12_readEdge 59 = .ok (.aload_n 0, 1) := by decide +kernel
theorem dX12_readEdge_60 : decode cX12_readEdge 60 = .ok (.getfield 167, 3) := by decide +kernel
theorem dX12_readEdge_63 : decode cX12_readEdge 63 = .ok (.getfield 282, 3) := by decide +kernel
theorem dX12_readEdge_66 : decode cX12_readEdge 66 = .ok (.aload_n 0, 1) := by decide +kernel
theorem dX12_readEdge_67 : decode cX12_readEdge 67 = .ok (.getfield 167, 3) := by decide +kernel
theorem dX12_readEdge_70 : decode cX12_readEdge 70 = .ok (.getfield 279, 3) := by decide +kernel
theorem dX12_readEdge_73 : decode cX12_readEdge 73 = .ok (.iload_n 3, 1) := by decide +kernel
theorem dX12_readEdge_74 : decode cX12_readEdge 74 = .ok (.iastore, 1) := by decide +kernel
theorem dX12_readEdge_75 : decode cX12_readEdge 75 = .ok (.aload_n 0, 1) := by decide +kernel
theorem dX12_readEdge_76 : decode cX12_readEdge 76 = .ok (.getfield 167, 3) := by decide +kernel
theorem dX12_readEdge_79 : decode cX12_readEdge 79 = .ok (.getfield 285, 3) := by decide +kernel
theorem dX12_readEdge_82 : decode cX12_readEdge 82 = .ok (.aload_n 0, 1) := by decide +kernel
theorem dX12_readEdge_83 : decode cX12_readEdge 83 = .ok (.getfield 167, 3) := by decide +kernel
theorem dX12_readEdge_86 : decode cX12_readEdge 86 = .ok (.getfield 279, 3) := by decide +kernel
theorem dX12_readEdge_89 : decode cX12_readEdge 89 = .ok (.iload 4, 2) := by decide +kernel
theorem dX12_readEdge_91 : decode cX12_readEdge 91 = .ok (.iastore, 1) := by decide +kernel
theorem dX12_readEdge_92 : decode cX12_readEdge 92 = .ok (.aload_n 0, 1) := by decide +kernel
theorem dX12_readEdge_93 : decode cX12_readEdge 93 = .ok (.getfield 167, 3) := by decide +kernel
theorem dX12_readEdge_96 : decode cX12_readEdge 96 = .ok (.getfield 288, 3) := by decide +kernel
theorem dX12_readEdge_99 : decode cX12_readEdge 99 = .ok (.aload_n 0, 1) := by decide +kernel
theorem dX12_readEdge_100 : decode cX12_readEdge 100 = .ok (.getfield 167, 3) := by decide +kernel
theorem dX12_readEdge_103 : decode cX12_readEdge 103 = .ok (.getfield 279, 3) := by decide +kernel
theorem dX12_readEdge_106 : decode cX12_readEdge 106 = .ok (.iload_n 1, 1) := by decide +kernel
theorem dX12_readEdge_107 : decode cX12_readEdge 107 = .ok (.iastore, 1) := by decide +kernel
theorem dX12_readEdge_108 : decode cX12_readEdge 108 = .ok (.aload_n 0, 1) := by decide +kernel
theorem dX12_readEdge_109 : decode cX12_readEdge 109 = .ok (.getfield 167, 3) := by decide +kernel
theorem dX12_readEdge_112 : decode cX12_readEdge 112 = .ok (.dup, 1) := by decide +kernel
theorem dX12_readEdge_113 : decode cX12_readEdge 113 = .ok (.getfield 279, 3) := by decide +kernel
theorem dX12_readEdge_116 : decode cX12_readEdge 116 = .ok (.iconst 1, 1) := by decide +kernel
theorem dX12_readEdge_117 : decode cX12_readEdge 117 = .ok (.iadd, 1) := by decide +kernel
theorem dX12_readEdge_118 : decode cX12_readEdge 118 = .ok (.putfield 279, 3) := by decide +kernel
theorem dX12_readEdge_121 : decode cX12_readEdge 121 = .ok (.return_, 1) := by decide +kernel
theorem dX12_readRoad_0 : decode cX12_readRoad 0 = .ok (.aload_n 0, 1) := by decide +kernel
theorem dX12_readRoad_1 : decode cX12_readRoad 1 = .ok (.aload_n 0, 1) := by decide +kernel
theorem dX12_readRoad_2 : decode cX12_readRoad 2 = .ok (.getfield 167, 3) := by decide +kernel
theorem dX12_readRoad_5 : decode cX12_readRoad 5 = .ok (.getfield 291, 3) := by decide +kernel
theorem dX12_readRoad_8 : decode cX12_readRoad 8 = .ok (.bipush 12, 2) := by decide +kernel
theorem dX12_readRoad_10 : decode cX12_readRoad 10 = .ok (.invokevirtual 238, 3) := by decide +kernel
theorem dX12_readRoad_13 : decode cX12_readRoad 13 = .ok (.aload_n 0, 1) := by decide +kernel
theorem dX12_readRoad_14 : decode cX12_readRoad 14 = .ok (.iconst (-1), 1) := by decide +kernel
theorem dX12_readRoad_15 : decode cX12_readRoad 15 = .ok (.invokevirtual 294, 3) := by decide +kernel
theorem dX12_readRoad_18 : decode cX12_readRoad 18 = .ok (.aload_n 0, 1) := by decide +kernel
theorem dX12_readRoad_19 : decode cX12_readRoad 19 = .ok (.getfield 83, 3) := by decide +kernel
theorem dX12_readRoad_22 : decode cX12_readRoad 22 = .ok (.iconst 5, 1) := by decide +kernel
theorem dX12_readRoad_23 : decode cX12_readRoad 23 = .ok (.if_icmp .eq 16, 3) := by decide +kernel
theorem dX12_readRoad_26 : decode cX12_readRoad 26 = .ok (.aload_n 0, 1) := by decide +kernel
theorem dX12_readRoad_27 : decode cX12_readRoad 27 = .ok (.getfield 167, 3) := by decide +kernel
theorem dX12_readRoad_30 : decode cX12_readRoad 30 = .ok (.dup, 1) := by decide +kernel
theorem dX12_readRoad_31 : decode cX12_readRoad 31 = .ok (.getfield 291, 3) := by decide +kernel
theorem dX12_readRoad_34 : decode cX12_readRoad 34 = .ok (.iconst 1, 1) := by decide +kernel
theorem dX12_readRoad_35 : decode cX12_readRoad 35 = .ok (.iadd, 1) := by decide +kernel
theorem dX12_readRoad_36 : decode cX12_readRoad 36 = .ok (.putfield 291, 3) := by decide +kernel
theorem dX12_readRoad_39 : decode cX12_readRoad 39 = .ok (.return_, 1) := by decide +kernel
theorem dX12_readBridge_0 : decode cX12_readBridge 0 = .ok (.aload_n 0, 1) := by decide +kernel
theorem dX12_readBridge_1 : decode cX12_readBridge 1 = .ok (.aload_n 0, 1) := by decide +kernel
theorem dX12_readBridge_2 : decode cX12_readBridge 2 = .ok (.getfield 167, 3) := by decide +kernel
theorem dX12_readBridge_5 : decode cX12_readBridge 5 = .ok (.getfield 297, 3) := by decide +kernel
theorem dX12_readBridge_8 : decode cX12_readBridge 8 = .ok (.bipush 8, 2) := by decide +kernel
theorem dX12_readBridge_10 : decode cX12_readBridge 10 = .ok (.invokevirtual 238, 3) := by decide +kernel
theorem dX12_readBridge_13 : decode cX12_readBridge 13 = .ok (.aload_n 0, 1) := by decide +kernel
theorem dX12_readBridge_14 : decode cX12_readBridge 14 = .ok (.iconst 3, 1) := by decide +kernel
theorem dX12_readBridge_15 : decode cX12_readBridge 15 = .ok (.aload_n 0, 1) := by decide +kernel
theorem dX12_readBridge_16 : decode cX12_readBridge 16 = .ok (.getfield 167, 3) := by decide +kernel
theorem dX12_readBridge_19 : decode cX12_readBridge 19 = .ok (.getfield 297, 3) := by decide +kernel
theorem dX12_readBridge_22 : decode cX12_readBridge 22 = .ok (.invokevirtual 242, 3) := by decide +kernel
theorem dX12_readBridge_25 : decode cX12_readBridge 25 = .ok (.aload_n 0, 1) := by decide +kernel
theorem dX12_readBridge_26 : decode cX12_readBridge 26 = .ok (.ldc_w 300, 3) := by decide +kernel
theorem dX12_readBridge_29 : decode cX12_readBridge 29 = .ok (.invokevirtual 252, 3) := by decide +kernel
theorem dX12_readBridge_32 : decode cX12_readBridge 32 = .ok (.aload_n 0, 1) := by decide +kernel
theorem dX12_readBridge_33 : decode cX12_readBridge 33 = .ok (.aload_n 0, 1) := by decide +kernel
theorem dX12_readBridge_34 : decode cX12_readBridge 34 = .ok (.getfield 167, 3) := by decide +kernel
theorem dX12_readBridge_37 : decode cX12_readBridge 37 = .ok (.getfield 297, 3) := by decide +kernel
theorem dX12_readBridge_40 : decode cX12_readBridge 40 = .ok (.invokevirtual 294, 3) := by decide +kernel
theorem dX12_readBridge_43 : decode cX12_readBridge 43 = .ok (.aload_n 0, 1) := by decide +kernel
theorem dX12_readBridge_44 : decode cX12_readBridge 44 = .ok (.getfield 83, 3) := by decide +kernel
theorem dX12_readBridge_47 : decode cX12_readBridge 47 = .ok (.iconst 5, 1) := by decide +kernel
theorem dX12_readBridge_48 : decode cX12_readBridge 48 = .ok (.if_icmp .eq 16, 3) := by decide +kernel
theorem dX12_readBridge_51 : decode cX12_readBridge 51 = .ok (.aload_n 0, 1) := by decide +kernel
theorem dX12_readBridge_52 : decode cX12_readBridge 52 = .ok (.getfield 167, 3) := by decide +kernel
theorem dX12_readBridge_55 : decode cX12_readBridge 55 = .ok (.dup, 1) := by decide +kernel
theorem dX12_readBridge_56 : decode cX12_readBridge 56 = .ok (.getfield 297, 3) := by decide +kernel
theorem dX12_readBridge_59 : decode cX12_readBridge 59 = .ok (.iconst 1, 1) := by decide +kernel
theorem dX12_readBridge_60 : decode cX12_readBridge 60 = .ok (.iadd, 1) := by decide +kernel
theorem dX12_readBridge_61 : decode cX12_readBridge 61 = .ok (.putfield 297, 3) := by decide +kernel
theorem dX12_readBridge_64 : decode cX12_readBridge 64 = .ok (.return_, 1) := by decide +kernel
theorem dX12_readGood_0 : decode cX12_readGood 0 = .ok (.aload_n 0, 1) := by decide +kernel
theorem dX12_readGood_1 : decode cX12_readGood 1 = .ok (.ldc 157, 2) := by decide +kernel
theorem dX12_readGood_3 : decode cX12_readGood 3 = .ok (.invokevirtual 302, 3) := by decide +kernel
theorem dX12_readGood_6 : decode cX12_readGood 6 = .ok (.ifCond .eq 6, 3) := by decide +kernel
theorem dX12_readGood_9 : decode cX12_readGood 9 = .ok (.bipush (-2), 2) := by decide +kernel
theorem dX12_readGood_11 : decode cX12_readGood 11 = .ok (.ireturn, 1) := by decide +kernel
theorem dX12_readGood_12 : decode cX12_readGood 12 = .ok (.aload_n 0, 1) := by decide +kernel
theorem dX12_readGood_13 : decode cX12_readGood 13 = .ok (.iconst 1, 1) := by decide +kernel
theorem dX12_readGood_14 : decode cX12_readGood 14 = .ok (.invokevirtual 256, 3) := by decide +kernel
theorem dX12_readGood_17 : decode cX12_readGood 17 = .ok (.ireturn, 1) := by decide +kernel
theorem dX12_readDay_0 : decode cX12_readDay 0 = .ok (.aload_n 0, 1) := by decide +kernel
theorem dX12_readDay_1 : decode cX12_readDay 1 = .ok (.ldc_w 305, 3) := by decide +kernel
theorem dX12_readDay_4 : decode cX12_readDay 4 = .ok (.invokevirtual 252, 3) := by decide +kernel
theorem dX12_readDay_7 : decode cX12_readDay 7 = .ok (.aload_n 0, 1) := by decide +kernel
theorem dX12_readDay_8 : decode cX12_readDay 8 = .ok (.iconst 0, 1) := by decide +kernel
theorem dX12_readDay_9 : decode cX12_readDay 9 = .ok (.sipush 999, 3) := by decide +kernel
theorem dX12_readDay_12 : decode cX12_readDay 12 = .ok (.invokevirtual 261, 3) := by decide +kernel
theorem dX12_readDay_15 : decode cX12_readDay 15 = .ok (.istore_n 2, 1) := by decide +kernel
theorem dX12_readDay_16 : decode cX12_readDay 16 = .ok (.iload_n 2, 1) := by decide +kernel
theorem dX12_readDay_17 : decode cX12_readDay 17 = .ok (.istore_n 3, 1) := by decide +kernel
theorem dX12_readDay_18 : decode cX12_readDay 18 = .ok (.aload_n 0, 1) := by decide +kernel
theorem dX12_readDay_19 : decode cX12_readDay 19 = .ok (.ldc 159, 2) := by decide +kernel
theorem dX12_readDay_21 : decode cX12_readDay 21 = .ok (.invokevirtual 302, 3) := by decide +kernel
theorem dX12_readDay_24 : decode cX12_readDay 24 = .ok (.ifCond .eq 29, 3) := by decide +kernel
theorem dX12_readDay_27 : decode cX12_readDay 27 = .ok (.aload_n 0, 1) := by decide +kernel
theorem dX12_readDay_28 : decode cX12_readDay 28 = .ok (.iload_n 2, 1) := by decide +kernel
theorem dX12_readDay_29 : decode cX12_readDay 29 = .ok (.iload_n 2, 1) := by decide +kernel
theorem dX12_readDay_30 : decode cX12_readDay 30 = .ok (.bipush 20, 2) := by decide +kernel
theorem dX12_readDay_32 : decode cX12_readDay 32 = .ok (.iadd, 1) := by decide +kernel
theorem dX12_readDay_33 : decode cX12_readDay 33 = .ok (.sipush 999, 3) := by decide +kernel
theorem dX12_readDay_36 : decode cX12_readDay 36 = .ok (.if_icmp .le 9, 3) := by decide +kernel
theorem dX12_readDay_39 : decode cX12_readDay 39 = .ok (.sipush 999, 3) := by decide +kernel
theorem dX12_readDay_42 : decode cX12_readDay 42 = .ok (.goto 7, 3) := by decide +kernel
theorem dX12_readDay_45 : decode cX12_readDay 45 = .ok (.iload_n 2, 1) := by decide +kernel
theorem dX12_readDay_46 : decode cX12_readDay 46 = .ok (.bipush 20, 2) := by decide +kernel
theorem dX12_readDay_48 : decode cX12_readDay 48 = .ok (.iadd, 1) := by decide +kernel
theorem dX12_readDay_49 : decode cX12_readDay 49 = .ok (.invokevirtual 261, 3) := by decide +kernel
theorem dX12_readDay_52 : decode cX12_readDay 52 = .ok (.istore_n 3, 1) := by decide +kernel
theorem dX12_readDay_53 : decode cX12_readDay 53 = .ok (.aload_n 0, 1) := by decide +kernel
theorem dX12_readDay_54 : decode cX12_readDay 54 = .ok (.getfield 83, 3) := by decide +kernel
theorem dX12_readDay_57 : decode cX12_readDay 57 = .ok (.iconst 5, 1) := by decide +kernel
theorem dX12_readDay_58 : decode cX12_readDay 58 = .ok (.if_icmp .ne 4, 3) := by decide +kernel
theorem dX12_readDay_61 : decode cX12_readDay 61 = .ok (.return_, 1) := by decide +kernel
theorem dX12_readDay_62 : decode cX12_readDay 62 = .ok (.aload_n 0, 1) := by decide +kernel
theorem dX12_readDay_63 : decode cX12_readDay 63 = .ok (.getfield 167, 3) := by decide +kernel
theorem dX12_readDay_66 : decode cX12_readDay 66 = .ok (.getfield 307, 3) := by decide +kernel
theorem dX12_readDay_69 : decode cX12_readDay 69 = .ok (.iload_n 1, 1) := by decide +kernel
theorem dX12_readDay_70 : decode cX12_readDay 70 = .ok (.iload_n 2, 1) := by decide +kernel
theorem dX12_readDay_71 : decode cX12_readDay 71 = .ok (.iastore, 1) := by decide +kernel
theorem dX12_readDay_72 : decode cX12_readDay 72 = .ok (.aload_n 0, 1) := by decide +kernel
theorem dX12_readDay_73 : decode cX12_readDay 73 = .ok (.getfield 167, 3) := by decide +kernel
theorem dX12_readDay_76 : decode cX12_readDay 76 = .ok (.getfield 310, 3) := by decide +kernel
theorem dX12_readDay_79 : decode cX12_readDay 79 = .ok (.iload_n 1, 1) := by decide +kernel
theorem dX12_readDay_80 : decode cX12_readDay 80 = .ok (.iload_n 3, 1) := by decide +kernel
theorem dX12_readDay_81 : decode cX12_readDay 81 = .ok (.iastore, 1) := by decide +kernel
theorem dX12_readDay_82 : decode cX12_readDay 82 = .ok (.return_, 1) := by decide +kernel
theorem dX12_readTake_0 : decode cX12_readTake 0 = .ok (.aload_n 0, 1) := by decide +kernel
theorem dX12_readTake_1 : decode cX12_readTake 1 = .ok (.aload_n 0, 1) := by decide +kernel
theorem dX12_readTake_2 : decode cX12_readTake 2 = .ok (.getfield 167, 3) := by decide +kernel
theorem dX12_readTake_5 : decode cX12_readTake 5 = .ok (.getfield 313, 3) := by decide +kernel
theorem dX12_readTake_8 : decode cX12_readTake 8 = .ok (.bipush 6, 2) := by decide +kernel
theorem dX12_readTake_10 : decode cX12_readTake 10 = .ok (.invokevirtual 238, 3) := by decide +kernel
theorem dX12_readTake_13 : decode cX12_readTake 13 = .ok (.aload_n 0, 1) := by decide +kernel
theorem dX12_readTake_14 : decode cX12_readTake 14 = .ok (.iconst 4, 1) := by decide +kernel
theorem dX12_readTake_15 : decode cX12_readTake 15 = .ok (.aload_n 0, 1) := by decide +kernel
theorem dX12_readTake_16 : decode cX12_readTake 16 = .ok (.getfield 167, 3) := by decide +kernel
theorem dX12_readTake_19 : decode cX12_readTake 19 = .ok (.getfield 313, 3) := by decide +kernel
theorem dX12_readTake_22 : decode cX12_readTake 22 = .ok (.invokevirtual 242, 3) := by decide +kernel
theorem dX12_readTake_25 : decode cX12_readTake 25 = .ok (.aload_n 0, 1) := by decide +kernel
theorem dX12_readTake_26 : decode cX12_readTake 26 = .ok (.ldc_w 316, 3) := by decide +kernel
theorem dX12_readTake_29 : decode cX12_readTake 29 = .ok (.invokevirtual 252, 3) := by decide +kernel
theorem dX12_readTake_32 : decode cX12_readTake 32 = .ok (.aload_n 0, 1) := by decide +kernel
theorem dX12_readTake_33 : decode cX12_readTake 33 = .ok (.iconst 3, 1) := by decide +kernel
theorem dX12_readTake_34 : decode cX12_readTake 34 = .ok (.invokevirtual 256, 3) := by decide +kernel
theorem dX12_readTake_37 : decode cX12_readTake 37 = .ok (.istore_n 1, 1) := by decide +kernel
theorem dX12_readTake_38 : decode cX12_readTake 38 = .ok (.aload_n 0, 1) := by decide +kernel
theorem dX12_readTake_39 : decode cX12_readTake 39 = .ok (.ldc_w 317, 3) := by decide +kernel
theorem dX12_readTake_42 : decode cX12_readTake 42 = .ok (.invokevirtual 252, 3) := by decide +kernel
theorem dX12_readTake_45 : decode cX12_readTake 45 = .ok (.aload_n 0, 1) := by decide +kernel
theorem dX12_readTake_46 : decode cX12_readTake 46 = .ok (.invokevirtual 319, 3) := by decide +kernel
theorem dX12_readTake_49 : decode cX12_readTake 49 = .ok (.istore_n 2, 1) := by decide +kernel
theorem dX12_readTake_50 : decode cX12_readTake 50 = .ok (.aload_n 0, 1) := by decide +kernel
theorem dX12_readTake_51 : decode cX12_readTake 51 = .ok (.ldc_w 322, 3) := by decide +kernel
theorem dX12_readTake_54 : decode cX12_readTake 54 = .ok (.invokevirtual 252, 3) := by decide +kernel
theorem dX12_readTake_57 : decode cX12_readTake 57 = .ok (.aload_n 0, 1) := by decide +kernel
theorem dX12_readTake_58 : decode cX12_readTake 58 = .ok (.iconst 1, 1) := by decide +kernel
theorem dX12_readTake_59 : decode cX12_readTake 59 = .ok (.bipush 99, 2) := by decide +kernel
theorem dX12_readTake_61 : decode cX12_readTake 61 = .ok (.invokevirtual 261, 3) := by decide +kernel
theorem dX12_readTake_64 : decode cX12_readTake 64 = .ok (.istore_n 3, 1) := by decide +kernel
theorem dX12_readTake_65 : decode cX12_readTake 65 = .ok (.aload_n 0, 1) := by decide +kernel
theorem dX12_readTake_66 : decode cX12_readTake 66 = .ok (.getfield 83, 3) := by decide +kernel
theorem dX12_readTake_69 : decode cX12_readTake 69 = .ok (.iconst 5, 1) := by decide +kernel
theorem dX12_readTake_70 : decode cX12_readTake 70 = .ok (.if_icmp .ne 4, 3) := by decide +kernel
theorem dX12_readTake_73 : decode cX12_readTake 73 = .ok (.return_, 1) := by decide +kernel
theorem dX12_readTake_74 : decode cX12_readTake 74 = .ok (.aload_n 0, 1) := by decide +kernel
theorem dX12_readTake_75 : decode cX12_readTake 75 = .ok (.aload_n 0, 1) := by decide +kernel
theorem dX12_readTake_76 : decode cX12_readTake 76 = .ok (.getfield 167, 3) := by decide +kernel
theorem dX12_readTake_79 : decode cX12_readTake 79 = .ok (.getfield 313, 3) := by decide +kernel
theorem dX12_readTake_82 : decode cX12_readTake 82 = .ok (.invokevirtual 324, 3) := by decide +kernel
theorem dX12_readTake_85 : decode cX12_readTake 85 = .ok (.aload_n 0, 1) := by decide +kernel
theorem dX12_readTake_86 : decode cX12_readTake 86 = .ok (.getfield 83, 3) := by decide +kernel
theorem dX12_readTake_89 : decode cX12_readTake 89 = .ok (.iconst 5, 1) := by decide +kernel
theorem dX12_readTake_90 : decode cX12_readTake 90 = .ok (.if_icmp .ne 4, 3) := by decide +kernel
theorem dX12_readTake_93 : decode cX12_readTake 93 = .ok (.return_, 1) := by decide +kernel
theorem dX12_readTake_94 : decode cX12_readTake 94 = .ok (.aload_n 0, 1) := by decide +kernel
theorem dX12_readTake_95 : decode cX12_readTake 95 = .ok (.getfield 167, 3) := by decide +kernel
theorem dX12_readTake_98 : decode cX12_readTake 98 = .ok (.getfield 327, 3) := by decide +kernel
theorem dX12_readTake_101 : decode cX12_readTake 101 = .ok (.aload_n 0, 1) := by decide +kernel
theorem dX12_readTake_102 : decode cX12_readTake 102 = .ok (.getfield 167, 3) := by decide +kernel
theorem dX12_readTake_105 : decode cX12_readTake 105 = .ok (.getfield 313, 3) := by decide +kernel
theorem dX12_readTake_108 : decode cX12_readTake 108 = .ok (.iload_n 1, 1) := by decide +kernel
theorem dX12_readTake_109 : decode cX12_readTake 109 = .ok (.iastore, 1) := by decide +kernel
theorem dX12_readTake_110 : decode cX12_readTake 110 = .ok (.aload_n 0, 1) := by decide +kernel
theorem dX12_readTake_111 : decode cX12_readTake 111 = .ok (.getfield 167, 3) := by decide +kernel
theorem dX12_readTake_114 : decode cX12_readTake 114 = .ok (.getfield 329, 3) := by decide +kernel
theorem dX12_readTake_117 : decode cX12_readTake 117 = .ok (.aload_n 0, 1) := by decide +kernel
theorem dX12_readTake_118 : decode cX12_readTake 118 = .ok (.getfield 167, 3) := by decide +kernel
theorem dX12_readTake_121 : decode cX12_readTake 121 = .ok (.getfield 313, 3) := by decide +kernel
theorem dX12_readTake_124 : decode cX12_readTake 124 = .ok (.iload_n 2, 1) := by decide +kernel
theorem dX12_readTake_125 : decode cX12_readTake 125 = .ok (.iastore, 1) := by decide +kernel
theorem dX12_readTake_126 : decode cX12_readTake 126 = .ok (.aload_n 0, 1) := by decide +kernel
theorem dX12_readTake_127 : decode cX12_readTake 127 = .ok (.getfield 167, 3) := by decide +kernel
theorem dX12_readTake_130 : decode cX12_readTake 130 = .ok (.getfield 331, 3) := by decide +kernel
theorem dX12_readTake_133 : decode cX12_readTake 133 = .ok (.aload_n 0, 1) := by decide +kernel
theorem dX12_readTake_134 : decode cX12_readTake 134 = .ok (.getfield 167, 3) := by decide +kernel
theorem dX12_readTake_137 : decode cX12_readTake 137 = .ok (.getfield 313, 3) := by decide +kernel
theorem dX12_readTake_140 : decode cX12_readTake 140 = .ok (.iload_n 3, 1) := by decide +kernel
theorem dX12_readTake_141 : decode cX12_readTake 141 = .ok (.iastore, 1) := by decide +kernel
theorem dX12_readTake_142 : decode cX12_readTake 142 = .ok (.aload_n 0, 1) := by decide +kernel
theorem dX12_readTake_143 : decode cX12_readTake 143 = .ok (.getfield 167, 3) := by decide +kernel
theorem dX12_readTake_146 : decode cX12_readTake 146 = .ok (.dup, 1) := by decide +kernel
theorem dX12_readTake_147 : decode cX12_readTake 147 = .ok (.getfield 313, 3) := by decide +kernel
theorem dX12_readTake_150 : decode cX12_readTake 150 = .ok (.iconst 1, 1) := by decide +kernel
theorem dX12_readTake_151 : decode cX12_readTake 151 = .ok (.iadd, 1) := by decide +kernel
theorem dX12_readTake_152 : decode cX12_readTake 152 = .ok (.putfield 313, 3) := by decide +kernel
theorem dX12_readTake_155 : decode cX12_readTake 155 = .ok (.return_, 1) := by decide +kernel
theorem dX12_readFree_0 : decode cX12_readFree 0 = .ok (.aload_n 0, 1) := by decide +kernel
theorem dX12_readFree_1 : decode cX12_readFree 1 = .ok (.aload_n 0, 1) := by decide +kernel
theorem dX12_readFree_2 : decode cX12_readFree 2 = .ok (.getfield 167, 3) := by decide +kernel
theorem dX12_readFree_5 : decode cX12_readFree 5 = .ok (.getfield 334, 3) := by decide +kernel
theorem dX12_readFree_8 : decode cX12_readFree 8 = .ok (.bipush 6, 2) := by decide +kernel
theorem dX12_readFree_10 : decode cX12_readFree 10 = .ok (.invokevirtual 238, 3) := by decide +kernel
theorem dX12_readFree_13 : decode cX12_readFree 13 = .ok (.bipush 6, 2) := by decide +kernel
theorem dX12_readFree_15 : decode cX12_readFree 15 = .ok (.aload_n 0, 1) := by decide +kernel
theorem dX12_readFree_16 : decode cX12_readFree 16 = .ok (.getfield 167, 3) := by decide +kernel
theorem dX12_readFree_19 : decode cX12_readFree 19 = .ok (.getfield 334, 3) := by decide +kernel
theorem dX12_readFree_22 : decode cX12_readFree 22 = .ok (.iadd, 1) := by decide +kernel
theorem dX12_readFree_23 : decode cX12_readFree 23 = .ok (.istore_n 1, 1) := by decide +kernel
theorem dX12_readFree_24 : decode cX12_readFree 24 = .ok (.aload_n 0, 1) := by decide +kernel
theorem dX12_readFree_25 : decode cX12_readFree 25 = .ok (.iconst 4, 1) := by decide +kernel
theorem dX12_readFree_26 : decode cX12_readFree 26 = .ok (.iload_n 1, 1) := by decide +kernel
theorem dX12_readFree_27 : decode cX12_readFree 27 = .ok (.invokevirtual 242, 3) := by decide +kernel
theorem dX12_readFree_30 : decode cX12_readFree 30 = .ok (.aload_n 0, 1) := by decide +kernel
theorem dX12_readFree_31 : decode cX12_readFree 31 = .ok (.ldc_w 337, 3) := by decide +kernel
theorem dX12_readFree_34 : decode cX12_readFree 34 = .ok (.invokevirtual 252, 3) := by decide +kernel
theorem dX12_readFree_37 : decode cX12_readFree 37 = .ok (.aload_n 0, 1) := by decide +kernel
theorem dX12_readFree_38 : decode cX12_readFree 38 = .ok (.iconst 0, 1) := by decide +kernel
theorem dX12_readFree_39 : decode cX12_readFree 39 = .ok (.invokevirtual 256, 3) := by decide +kernel
theorem dX12_readFree_42 : decode cX12_readFree 42 = .ok (.istore_n 2, 1) := by decide +kernel
theorem dX12_readFree_43 : decode cX12_readFree 43 = .ok (.aload_n 0, 1) := by decide +kernel
theorem dX12_readFree_44 : decode cX12_readFree 44 = .ok (.ldc_w 317, 3) := by decide +kernel
theorem dX12_readFree_47 : decode cX12_readFree 47 = .ok (.invokevirtual 252, 3) := by decide +kernel
theorem dX12_readFree_50 : decode cX12_readFree 50 = .ok (.aload_n 0, 1) := by decide +kernel
theorem dX12_readFree_51 : decode cX12_readFree 51 = .ok (.invokevirtual 319, 3) := by decide +kernel
theorem dX12_readFree_54 : decode cX12_readFree 54 = .ok (.istore_n 3, 1) := by decide +kernel
theorem dX12_readFree_55 : decode cX12_readFree 55 = .ok (.aload_n 0, 1) := by decide +kernel
theorem dX12_readFree_56 : decode cX12_readFree 56 = .ok (.ldc_w 339, 3) := by decide +kernel
theorem dX12_readFree_59 : decode cX12_readFree 59 = .ok (.invokevirtual 119, 3) := by decide +kernel
theorem dX12_readFree_62 : decode cX12_readFree 62 = .ok (.ifCond .eq 7, 3) := by decide +kernel
theorem dX12_readFree_65 : decode cX12_readFree 65 = .ok (.iconst 0, 1) := by decide +kernel
theorem dX12_readFree_66 : decode cX12_readFree 66 = .ok (.goto 32, 3) := by decide +kernel
theorem dX12_readFree_69 : decode cX12_readFree 69 = .ok (.aload_n 0, 1) := by decide +kernel
theorem dX12_readFree_70 : decode cX12_readFree 70 = .ok (.ldc_w 341, 3) := by decide +kernel
theorem dX12_readFree_73 : decode cX12_readFree 73 = .ok (.invokevirtual 119, 3) := by decide +kernel
theorem dX12_readFree_76 : decode cX12_readFree 76 = .ok (.ifCond .eq 7, 3) := by decide +kernel
theorem dX12_readFree_79 : decode cX12_readFree 79 = .ok (.iconst 1, 1) := by decide +kernel
theorem dX12_readFree_80 : decode cX12_readFree 80 = .ok (.goto 18, 3) := by decide +kernel
theorem dX12_readFree_83 : decode cX12_readFree 83 = .ok (.aload_n 0, 1) := by decide +kernel
theorem dX12_readFree_84 : decode cX12_readFree 84 = .ok (.ldc_w 343, 3) := by decide +kernel
theorem dX12_readFree_87 : decode cX12_readFree 87 = .ok (.invokevirtual 119, 3) := by decide +kernel
theorem dX12_readFree_90 : decode cX12_readFree 90 = .ok (.ifCond .eq 7, 3) := by decide +kernel
theorem dX12_readFree_93 : decode cX12_readFree 93 = .ok (.iconst 2, 1) := by decide +kernel
theorem dX12_readFree_94 : decode cX12_readFree 94 = .ok (.goto 4, 3) := by decide +kernel
theorem dX12_readFree_97 : decode cX12_readFree 97 = .ok (.iconst (-1), 1) := by decide +kernel
theorem dX12_readFree_98 : decode cX12_readFree 98 = .ok (.istore 4, 2) := by decide +kernel
theorem dX12_readFree_100 : decode cX12_readFree 100 = .ok (.iload 4, 2) := by decide +kernel
theorem dX12_readFree_102 : decode cX12_readFree 102 = .ok (.iconst (-1), 1) := by decide +kernel
theorem dX12_readFree_103 : decode cX12_readFree 103 = .ok (.if_icmp .ne 8, 3) := by decide +kernel
theorem dX12_readFree_106 : decode cX12_readFree 106 = .ok (.aload_n 0, 1) := by decide +kernel
theorem dX12_readFree_107 : decode cX12_readFree 107 = .ok (.iconst 1, 1) := by decide +kernel
theorem dX12_readFree_108 : decode cX12_readFree 108 = .ok (.invokevirtual 126, 3) := by decide +kernel
theorem dX12_readFree_111 : decode cX12_readFree 111 = .ok (.aload_n 0, 1) := by decide +kernel
theorem dX12_readFree_112 : decode cX12_readFree 112 = .ok (.invokevirtual 123, 3) := by decide +kernel
theorem dX12_readFree_115 : decode cX12_readFree 115 = .ok (.aload_n 0, 1) := by decide +kernel
theorem dX12_readFree_116 : decode cX12_readFree 116 = .ok (.iload_n 1, 1) := by decide +kernel
theorem dX12_readFree_117 : decode cX12_readFree 117 = .ok (.invokevirtual 324, 3) := by decide +kernel
theorem dX12_readFree_120 : decode cX12_readFree 120 = .ok (.aload_n 0, 1) := by decide +kernel
theorem dX12_readFree_121 : decode cX12_readFree 121 = .ok (.getfield 83, 3) := by decide +kernel
theorem dX12_readFree_124 : decode cX12_readFree 124 = .ok (.iconst 5, 1) := by decide +kernel
theorem dX12_readFree_125 : decode cX12_readFree 125 = .ok (.if_icmp .ne 4, 3) := by decide +kernel
theorem dX12_readFree_128 : decode cX12_readFree 128 = .ok (.return_, 1) := by decide +kernel
theorem dX12_readFree_129 : decode cX12_readFree 129 = .ok (.aload_n 0, 1) := by decide +kernel
theorem dX12_readFree_130 : decode cX12_readFree 130 = .ok (.getfield 167, 3) := by decide +kernel
theorem dX12_readFree_133 : decode cX12_readFree 133 = .ok (.getfield 327, 3) := by decide +kernel
theorem dX12_readFree_136 : decode cX12_readFree 136 = .ok (.iload_n 1, 1) := by decide +kernel
theorem dX12_readFree_137 : decode cX12_readFree 137 = .ok (.iload_n 2, 1) := by decide +kernel
theorem dX12_readFree_138 : decode cX12_readFree 138 = .ok (.iastore, 1) := by decide +kernel
theorem dX12_readFree_139 : decode cX12_readFree 139 = .ok (.aload_n 0, 1) := by decide +kernel
theorem dX12_readFree_140 : decode cX12_readFree 140 = .ok (.getfield 167, 3) := by decide +kernel
theorem dX12_readFree_143 : decode cX12_readFree 143 = .ok (.getfield 329, 3) := by decide +kernel
theorem dX12_readFree_146 : decode cX12_readFree 146 = .ok (.iload_n 1, 1) := by decide +kernel
theorem dX12_readFree_147 : decode cX12_readFree 147 = .ok (.iload_n 3, 1) := by decide +kernel
theorem dX12_readFree_148 : decode cX12_readFree 148 = .ok (.iastore, 1) := by decide +kernel
theorem dX12_readFree_149 : decode cX12_readFree 149 = .ok (.aload_n 0, 1) := by decide +kernel
theorem dX12_readFree_150 : decode cX12_readFree 150 = .ok (.getfield 167, 3) := by decide +kernel
theorem dX12_readFree_153 : decode cX12_readFree 153 = .ok (.getfield 331, 3) := by decide +kernel
theorem dX12_readFree_156 : decode cX12_readFree 156 = .ok (.iload_n 1, 1) := by decide +kernel
theorem dX12_readFree_157 : decode cX12_readFree 157 = .ok (.iload 4, 2) := by decide +kernel
theorem dX12_readFree_159 : decode cX12_readFree 159 = .ok (.iastore, 1) := by decide +kernel
theorem dX12_readFree_160 : decode cX12_readFree 160 = .ok (.aload_n 0, 1) := by decide +kernel
theorem dX12_readFree_161 : decode cX12_readFree 161 = .ok (.getfield 167, 3) := by decide +kernel
theorem dX12_readFree_164 : decode cX12_readFree 164 = .ok (.dup, 1) := by decide +kernel
theorem dX12_readFree_165 : decode cX12_readFree 165 = .ok (.getfield 334, 3) := by decide +kernel
theorem dX12_readFree_168 : decode cX12_readFree 168 = .ok (.iconst 1, 1) := by decide +kernel
theorem dX12_readFree_169 : decode cX12_readFree 169 = .ok (.iadd, 1) := by decide +kernel
theorem dX12_readFree_170 : decode cX12_readFree 170 = .ok (.putfield 334, 3) := by decide +kernel
theorem dX12_readFree_173 : decode cX12_readFree 173 = .ok (.return_, 1) := by decide +kernel
theorem dX12_readAlike_0 : decode cX12_readAlike 0 = .ok (.aload_n 0, 1) := by decide +kernel
theorem dX12_readAlike_1 : decode cX12_readAlike 1 = .ok (.aload_n 0, 1) := by decide +kernel
theorem dX12_readAlike_2 : decode cX12_readAlike 2 = .ok (.getfield 167, 3) := by decide +kernel
theorem dX12_readAlike_5 : decode cX12_readAlike 5 = .ok (.getfield 345, 3) := by decide +kernel
theorem dX12_readAlike_8 : decode cX12_readAlike 8 = .ok (.iconst 4, 1) := by decide +kernel
theorem dX12_readAlike_9 : decode cX12_readAlike 9 = .ok (.invokevirtual 238, 3) := by decide +kernel
theorem dX12_readAlike_12 : decode cX12_readAlike 12 = .ok (.bipush 12, 2) := by decide +kernel
theorem dX12_readAlike_14 : decode cX12_readAlike 14 = .ok (.aload_n 0, 1) := by decide +kernel
theorem dX12_readAlike_15 : decode cX12_readAlike 15 = .ok (.getfield 167, 3) := by decide +kernel
theorem dX12_readAlike_18 : decode cX12_readAlike 18 = .ok (.getfield 345, 3) := by decide +kernel
theorem dX12_readAlike_21 : decode cX12_readAlike 21 = .ok (.iadd, 1) := by decide +kernel
theorem dX12_readAlike_22 : decode cX12_readAlike 22 = .ok (.istore_n 1, 1) := by decide +kernel
theorem dX12_readAlike_23 : decode cX12_readAlike 23 = .ok (.aload_n 0, 1) := by decide +kernel
theorem dX12_readAlike_24 : decode cX12_readAlike 24 = .ok (.iconst 4, 1) := by decide +kernel
theorem dX12_readAlike_25 : decode cX12_readAlike 25 = .ok (.iload_n 1, 1) := by decide +kernel
theorem dX12_readAlike_26 : decode cX12_readAlike 26 = .ok (.invokevirtual 242, 3) := by decide +kernel
theorem dX12_readAlike_29 : decode cX12_readAlike 29 = .ok (.aload_n 0, 1) := by decide +kernel
theorem dX12_readAlike_30 : decode cX12_readAlike 30 = .ok (.ldc_w 337, 3) := by decide +kernel
theorem dX12_readAlike_33 : decode cX12_readAlike 33 = .ok (.invokevirtual 252, 3) := by decide +kernel
theorem dX12_readAlike_36 : decode cX12_readAlike 36 = .ok (.aload_n 0, 1) := by decide +kernel
theorem dX12_readAlike_37 : decode cX12_readAlike 37 = .ok (.iconst 0, 1) := by decide +kernel
theorem dX12_readAlike_38 : decode cX12_readAlike 38 = .ok (.invokevirtual 256, 3) := by decide +kernel
theorem dX12_readAlike_41 : decode cX12_readAlike 41 = .ok (.istore_n 2, 1) := by decide +kernel
theorem dX12_readAlike_42 : decode cX12_readAlike 42 = .ok (.aload_n 0, 1) := by decide +kernel
theorem dX12_readAlike_43 : decode cX12_readAlike 43 = .ok (.ldc_w 348, 3) := by decide +kernel
theorem dX12_readAlike_46 : decode cX12_readAlike 46 = .ok (.invokevirtual 252, 3) := by decide +kernel
theorem dX12_readAlike_49 : decode cX12_readAlike 49 = .ok (.aload_n 0, 1) := by decide +kernel
theorem dX12_readAlike_50 : decode cX12_readAlike 50 = .ok (.iload_n 2, 1) := by decide +kernel
theorem dX12_readAlike_51 : decode cX12_readAlike 51 = .ok (.invokevirtual 271, 3) := by decide +kernel
theorem dX12_readAlike_54 : decode cX12_readAlike 54 = .ok (.istore_n 3, 1) := by decide +kernel
theorem dX12_readAlike_55 : decode cX12_readAlike 55 = .ok (.aload_n 0, 1) := by decide +kernel
theorem dX12_readAlike_56 : decode cX12_readAlike 56 = .ok (.iload_n 1, 1) := by decide +kernel
theorem dX12_readAlike_57 : decode cX12_readAlike 57 = .ok (.invokevirtual 324, 3) := by decide +kernel
theorem dX12_readAlike_60 : decode cX12_readAlike 60 = .ok (.aload_n 0, 1) := by decide +kernel
theorem dX12_readAlike_61 : decode cX12_readAlike 61 = .ok (.getfield 83, 3) := by decide +kernel
theorem dX12_readAlike_64 : decode cX12_readAlike 64 = .ok (.iconst 5, 1) := by decide +kernel
theorem dX12_readAlike_65 : decode cX12_readAlike 65 = .ok (.if_icmp .ne 4, 3) := by decide +kernel
theorem dX12_readAlike_68 : decode cX12_readAlike 68 = .ok (.return_, 1) := by decide +kernel
theorem dX12_readAlike_69 : decode cX12_readAlike 69 = .ok (.aload_n 0, 1) := by decide +kernel
theorem dX12_readAlike_70 : decode cX12_readAlike 70 = .ok (.getfield 167, 3) := by decide +kernel
theorem dX12_readAlike_73 : decode cX12_readAlike 73 = .ok (.getfield 327, 3) := by decide +kernel
theorem dX12_readAlike_76 : decode cX12_readAlike 76 = .ok (.iload_n 1, 1) := by decide +kernel
theorem dX12_readAlike_77 : decode cX12_readAlike 77 = .ok (.iload_n 2, 1) := by decide +kernel
theorem dX12_readAlike_78 : decode cX12_readAlike 78 = .ok (.iastore, 1) := by decide +kernel
theorem dX12_readAlike_79 : decode cX12_readAlike 79 = .ok (.aload_n 0, 1) := by decide +kernel
theorem dX12_readAlike_80 : decode cX12_readAlike 80 = .ok (.getfield 167, 3) := by decide +kernel
theorem dX12_readAlike_83 : decode cX12_readAlike 83 = .ok (.getfield 329, 3) := by decide +kernel
theorem dX12_readAlike_86 : decode cX12_readAlike 86 = .ok (.iload_n 1, 1) := by decide +kernel
theorem dX12_readAlike_87 : decode cX12_readAlike 87 = .ok (.iload_n 3, 1) := by decide +kernel
theorem dX12_readAlike_88 : decode cX12_readAlike 88 = .ok (.iastore, 1) := by decide +kernel
theorem dX12_readAlike_89 : decode cX12_readAlike 89 = .ok (.aload_n 0, 1) := by decide +kernel
theorem dX12_readAlike_90 : decode cX12_readAlike 90 = .ok (.getfield 167, 3) := by decide +kernel
theorem dX12_readAlike_93 : decode cX12_readAlike 93 = .ok (.dup, 1) := by decide +kernel
theorem dX12_readAlike_94 : decode cX12_readAlike 94 = .ok (.getfield 345, 3) := by decide +kernel
theorem dX12_readAlike_97 : decode cX12_readAlike 97 = .ok (.iconst 1, 1) := by decide +kernel
theorem dX12_readAlike_98 : decode cX12_readAlike 98 = .ok (.iadd, 1) := by decide +kernel
theorem dX12_readAlike_99 : decode cX12_readAlike 99 = .ok (.putfield 345, 3) := by decide +kernel
theorem dX12_readAlike_102 : decode cX12_readAlike 102 = .ok (.return_, 1) := by decide +kernel
theorem dX12_readRenewal_0 : decode cX12_readRenewal 0 = .ok (.aload_n 0, 1) := by decide +kernel
theorem dX12_readRenewal_1 : decode cX12_readRenewal 1 = .ok (.aload_n 0, 1) := by decide +kernel
theorem dX12_readRenewal_2 : decode cX12_readRenewal 2 = .ok (.getfield 167, 3) := by decide +kernel
theorem dX12_readRenewal_5 : decode cX12_readRenewal 5 = .ok (.getfield 350, 3) := by decide +kernel
theorem dX12_readRenewal_8 : decode cX12_readRenewal 8 = .ok (.iconst 4, 1) := by decide +kernel
theorem dX12_readRenewal_9 : decode cX12_readRenewal 9 = .ok (.invokevirtual 238, 3) := by decide +kernel
theorem dX12_readRenewal_12 : decode cX12_readRenewal 12 = .ok (.aload_n 0, 1) := by decide +kernel
theorem dX12_readRenewal_13 : decode cX12_readRenewal 13 = .ok (.iconst 4, 1) := by decide +kernel
theorem dX12_readRenewal_14 : decode cX12_readRenewal 14 = .ok (.invokevirtual 190, 3) := by decide +kernel
theorem dX12_readRenewal_17 : decode cX12_readRenewal 17 = .ok (.istore_n 1, 1) := by decide +kernel
theorem dX12_readRenewal_18 : decode cX12_readRenewal 18 = .ok (.iload_n 1, 1) := by decide +kernel
theorem dX12_readRenewal_19 : decode cX12_readRenewal 19 = .ok (.bipush 12, 2) := by decide +kernel
theorem dX12_readRenewal_21 : decode cX12_readRenewal 21 = .ok (.if_icmp .lt 8, 3) := by decide +kernel
theorem dX12_readRenewal_24 : decode cX12_readRenewal 24 = .ok (.aload_n 0, 1) := by decide +kernel
theorem dX12_readRenewal_25 : decode cX12_readRenewal 25 = .ok (.iconst 2, 1) := by decide +kernel
theorem dX12_readRenewal_26 : decode cX12_readRenewal 26 = .ok (.invokevirtual 126, 3) := by decide +kernel
theorem dX12_readRenewal_29 : decode cX12_readRenewal 29 = .ok (.aload_n 0, 1) := by decide +kernel
theorem dX12_readRenewal_30 : decode cX12_readRenewal 30 = .ok (.invokevirtual 123, 3) := by decide +kernel
theorem dX12_readRenewal_33 : decode cX12_readRenewal 33 = .ok (.aload_n 0, 1) := by decide +kernel
theorem dX12_readRenewal_34 : decode cX12_readRenewal 34 = .ok (.ldc_w 353, 3) := by decide +kernel
theorem dX12_readRenewal_37 : decode cX12_readRenewal 37 = .ok (.invokevirtual 119, 3) := by decide +kernel
theorem dX12_readRenewal_40 : decode cX12_readRenewal 40 = .ok (.ifCond .eq 7, 3) := by decide +kernel
theorem dX12_readRenewal_43 : decode cX12_readRenewal 43 = .ok (.iconst 0, 1) := by decide +kernel
theorem dX12_readRenewal_44 : decode cX12_readRenewal 44 = .ok (.goto 32, 3) := by decide +kernel
theorem dX12_readRenewal_47 : decode cX12_readRenewal 47 = .ok (.aload_n 0, 1) := by decide +kernel
theorem dX12_readRenewal_48 : decode cX12_readRenewal 48 = .ok (.ldc_w 355, 3) := by decide +kernel
theorem dX12_readRenewal_51 : decode cX12_readRenewal 51 = .ok (.invokevirtual 119, 3) := by decide +kernel
theorem dX12_readRenewal_54 : decode cX12_readRenewal 54 = .ok (.ifCond .eq 7, 3) := by decide +kernel
theorem dX12_readRenewal_57 : decode cX12_readRenewal 57 = .ok (.iconst 1, 1) := by decide +kernel
theorem dX12_readRenewal_58 : decode cX12_readRenewal 58 = .ok (.goto 18, 3) := by decide +kernel
theorem dX12_readRenewal_61 : decode cX12_readRenewal 61 = .ok (.aload_n 0, 1) := by decide +kernel
theorem dX12_readRenewal_62 : decode cX12_readRenewal 62 = .ok (.ldc_w 357, 3) := by decide +kernel
theorem dX12_readRenewal_65 : decode cX12_readRenewal 65 = .ok (.invokevirtual 119, 3) := by decide +kernel
theorem dX12_readRenewal_68 : decode cX12_readRenewal 68 = .ok (.ifCond .eq 7, 3) := by decide +kernel
theorem dX12_readRenewal_71 : decode cX12_readRenewal 71 = .ok (.iconst 2, 1) := by decide +kernel
theorem dX12_readRenewal_72 : decode cX12_readRenewal 72 = .ok (.goto 4, 3) := by decide +kernel
theorem dX12_readRenewal_75 : decode cX12_readRenewal 75 = .ok (.iconst (-1), 1) := by decide +kernel
theorem dX12_readRenewal_76 : decode cX12_readRenewal 76 = .ok (.istore_n 2, 1) := by decide +kernel
theorem dX12_readRenewal_77 : decode cX12_readRenewal 77 = .ok (.iload_n 2, 1) := by decide +kernel
theorem dX12_readRenewal_78 : decode cX12_readRenewal 78 = .ok (.iconst (-1), 1) := by decide +kernel
theorem dX12_readRenewal_79 : decode cX12_readRenewal 79 = .ok (.if_icmp .ne 8, 3) := by decide +kernel
theorem dX12_readRenewal_82 : decode cX12_readRenewal 82 = .ok (.aload_n 0, 1) := by decide +kernel
theorem dX12_readRenewal_83 : decode cX12_readRenewal 83 = .ok (.iconst 1, 1) := by decide +kernel
theorem dX12_readRenewal_84 : decode cX12_readRenewal 84 = .ok (.invokevirtual 126, 3) := by decide +kernel
theorem dX12_readRenewal_87 : decode cX12_readRenewal 87 = .ok (.aload_n 0, 1) := by decide +kernel
theorem dX12_readRenewal_88 : decode cX12_readRenewal 88 = .ok (.invokevirtual 123, 3) := by decide +kernel
theorem dX12_readRenewal_91 : decode cX12_readRenewal 91 = .ok (.aload_n 0, 1) := by decide +kernel
theorem dX12_readRenewal_92 : decode cX12_readRenewal 92 = .ok (.ldc_w 305, 3) := by decide +kernel
theorem dX12_readRenewal_95 : decode cX12_readRenewal 95 = .ok (.invokevirtual 252, 3) := by decide +kernel
theorem dX12_readRenewal_98 : decode cX12_readRenewal 98 = .ok (.aload_n 0, 1) := by decide +kernel
theorem dX12_readRenewal_99 : decode cX12_readRenewal 99 = .ok (.iconst 0, 1) := by decide +kernel
theorem dX12_readRenewal_100 : decode cX12_readRenewal 100 = .ok (.sipush 999, 3) := by decide +kernel
theorem dX12_readRenewal_103 : decode cX12_readRenewal 103 = .ok (.invokevirtual 261, 3) := by decide +kernel
theorem dX12_readRenewal_106 : decode cX12_readRenewal 106 = .ok (.istore_n 3, 1) := by decide +kernel
theorem dX12_readRenewal_107 : decode cX12_readRenewal 107 = .ok (.aload_n 0, 1) := by decide +kernel
theorem dX12_readRenewal_108 : decode cX12_readRenewal 108 = .ok (.getfield 83, 3) := by decide +kernel
theorem dX12_readRenewal_111 : decode cX12_readRenewal 111 = .ok (.iconst 5, 1) := by decide +kernel
theorem dX12_readRenewal_112 : decode cX12_readRenewal 112 = .ok (.if_icmp .ne 4, 3) := by decide +kernel
theorem dX12_readRenewal_115 : decode cX12_readRenewal 115 = .ok (.return_, 1) := by decide +kernel
theorem dX12_readRenewal_116 : decode cX12_readRenewal 116 = .ok (.aload_n 0, 1) := by decide +kernel
theorem dX12_readRenewal_117 : decode cX12_readRenewal 117 = .ok (.getfield 167, 3) := by decide +kernel
theorem dX12_readRenewal_120 : decode cX12_readRenewal 120 = .ok (.getfield 359, 3) := by decide +kernel
theorem dX12_readRenewal_123 : decode cX12_readRenewal 123 = .ok (.aload_n 0, 1) := by decide +kernel
theorem dX12_readRenewal_124 : decode cX12_readRenewal 124 = .ok (.getfield 167, 3) := by decide +kernel
theorem dX12_readRenewal_127 : decode cX12_readRenewal 127 = .ok (.getfield 350, 3) := by decide +kernel
theorem dX12_readRenewal_130 : decode cX12_readRenewal 130 = .ok (.iload_n 1, 1) := by decide +kernel
theorem dX12_readRenewal_131 : decode cX12_readRenewal 131 = .ok (.iastore, 1) := by decide +kernel
theorem dX12_readRenewal_132 : decode cX12_readRenewal 132 = .ok (.aload_n 0, 1) := by decide +kernel
theorem dX12_readRenewal_133 : decode cX12_readRenewal 133 = .ok (.getfield 167, 3) := by decide +kernel
theorem dX12_readRenewal_136 : decode cX12_readRenewal 136 = .ok (.getfield 362, 3) := by decide +kernel
theorem dX12_readRenewal_139 : decode cX12_readRenewal 139 = .ok (.aload_n 0, 1) := by decide +kernel
theorem dX12_readRenewal_140 : decode cX12_readRenewal 140 = .ok (.getfield 167, 3) := by decide +kernel
theorem dX12_readRenewal_143 : decode cX12_readRenewal 143 = .ok (.getfield 350, 3) := by decide +kernel
theorem dX12_readRenewal_146 : decode cX12_readRenewal 146 = .ok (.iload_n 2, 1) := by decide +kernel
theorem dX12_readRenewal_147 : decode cX12_readRenewal 147 = .ok (.iastore, 1) := by decide +kernel
theorem dX12_readRenewal_148 : decode cX12_readRenewal 148 = .ok (.aload_n 0, 1) := by decide +kernel
theorem dX12_readRenewal_149 : decode cX12_readRenewal 149 = .ok (.getfield 167, 3) := by decide +kernel
theorem dX12_readRenewal_152 : decode cX12_readRenewal 152 = .ok (.getfield 365, 3) := by decide +kernel
theorem dX12_readRenewal_155 : decode cX12_readRenewal 155 = .ok (.aload_n 0, 1) := by decide +kernel
theorem dX12_readRenewal_156 : decode cX12_readRenewal 156 = .ok (.getfield 167, 3) := by decide +kernel
theorem dX12_readRenewal_159 : decode cX12_readRenewal 159 = .ok (.getfield 350, 3) := by decide +kernel
theorem dX12_readRenewal_162 : decode cX12_readRenewal 162 = .ok (.iload_n 3, 1) := by decide +kernel
theorem dX12_readRenewal_163 : decode cX12_readRenewal 163 = .ok (.iastore, 1) := by decide +kernel
theorem dX12_readRenewal_164 : decode cX12_readRenewal 164 = .ok (.aload_n 0, 1) := by decide +kernel
theorem dX12_readRenewal_165 : decode cX12_readRenewal 165 = .ok (.getfield 167, 3) := by decide +kernel
theorem dX12_readRenewal_168 : decode cX12_readRenewal 168 = .ok (.dup, 1) := by decide +kernel
theorem dX12_readRenewal_169 : decode cX12_readRenewal 169 = .ok (.getfield 350, 3) := by decide +kernel
theorem dX12_readRenewal_172 : decode cX12_readRenewal 172 = .ok (.iconst 1, 1) := by decide +kernel
theorem dX12_readRenewal_173 : decode cX12_readRenewal 173 = .ok (.iadd, 1) := by decide +kernel
theorem dX12_readRenewal_174 : decode cX12_readRenewal 174 = .ok (.putfield 350, 3) := by decide +kernel
theorem dX12_readRenewal_177 : decode cX12_readRenewal 177 = .ok (.return_, 1) := by decide +kernel
theorem dX12_readLoss_0 : decode cX12_readLoss 0 = .ok (.aload_n 0, 1) := by decide +kernel
theorem dX12_readLoss_1 : decode cX12_readLoss 1 = .ok (.aload_n 0, 1) := by decide +kernel
theorem dX12_readLoss_2 : decode cX12_readLoss 2 = .ok (.getfield 167, 3) := by decide +kernel
theorem dX12_readLoss_5 : decode cX12_readLoss 5 = .ok (.getfield 368, 3) := by decide +kernel
theorem dX12_readLoss_8 : decode cX12_readLoss 8 = .ok (.iconst 4, 1) := by decide +kernel
theorem dX12_readLoss_9 : decode cX12_readLoss 9 = .ok (.invokevirtual 238, 3) := by decide +kernel
theorem dX12_readLoss_12 : decode cX12_readLoss 12 = .ok (.aload_n 0, 1) := by decide +kernel
theorem dX12_readLoss_13 : decode cX12_readLoss 13 = .ok (.iconst 4, 1) := by decide +kernel
theorem dX12_readLoss_14 : decode cX12_readLoss 14 = .ok (.invokevirtual 190, 3) := by decide +kernel
theorem dX12_readLoss_17 : decode cX12_readLoss 17 = .ok (.istore_n 1, 1) := by decide +kernel
theorem dX12_readLoss_18 : decode cX12_readLoss 18 = .ok (.aload_n 0, 1) := by decide +kernel
theorem dX12_readLoss_19 : decode cX12_readLoss 19 = .ok (.getfield 167, 3) := by decide +kernel
theorem dX12_readLoss_22 : decode cX12_readLoss 22 = .ok (.getfield 371, 3) := by decide +kernel
theorem dX12_readLoss_25 : decode cX12_readLoss 25 = .ok (.iload_n 1, 1) := by decide +kernel
theorem dX12_readLoss_26 : decode cX12_readLoss 26 = .ok (.iaload, 1) := by decide +kernel
theorem dX12_readLoss_27 : decode cX12_readLoss 27 = .ok (.ifCond .le 8, 3) := by decide +kernel
theorem dX12_readLoss_30 : decode cX12_readLoss 30 = .ok (.aload_n 0, 1) := by decide +kernel
theorem dX12_readLoss_31 : decode cX12_readLoss 31 = .ok (.iconst 3, 1) := by decide +kernel
theorem dX12_readLoss_32 : decode cX12_readLoss 32 = .ok (.invokevirtual 126, 3) := by decide +kernel
theorem dX12_readLoss_35 : decode cX12_readLoss 35 = .ok (.aload_n 0, 1) := by decide +kernel
theorem dX12_readLoss_36 : decode cX12_readLoss 36 = .ok (.invokevirtual 123, 3) := by decide +kernel
theorem dX12_readLoss_39 : decode cX12_readLoss 39 = .ok (.aload_n 0, 1) := by decide +kernel
theorem dX12_readLoss_40 : decode cX12_readLoss 40 = .ok (.ldc 161, 2) := by decide +kernel
theorem dX12_readLoss_42 : decode cX12_readLoss 42 = .ok (.invokevirtual 302, 3) := by decide +kernel
theorem dX12_readLoss_45 : decode cX12_readLoss 45 = .ok (.istore_n 2, 1) := by decide +kernel
theorem dX12_readLoss_46 : decode cX12_readLoss 46 = .ok (.aload_n 0, 1) := by decide +kernel
theorem dX12_readLoss_47 : decode cX12_readLoss 47 = .ok (.getfield 83, 3) := by decide +kernel
theorem dX12_readLoss_50 : decode cX12_readLoss 50 = .ok (.iconst 5, 1) := by decide +kernel
theorem dX12_readLoss_51 : decode cX12_readLoss 51 = .ok (.if_icmp .ne 4, 3) := by decide +kernel
theorem dX12_readLoss_54 : decode cX12_readLoss 54 = .ok (.return_, 1) := by decide +kernel
theorem dX12_readLoss_55 : decode cX12_readLoss 55 = .ok (.aload_n 0, 1) := by decide +kernel
theorem dX12_readLoss_56 : decode cX12_readLoss 56 = .ok (.getfield 167, 3) := by decide +kernel
theorem dX12_readLoss_59 : decode cX12_readLoss 59 = .ok (.getfield 371, 3) := by decide +kernel
theorem dX12_readLoss_62 : decode cX12_readLoss 62 = .ok (.iload_n 1, 1) := by decide +kernel
theorem dX12_readLoss_63 : decode cX12_readLoss 63 = .ok (.iload_n 2, 1) := by decide +kernel
theorem dX12_readLoss_64 : decode cX12_readLoss 64 = .ok (.ifCond .eq 7, 3) := by decide +kernel
theorem dX12_readLoss_67 : decode cX12_readLoss 67 = .ok (.iconst 2, 1) := by decide +kernel
theorem dX12_readLoss_68 : decode cX12_readLoss 68 = .ok (.goto 4, 3) := by decide +kernel
theorem dX12_readLoss_71 : decode cX12_readLoss 71 = .ok (.iconst 1, 1) := by decide +kernel
theorem dX12_readLoss_72 : decode cX12_readLoss 72 = .ok (.iastore, 1) := by decide +kernel
theorem dX12_readLoss_73 : decode cX12_readLoss 73 = .ok (.aload_n 0, 1) := by decide +kernel
theorem dX12_readLoss_74 : decode cX12_readLoss 74 = .ok (.getfield 167, 3) := by decide +kernel
theorem dX12_readLoss_77 : decode cX12_readLoss 77 = .ok (.dup, 1) := by decide +kernel
theorem dX12_readLoss_78 : decode cX12_readLoss 78 = .ok (.getfield 368, 3) := by decide +kernel
theorem dX12_readLoss_81 : decode cX12_readLoss 81 = .ok (.iconst 1, 1) := by decide +kernel
theorem dX12_readLoss_82 : decode cX12_readLoss 82 = .ok (.iadd, 1) := by decide +kernel
theorem dX12_readLoss_83 : decode cX12_readLoss 83 = .ok (.putfield 368, 3) := by decide +kernel
theorem dX12_readLoss_86 : decode cX12_readLoss 86 = .ok (.return_, 1) := by decide +kernel
theorem dX12_readLaw_0 : decode cX12_readLaw 0 = .ok (.aload_n 0, 1) := by decide +kernel
theorem dX12_readLaw_1 : decode cX12_readLaw 1 = .ok (.aload_n 0, 1) := by decide +kernel
theorem dX12_readLaw_2 : decode cX12_readLaw 2 = .ok (.getfield 167, 3) := by decide +kernel
theorem dX12_readLaw_5 : decode cX12_readLaw 5 = .ok (.getfield 199, 3) := by decide +kernel
theorem dX12_readLaw_8 : decode cX12_readLaw 8 = .ok (.iconst 3, 1) := by decide +kernel
theorem dX12_readLaw_9 : decode cX12_readLaw 9 = .ok (.invokevirtual 238, 3) := by decide +kernel
theorem dX12_readLaw_12 : decode cX12_readLaw 12 = .ok (.aload_n 0, 1) := by decide +kernel
theorem dX12_readLaw_13 : decode cX12_readLaw 13 = .ok (.iconst 5, 1) := by decide +kernel
theorem dX12_readLaw_14 : decode cX12_readLaw 14 = .ok (.aload_n 0, 1) := by decide +kernel
theorem dX12_readLaw_15 : decode cX12_readLaw 15 = .ok (.getfield 167, 3) := by decide +kernel
theorem dX12_readLaw_18 : decode cX12_readLaw 18 = .ok (.getfield 199, 3) := by decide +kernel
theorem dX12_readLaw_21 : decode cX12_readLaw 21 = .ok (.invokevirtual 242, 3) := by decide +kernel
theorem dX12_readLaw_24 : decode cX12_readLaw 24 = .ok (.aload_n 0, 1) := by decide +kernel
theorem dX12_readLaw_25 : decode cX12_readLaw 25 = .ok (.ldc_w 374, 3) := by decide +kernel
theorem dX12_readLaw_28 : decode cX12_readLaw 28 = .ok (.ldc_w 376, 3) := by decide +kernel
theorem dX12_readLaw_31 : decode cX12_readLaw 31 = .ok (.invokevirtual 378, 3) := by decide +kernel
theorem dX12_readLaw_34 : decode cX12_readLaw 34 = .ok (.istore_n 1, 1) := by decide +kernel
theorem dX12_readLaw_35 : decode cX12_readLaw 35 = .ok (.aload_n 0, 1) := by decide +kernel
theorem dX12_readLaw_36 : decode cX12_readLaw 36 = .ok (.ldc_w 339, 3) := by decide +kernel
theorem dX12_readLaw_39 : decode cX12_readLaw 39 = .ok (.ldc_w 382, 3) := by decide +kernel
theorem dX12_readLaw_42 : decode cX12_readLaw 42 = .ok (.invokevirtual 378, 3) := by decide +kernel
theorem dX12_readLaw_45 : decode cX12_readLaw 45 = .ok (.istore_n 2, 1) := by decide +kernel
theorem dX12_readLaw_46 : decode cX12_readLaw 46 = .ok (.aload_n 0, 1) := by decide +kernel
theorem dX12_readLaw_47 : decode cX12_readLaw 47 = .ok (.ldc_w 384, 3) := by decide +kernel
theorem dX12_readLaw_50 : decode cX12_readLaw 50 = .ok (.ldc_w 386, 3) := by decide +kernel
theorem dX12_readLaw_53 : decode cX12_readLaw 53 = .ok (.invokevirtual 378, 3) := by decide +kernel
theorem dX12_readLaw_56 : decode cX12_readLaw 56 = .ok (.istore_n 3, 1) := by decide +kernel
theorem dX12_readLaw_57 : decode cX12_readLaw 57 = .ok (.aload_n 0, 1) := by decide +kernel
theorem dX12_readLaw_58 : decode cX12_readLaw 58 = .ok (.ldc_w 388, 3) := by decide +kernel
theorem dX12_readLaw_61 : decode cX12_readLaw 61 = .ok (.ldc_w 390, 3) := by decide +kernel
theorem dX12_readLaw_64 : decode cX12_readLaw 64 = .ok (.invokevirtual 378, 3) := by decide +kernel
theorem dX12_readLaw_67 : decode cX12_readLaw 67 = .ok (.istore 4, 2) := by decide +kernel
theorem dX12_readLaw_69 : decode cX12_readLaw 69 = .ok (.aload_n 0, 1) := by decide +kernel
theorem dX12_readLaw_70 : decode cX12_readLaw 70 = .ok (.getfield 83, 3) := by decide +kernel
theorem dX12_readLaw_73 : decode cX12_readLaw 73 = .ok (.iconst 5, 1) := by decide +kernel
theorem dX12_readLaw_74 : decode cX12_readLaw 74 = .ok (.if_icmp .ne 4, 3) := by decide +kernel
theorem dX12_readLaw_77 : decode cX12_readLaw 77 = .ok (.return_, 1) := by decide +kernel
theorem dX12_readLaw_78 : decode cX12_readLaw 78 = .ok (.aload_n 0, 1) := by decide +kernel
theorem dX12_readLaw_79 : decode cX12_readLaw 79 = .ok (.getfield 167, 3) := by decide +kernel
theorem dX12_readLaw_82 : decode cX12_readLaw 82 = .ok (.getfield 392, 3) := by decide +kernel
theorem dX12_readLaw_85 : decode cX12_readLaw 85 = .ok (.aload_n 0, 1) := by decide +kernel
theorem dX12_readLaw_86 : decode cX12_readLaw 86 = .ok (.getfield 167, 3) := by decide +kernel
theorem dX12_readLaw_89 : decode cX12_readLaw 89 = .ok (.getfield 199, 3) := by decide +kernel
theorem dX12_readLaw_92 : decode cX12_readLaw 92 = .ok (.iload_n 1, 1) := by decide +kernel
theorem dX12_readLaw_93 : decode cX12_readLaw 93 = .ok (.bastore, 1) := by decide +kernel
theorem dX12_readLaw_94 : decode cX12_readLaw 94 = .ok (.aload_n 0, 1) := by decide +kernel
theorem dX12_readLaw_95 : decode cX12_readLaw 95 = .ok (.getfield 167, 3) := by decide +kernel
theorem dX12_readLaw_98 : decode cX12_readLaw 98 = .ok (.getfield 396, 3) := by decide +kernel
theorem dX12_readLaw_101 : decode cX12_readLaw 101 = .ok (.aload_n 0, 1) := by decide +kernel
theorem dX12_readLaw_102 : decode cX12_readLaw 102 = .ok (.getfield 167, 3) := by decide +kernel
theorem dX12_readLaw_105 : decode cX12_readLaw 105 = .ok (.getfield 199, 3) := by decide +kernel
theorem dX12_readLaw_108 : decode cX12_readLaw 108 = .ok (.iload_n 2, 1) := by decide +kernel
theorem dX12_readLaw_109 : decode cX12_readLaw 109 = .ok (.bastore, 1) := by decide +kernel
theorem dX12_readLaw_110 : decode cX12_readLaw 110 = .ok (.aload_n 0, 1) := by decide +kernel
theorem dX12_readLaw_111 : decode cX12_readLaw 111 = .ok (.getfield 167, 3) := by decide +kernel
theorem dX12_readLaw_114 : decode cX12_readLaw 114 = .ok (.getfield 399, 3) := by decide +kernel
theorem dX12_readLaw_117 : decode cX12_readLaw 117 = .ok (.aload_n 0, 1) := by decide +kernel
theorem dX12_readLaw_118 : decode cX12_readLaw 118 = .ok (.getfield 167, 3) := by decide +kernel
theorem dX12_readLaw_121 : decode cX12_readLaw 121 = .ok (.getfield 199, 3) := by decide +kernel
theorem dX12_readLaw_124 : decode cX12_readLaw 124 = .ok (.iload_n 3, 1) := by decide +kernel
theorem dX12_readLaw_125 : decode cX12_readLaw 125 = .ok (.bastore, 1) := by decide +kernel
theorem dX12_readLaw_126 : decode cX12_readLaw 126 = .ok (.aload_n 0, 1) := by decide +kernel
theorem dX12_readLaw_127 : decode cX12_readLaw 127 = .ok (.getfield 167, 3) := by decide +kernel
theorem dX12_readLaw_130 : decode cX12_readLaw 130 = .ok (.getfield 402, 3) := by decide +kernel
theorem dX12_readLaw_133 : decode cX12_readLaw 133 = .ok (.aload_n 0, 1) := by decide +kernel
theorem dX12_readLaw_134 : decode cX12_readLaw 134 = .ok (.getfield 167, 3) := by decide +kernel
theorem dX12_readLaw_137 : decode cX12_readLaw 137 = .ok (.getfield 199, 3) := by decide +kernel
theorem dX12_readLaw_140 : decode cX12_readLaw 140 = .ok (.iload 4, 2) := by decide +kernel
theorem dX12_readLaw_142 : decode cX12_readLaw 142 = .ok (.bastore, 1) := by decide +kernel
theorem dX12_readLaw_143 : decode cX12_readLaw 143 = .ok (.aload_n 0, 1) := by decide +kernel
theorem dX12_readLaw_144 : decode cX12_readLaw 144 = .ok (.getfield 167, 3) := by decide +kernel
theorem dX12_readLaw_147 : decode cX12_readLaw 147 = .ok (.dup, 1) := by decide +kernel
theorem dX12_readLaw_148 : decode cX12_readLaw 148 = .ok (.getfield 199, 3) := by decide +kernel
theorem dX12_readLaw_151 : decode cX12_readLaw 151 = .ok (.iconst 1, 1) := by decide +kernel
theorem dX12_readLaw_152 : decode cX12_readLaw 152 = .ok (.iadd, 1) := by decide +kernel
theorem dX12_readLaw_153 : decode cX12_readLaw 153 = .ok (.putfield 199, 3) := by decide +kernel
theorem dX12_readLaw_156 : decode cX12_readLaw 156 = .ok (.return_, 1) := by decide +kernel
theorem dX12_readCart_0 : decode cX12_readCart 0 = .ok (.aload_n 0, 1) := by decide +kernel
theorem dX12_readCart_1 : decode cX12_readCart 1 = .ok (.aload_n 0, 1) := by decide +kernel
theorem dX12_readCart_2 : decode cX12_readCart 2 = .ok (.getfield 167, 3) := by decide +kernel
theorem dX12_readCart_5 : decode cX12_readCart 5 = .ok (.getfield 405, 3) := by decide +kernel
theorem dX12_readCart_8 : decode cX12_readCart 8 = .ok (.bipush 6, 2) := by decide +kernel
theorem dX12_readCart_10 : decode cX12_readCart 10 = .ok (.invokevirtual 238, 3) := by decide +kernel
theorem dX12_readCart_13 : decode cX12_readCart 13 = .ok (.aload_n 0, 1) := by decide +kernel
theorem dX12_readCart_14 : decode cX12_readCart 14 = .ok (.bipush 6, 2) := by decide +kernel
theorem dX12_readCart_16 : decode cX12_readCart 16 = .ok (.aload_n 0, 1) := by decide +kernel
theorem dX12_readCart_17 : decode cX12_readCart 17 = .ok (.getfield 167, 3) := by decide +kernel
theorem dX12_readCart_20 : decode cX12_readCart 20 = .ok (.getfield 405, 3) := by decide +kernel
theorem dX12_readCart_23 : decode cX12_readCart 23 = .ok (.invokevirtual 242, 3) := by decide +kernel
theorem dX12_readCart_26 : decode cX12_readCart 26 = .ok (.aload_n 0, 1) := by decide +kernel
theorem dX12_readCart_27 : decode cX12_readCart 27 = .ok (.ldc 250, 2) := by decide +kernel
theorem dX12_readCart_29 : decode cX12_readCart 29 = .ok (.invokevirtual 252, 3) := by decide +kernel
theorem dX12_readCart_32 : decode cX12_readCart 32 = .ok (.aload_n 0, 1) := by decide +kernel
theorem dX12_readCart_33 : decode cX12_readCart 33 = .ok (.iconst 2, 1) := by decide +kernel
theorem dX12_readCart_34 : decode cX12_readCart 34 = .ok (.invokevirtual 256, 3) := by decide +kernel
theorem dX12_readCart_37 : decode cX12_readCart 37 = .ok (.istore_n 1, 1) := by decide +kernel
theorem dX12_readCart_38 : decode cX12_readCart 38 = .ok (.aload_n 0, 1) := by decide +kernel
theorem dX12_readCart_39 : decode cX12_readCart 39 = .ok (.ldc_w 408, 3) := by decide +kernel
theorem dX12_readCart_42 : decode cX12_readCart 42 = .ok (.invokevirtual 252, 3) := by decide +kernel
theorem dX12_readCart_45 : decode cX12_readCart 45 = .ok (.aload_n 0, 1) := by decide +kernel
theorem dX12_readCart_46 : decode cX12_readCart 46 = .ok (.iconst 1, 1) := by decide +kernel
theorem dX12_readCart_47 : decode cX12_readCart 47 = .ok (.invokevirtual 256, 3) := by decide +kernel
theorem dX12_readCart_50 : decode cX12_readCart 50 = .ok (.istore_n 2, 1) := by decide +kernel
theorem dX12_readCart_51 : decode cX12_readCart 51 = .ok (.aload_n 0, 1) := by decide +kernel
theorem dX12_readCart_52 : decode cX12_readCart 52 = .ok (.ldc_w 339, 3) := by decide +kernel
theorem dX12_readCart_55 : decode cX12_readCart 55 = .ok (.ldc_w 341, 3) := by decide +kernel
theorem dX12_readCart_58 : decode cX12_readCart 58 = .ok (.invokevirtual 378, 3) := by decide +kernel
theorem dX12_readCart_61 : decode cX12_readCart 61 = .ok (.istore_n 3, 1) := by decide +kernel
theorem dX12_readCart_62 : decode cX12_readCart 62 = .ok (.aload_n 0, 1) := by decide +kernel
theorem dX12_readCart_63 : decode cX12_readCart 63 = .ok (.ldc_w 410, 3) := by decide +kernel
theorem dX12_readCart_66 : decode cX12_readCart 66 = .ok (.invokevirtual 252, 3) := by decide +kernel
theorem dX12_readCart_69 : decode cX12_readCart 69 = .ok (.aload_n 0, 1) := by decide +kernel
theorem dX12_readCart_70 : decode cX12_readCart 70 = .ok (.iconst 1, 1) := by decide +kernel
theorem dX12_readCart_71 : decode cX12_readCart 71 = .ok (.bipush 99, 2) := by decide +kernel
theorem dX12_readCart_73 : decode cX12_readCart 73 = .ok (.invokevirtual 261, 3) := by decide +kernel
theorem dX12_readCart_76 : decode cX12_readCart 76 = .ok (.istore 4, 2) := by decide +kernel
theorem dX12_readCart_78 : decode cX12_readCart 78 = .ok (.aload_n 0, 1) := by decide +kernel
theorem dX12_readCart_79 : decode cX12_readCart 79 = .ok (.ldc_w 412, 3) := by decide +kernel
theorem dX12_readCart_82 : decode cX12_readCart 82 = .ok (.invokevirtual 252, 3) := by decide +kernel
theorem dX12_readCart_85 : decode cX12_readCart 85 = .ok (.aload_n 0, 1) := by decide +kernel
theorem dX12_readCart_86 : decode cX12_readCart 86 = .ok (.iconst 0, 1) := by decide +kernel
theorem dX12_readCart_87 : decode cX12_readCart 87 = .ok (.invokevirtual 256, 3) := by decide +kernel
theorem dX12_readCart_90 : decode cX12_readCart 90 = .ok (.istore 5, 2) := by decide +kernel
theorem dX12_readCart_92 : decode cX12_readCart 92 = .ok (.aload_n 0, 1) := by decide +kernel
theorem dX12_readCart_93 : decode cX12_readCart 93 = .ok (.ldc 159, 2) := by decide +kernel
theorem dX12_readCart_95 : decode cX12_readCart 95 = .ok (.invokevirtual 252, 3) := by decide +kernel
theorem dX12_readCart_98 : decode cX12_readCart 98 = .ok (.aload_n 0, 1) := by decide +kernel
theorem dX12_readCart_99 : decode cX12_readCart 99 = .ok (.iload 5, 2) := by decide +kernel
theorem dX12_readCart_101 : decode cX12_readCart 101 = .ok (.invokevirtual 271, 3) := by decide +kernel
theorem dX12_readCart_104 : decode cX12_readCart 104 = .ok (.istore 6, 2) := by decide +kernel
theorem dX12_readCart_106 : decode cX12_readCart 106 = .ok (.aload_n 0, 1) := by decide +kernel
theorem dX12_readCart_107 : decode cX12_readCart 107 = .ok (.ldc_w 305, 3) := by decide +kernel
theorem dX12_readCart_110 : decode cX12_readCart 110 = .ok (.invokevirtual 252, 3) := by decide +kernel
theorem dX12_readCart_113 : decode cX12_readCart 113 = .ok (.aload_n 0, 1) := by decide +kernel
theorem dX12_readCart_114 : decode cX12_readCart 114 = .ok (.iconst 0, 1) := by decide +kernel
theorem dX12_readCart_115 : decode cX12_readCart 115 = .ok (.sipush 999, 3) := by decide +kernel
theorem dX12_readCart_118 : decode cX12_readCart 118 = .ok (.invokevirtual 261, 3) := by decide +kernel
theorem dX12_readCart_121 : decode cX12_readCart 121 = .ok (.istore 7, 2) := by decide +kernel
theorem dX12_readCart_123 : decode cX12_readCart 123 = .ok (.aload_n 0, 1) := by decide +kernel
theorem dX12_readCart_124 : decode cX12_readCart 124 = .ok (.getfield 83, 3) := by decide +kernel
theorem dX12_readCart_127 : decode cX12_readCart 127 = .ok (.iconst 5, 1) := by decide +kernel
theorem dX12_readCart_128 : decode cX12_readCart 128 = .ok (.if_icmp .ne 4, 3) := by decide +kernel
theorem dX12_readCart_131 : decode cX12_readCart 131 = .ok (.return_, 1) := by decide +kernel
theorem dX12_readCart_132 : decode cX12_readCart 132 = .ok (.aload_n 0, 1) := by decide +kernel
theorem dX12_readCart_133 : decode cX12_readCart 133 = .ok (.getfield 167, 3) := by decide +kernel
theorem dX12_readCart_136 : decode cX12_readCart 136 = .ok (.getfield 405, 3) := by decide +kernel
theorem dX12_readCart_139 : decode cX12_readCart 139 = .ok (.istore 8, 2) := by decide +kernel
theorem dX12_readCart_141 : decode cX12_readCart 141 = .ok (.aload_n 0, 1) := by decide +kernel
theorem dX12_readCart_142 : decode cX12_readCart 142 = .ok (.getfield 167, 3) := by decide +kernel
theorem dX12_readCart_145 : decode cX12_readCart 145 = .ok (.getfield 414, 3) := by decide +kernel
theorem dX12_readCart_148 : decode cX12_readCart 148 = .ok (.iload 8, 2) := by decide +kernel
theorem dX12_readCart_150 : decode cX12_readCart 150 = .ok (.iload_n 1, 1) := by decide +kernel
theorem dX12_readCart_151 : decode cX12_readCart 151 = .ok (.iastore, 1) := by decide +kernel
theorem dX12_readCart_152 : decode cX12_readCart 152 = .ok (.aload_n 0, 1) := by decide +kernel
theorem dX12_readCart_153 : decode cX12_readCart 153 = .ok (.getfield 167, 3) := by decide +kernel
theorem dX12_readCart_156 : decode cX12_readCart 156 = .ok (.getfield 417, 3) := by decide +kernel
theorem dX12_readCart_159 : decode cX12_readCart 159 = .ok (.iload 8, 2) := by decide +kernel
theorem dX12_readCart_161 : decode cX12_readCart 161 = .ok (.iload_n 2, 1) := by decide +kernel
theorem dX12_readCart_162 : decode cX12_readCart 162 = .ok (.iastore, 1) := by decide +kernel
theorem dX12_readCart_163 : decode cX12_readCart 163 = .ok (.aload_n 0, 1) := by decide +kernel
theorem dX12_readCart_164 : decode cX12_readCart 164 = .ok (.getfield 167, 3) := by decide +kernel
theorem dX12_readCart_167 : decode cX12_readCart 167 = .ok (.getfield 420, 3) := by decide +kernel
theorem dX12_readCart_170 : decode cX12_readCart 170 = .ok (.iload 8, 2) := by decide +kernel
theorem dX12_readCart_172 : decode cX12_readCart 172 = .ok (.iload_n 3, 1) := by decide +kernel
theorem dX12_readCart_173 : decode cX12_readCart 173 = .ok (.ifCond .eq 7, 3) := by decide +kernel
theorem dX12_readCart_176 : decode cX12_readCart 176 = .ok (.iconst 1, 1) := by decide +kernel
theorem dX12_readCart_177 : decode cX12_readCart 177 = .ok (.goto 4, 3) := by decide +kernel
theorem dX12_readCart_180 : decode cX12_readCart 180 = .ok (.iconst 0, 1) := by decide +kernel
theorem dX12_readCart_181 : decode cX12_readCart 181 = .ok (.iastore, 1) := by decide +kernel
theorem dX12_readCart_182 : decode cX12_readCart 182 = .ok (.aload_n 0, 1) := by decide +kernel
theorem dX12_readCart_183 : decode cX12_readCart 183 = .ok (.getfield 167, 3) := by decide +kernel
theorem dX12_readCart_186 : decode cX12_readCart 186 = .ok (.getfield 423, 3) := by decide +kernel
theorem dX12_readCart_189 : decode cX12_readCart 189 = .ok (.iload 8, 2) := by decide +kernel
theorem dX12_readCart_191 : decode cX12_readCart 191 = .ok (.iload 4, 2) := by decide +kernel
theorem dX12_readCart_193 : decode cX12_readCart 193 = .ok (.iastore, 1) := by decide +kernel
theorem dX12_readCart_194 : decode cX12_readCart 194 = .ok (.aload_n 0, 1) := by decide +kernel
theorem dX12_readCart_195 : decode cX12_readCart 195 = .ok (.getfield 167, 3) := by decide +kernel
theorem dX12_readCart_198 : decode cX12_readCart 198 = .ok (.getfield 426, 3) := by decide +kernel
theorem dX12_readCart_201 : decode cX12_readCart 201 = .ok (.iload 8, 2) := by decide +kernel
theorem dX12_readCart_203 : decode cX12_readCart 203 = .ok (.iload 5, 2) := by decide +kernel
theorem dX12_readCart_205 : decode cX12_readCart 205 = .ok (.iastore, 1) := by decide +kernel
theorem dX12_readCart_206 : decode cX12_readCart 206 = .ok (.aload_n 0, 1) := by decide +kernel
theorem dX12_readCart_207 : decode cX12_readCart 207 = .ok (.getfield 167, 3) := by decide +kernel
theorem dX12_readCart_210 : decode cX12_readCart 210 = .ok (.getfield 429, 3) := by decide +kernel
theorem dX12_readCart_213 : decode cX12_readCart 213 = .ok (.iload 8, 2) := by decide +kernel
theorem dX12_readCart_215 : decode cX12_readCart 215 = .ok (.iload 6, 2) := by decide +kernel
theorem dX12_readCart_217 : decode cX12_readCart 217 = .ok (.iastore, 1) := by decide +kernel
theorem dX12_readCart_218 : decode cX12_readCart 218 = .ok (.aload_n 0, 1) := by decide +kernel
theorem dX12_readCart_219 : decode cX12_readCart 219 = .ok (.getfield 167, 3) := by decide +kernel
theorem dX12_readCart_222 : decode cX12_readCart 222 = .ok (.getfield 432, 3) := by decide +kernel
theorem dX12_readCart_225 : decode cX12_readCart 225 = .ok (.iload 8, 2) := by decide +kernel
theorem dX12_readCart_227 : decode cX12_readCart 227 = .ok (.iload 7, 2) := by decide +kernel
theorem dX12_readCart_229 : decode cX12_readCart 229 = .ok (.iastore, 1) := by decide +kernel
theorem dX12_readCart_230 : decode cX12_readCart 230 = .ok (.aload_n 0, 1) := by decide +kernel
theorem dX12_readCart_231 : decode cX12_readCart 231 = .ok (.getfield 167, 3) := by decide +kernel
theorem dX12_readCart_234 : decode cX12_readCart 234 = .ok (.dup, 1) := by decide +kernel
theorem dX12_readCart_235 : decode cX12_readCart 235 = .ok (.getfield 405, 3) := by decide +kernel
theorem dX12_readCart_238 : decode cX12_readCart 238 = .ok (.iconst 1, 1) := by decide +kernel
theorem dX12_readCart_239 : decode cX12_readCart 239 = .ok (.iadd, 1) := by decide +kernel
theorem dX12_readCart_240 : decode cX12_readCart 240 = .ok (.putfield 405, 3) := by decide +kernel
theorem dX12_readCart_243 : decode cX12_readCart 243 = .ok (.return_, 1) := by decide +kernel
theorem dX12_feed_0 : decode cX12_feed 0 = .ok (.aload_n 0, 1) := by decide +kernel
theorem dX12_feed_1 : decode cX12_feed 1 = .ok (.iconst 0, 1) := by decide +kernel
theorem dX12_feed_2 : decode cX12_feed 2 = .ok (.putfield 54, 3) := by decide +kernel
theorem dX12_feed_5 : decode cX12_feed 5 = .ok (.aload_n 0, 1) := by decide +kernel
theorem dX12_feed_6 : decode cX12_feed 6 = .ok (.getfield 435, 3) := by decide +kernel
theorem dX12_feed_9 : decode cX12_feed 9 = .ok (.bipush 20, 2) := by decide +kernel
theorem dX12_feed_11 : decode cX12_feed 11 = .ok (.iadd, 1) := by decide +kernel
theorem dX12_feed_12 : decode cX12_feed 12 = .ok (.sipush 900, 3) := by decide +kernel
theorem dX12_feed_15 : decode cX12_feed 15 = .ok (.if_icmp .le 5, 3) := by decide +kernel
theorem dX12_feed_18 : decode cX12_feed 18 = .ok (.iconst (-1), 1) := by decide +kernel
theorem dX12_feed_19 : decode cX12_feed 19 = .ok (.ireturn, 1) := by decide +kernel
theorem dX12_feed_20 : decode cX12_feed 20 = .ok (.iconst 0, 1) := by decide +kernel
theorem dX12_feed_21 : decode cX12_feed 21 = .ok (.istore 6, 2) := by decide +kernel
theorem dX12_feed_23 : decode cX12_feed 23 = .ok (.iload 6, 2) := by decide +kernel
theorem dX12_feed_25 : decode cX12_feed 25 = .ok (.bipush 20, 2) := by decide +kernel
theorem dX12_feed_27 : decode cX12_feed 27 = .ok (.if_icmp .ge 90, 3) := by decide +kernel
theorem dX12_feed_30 : decode cX12_feed 30 = .ok (.iload 6, 2) := by decide +kernel
theorem dX12_feed_32 : decode cX12_feed 32 = .ok (.iconst 4, 1) := by decide +kernel
theorem dX12_feed_33 : decode cX12_feed 33 = .ok (.if_icmp .ge 7, 3) := by decide +kernel
theorem dX12_feed_36 : decode cX12_feed 36 = .ok (.iload_n 1, 1) := by decide +kernel
theorem dX12_feed_37 : decode cX12_feed 37 = .ok (.goto 39, 3) := by decide +kernel
theorem dX12_feed_40 : decode cX12_feed 40 = .ok (.iload 6, 2) := by decide +kernel
theorem dX12_feed_42 : decode cX12_feed 42 = .ok (.bipush 8, 2) := by decide +kernel
theorem dX12_feed_44 : decode cX12_feed 44 = .ok (.if_icmp .ge 7, 3) := by decide +kernel
theorem dX12_feed_47 : decode cX12_feed 47 = .ok (.iload_n 2, 1) := by decide +kernel
theorem dX12_feed_48 : decode cX12_feed 48 = .ok (.goto 28, 3) := by decide +kernel
theorem dX12_feed_51 : decode cX12_feed 51 = .ok (.iload 6, 2) := by decide +kernel
theorem dX12_feed_53 : decode cX12_feed 53 = .ok (.bipush 12, 2) := by decide +kernel
theorem dX12_feed_55 : decode cX12_feed 55 = .ok (.if_icmp .ge 7, 3) := by decide +kernel
theorem dX12_feed_58 : decode cX12_feed 58 = .ok (.iload_n 3, 1) := by decide +kernel
theorem dX12_feed_59 : decode cX12_feed 59 = .ok (.goto 17, 3) := by decide +kernel
theorem dX12_feed_62 : decode cX12_feed 62 = .ok (.iload 6, 2) := by decide +kernel
theorem dX12_feed_64 : decode cX12_feed 64 = .ok (.bipush 16, 2) := by decide +kernel
theorem dX12_feed_66 : decode cX12_feed 66 = .ok (.if_icmp .ge 8, 3) := by decide +kernel
theorem dX12_feed_69 : decode cX12_feed 69 = .ok (.iload 4, 2) := by decide +kernel
theorem dX12_feed_71 : decode cX12_feed 71 = .ok (.goto 5, 3) := by decide +kernel
theorem dX12_feed_74 : decode cX12_feed 74 = .ok (.iload 5, 2) := by decide +kernel
theorem dX12_feed_76 : decode cX12_feed 76 = .ok (.istore 7, 2) := by decide +kernel
theorem dX12_feed_78 : decode cX12_feed 78 = .ok (.aload_n 0, 1) := by decide +kernel
theorem dX12_feed_79 : decode cX12_feed 79 = .ok (.getfield 13, 3) := by decide +kernel
theorem dX12_feed_82 : decode cX12_feed 82 = .ok (.aload_n 0, 1) := by decide +kernel
theorem dX12_feed_83 : decode cX12_feed 83 = .ok (.getfield 435, 3) := by decide +kernel
theorem dX12_feed_86 : decode cX12_feed 86 = .ok (.iload 7, 2) := by decide +kernel
theorem dX12_feed_88 : decode cX12_feed 88 = .ok (.bipush 24, 2) := by decide +kernel
theorem dX12_feed_90 : decode cX12_feed 90 = .ok (.bipush 8, 2) := by decide +kernel
theorem dX12_feed_92 : decode cX12_feed 92 = .ok (.iload 6, 2) := by decide +kernel
theorem dX12_feed_94 : decode cX12_feed 94 = .ok (.iconst 4, 1) := by decide +kernel
theorem dX12_feed_95 : decode cX12_feed 95 = .ok (.irem, 1) := by decide +kernel
theorem dX12_feed_96 : decode cX12_feed 96 = .ok (.imul, 1) := by decide +kernel
theorem dX12_feed_97 : decode cX12_feed 97 = .ok (.isub, 1) := by decide +kernel
theorem dX12_feed_98 : decode cX12_feed 98 = .ok (.ishr, 1) := by decide +kernel
theorem dX12_feed_99 : decode cX12_feed 99 = .ok (.i2b, 1) := by decide +kernel
theorem dX12_feed_100 : decode cX12_feed 100 = .ok (.bastore, 1) := by decide +kernel
theorem dX12_feed_101 : decode cX12_feed 101 = .ok (.aload_n 0, 1) := by decide +kernel
theorem dX12_feed_102 : decode cX12_feed 102 = .ok (.dup, 1) := by decide +kernel
theorem dX12_feed_103 : decode cX12_feed 103 = .ok (.getfield 435, 3) := by decide +kernel
theorem dX12_feed_106 : decode cX12_feed 106 = .ok (.iconst 1, 1) := by decide +kernel
theorem dX12_feed_107 : decode cX12_feed 107 = .ok (.iadd, 1) := by decide +kernel
theorem dX12_feed_108 : decode cX12_feed 108 = .ok (.putfield 435, 3) := by decide +kernel
theorem dX12_feed_111 : decode cX12_feed 111 = .ok (.iinc 6 1, 3) := by decide +kernel
theorem dX12_feed_114 : decode cX12_feed 114 = .ok (.goto (-91), 3) := by decide +kernel
theorem dX12_feed_117 : decode cX12_feed 117 = .ok (.aload_n 0, 1) := by decide +kernel
theorem dX12_feed_118 : decode cX12_feed 118 = .ok (.getfield 435, 3) := by decide +kernel
theorem dX12_feed_121 : decode cX12_feed 121 = .ok (.ireturn, 1) := by decide +kernel
theorem dX12_realm_0 : decode cX12_realm 0 = .ok (.aload_n 0, 1) := by decide +kernel
theorem dX12_realm_1 : decode cX12_realm 1 = .ok (.iconst 0, 1) := by decide +kernel
theorem dX12_realm_2 : decode cX12_realm 2 = .ok (.putfield 54, 3) := by decide +kernel
theorem dX12_realm_5 : decode cX12_realm 5 = .ok (.iload_n 1, 1) := by decide +kernel
theorem dX12_realm_6 : decode cX12_realm 6 = .ok (.ifCond .lt 11, 3) := by decide +kernel
theorem dX12_realm_9 : decode cX12_realm 9 = .ok (.iload_n 1, 1) := by decide +kernel
theorem dX12_realm_10 : decode cX12_realm 10 = .ok (.aload_n 0, 1) := by decide +kernel
theorem dX12_realm_11 : decode cX12_realm 11 = .ok (.getfield 435, 3) := by decide +kernel
theorem dX12_realm_14 : decode cX12_realm 14 = .ok (.if_icmp .le 9, 3) := by decide +kernel
theorem dX12_realm_17 : decode cX12_realm 17 = .ok (.aload_n 0, 1) := by decide +kernel
theorem dX12_realm_18 : decode cX12_realm 18 = .ok (.iconst 2, 1) := by decide +kernel
theorem dX12_realm_19 : decode cX12_realm 19 = .ok (.invokevirtual 60, 3) := by decide +kernel
theorem dX12_realm_22 : decode cX12_realm 22 = .ok (.ireturn, 1) := by decide +kernel
theorem dX12_realm_23 : decode cX12_realm 23 = .ok (.aload_n 0, 1) := by decide +kernel
theorem dX12_realm_24 : decode cX12_realm 24 = .ok (.iload_n 1, 1) := by decide +kernel
theorem dX12_realm_25 : decode cX12_realm 25 = .ok (.putfield 68, 3) := by decide +kernel
theorem dX12_realm_28 : decode cX12_realm 28 = .ok (.aload_n 0, 1) := by decide +kernel
theorem dX12_realm_29 : decode cX12_realm 29 = .ok (.iconst 0, 1) := by decide +kernel
theorem dX12_realm_30 : decode cX12_realm 30 = .ok (.putfield 435, 3) := by decide +kernel
theorem dX12_realm_33 : decode cX12_realm 33 = .ok (.aload_n 0, 1) := by decide +kernel
theorem dX12_realm_34 : decode cX12_realm 34 = .ok (.iconst 0, 1) := by decide +kernel
theorem dX12_realm_35 : decode cX12_realm 35 = .ok (.putfield 86, 3) := by decide +kernel
theorem dX12_realm_38 : decode cX12_realm 38 = .ok (.aload_n 0, 1) := by decide +kernel
theorem dX12_realm_39 : decode cX12_realm 39 = .ok (.iconst 0, 1) := by decide +kernel
theorem dX12_realm_40 : decode cX12_realm 40 = .ok (.putfield 109, 3) := by decide +kernel
theorem dX12_realm_43 : decode cX12_realm 43 = .ok (.aload_n 0, 1) := by decide +kernel
theorem dX12_realm_44 : decode cX12_realm 44 = .ok (.new 172, 3) := by decide +kernel
theorem dX12_realm_47 : decode cX12_realm 47 = .ok (.dup, 1) := by decide +kernel
theorem dX12_realm_48 : decode cX12_realm 48 = .ok (.invokespecial 438, 3) := by decide +kernel
theorem dX12_realm_51 : decode cX12_realm 51 = .ok (.putfield 167, 3) := by decide +kernel
theorem dX12_realm_54 : decode cX12_realm 54 = .ok (.aload_n 0, 1) := by decide +kernel
theorem dX12_realm_55 : decode cX12_realm 55 = .ok (.iconst 0, 1) := by decide +kernel
theorem dX12_realm_56 : decode cX12_realm 56 = .ok (.putfield 83, 3) := by decide +kernel
theorem dX12_realm_59 : decode cX12_realm 59 = .ok (.aload_n 0, 1) := by decide +kernel
theorem dX12_realm_60 : decode cX12_realm 60 = .ok (.invokevirtual 123, 3) := by decide +kernel
theorem dX12_realm_63 : decode cX12_realm 63 = .ok (.aload_n 0, 1) := by decide +kernel
theorem dX12_realm_64 : decode cX12_realm 64 = .ok (.invokevirtual 439, 3) := by decide +kernel
theorem dX12_realm_67 : decode cX12_realm 67 = .ok (.aload_n 0, 1) := by decide +kernel
theorem dX12_realm_68 : decode cX12_realm 68 = .ok (.getfield 109, 3) := by decide +kernel
theorem dX12_realm_71 : decode cX12_realm 71 = .ok (.ifCond .le 18, 3) := by decide +kernel
theorem dX12_realm_74 : decode cX12_realm 74 = .ok (.aload_n 0, 1) := by decide +kernel
theorem dX12_realm_75 : decode cX12_realm 75 = .ok (.iconst 4, 1) := by decide +kernel
theorem dX12_realm_76 : decode cX12_realm 76 = .ok (.putfield 57, 3) := by decide +kernel
theorem dX12_realm_79 : decode cX12_realm 79 = .ok (.aload_n 0, 1) := by decide +kernel
theorem dX12_realm_80 : decode cX12_realm 80 = .ok (.aload_n 0, 1) := by decide +kernel
theorem dX12_realm_81 : decode cX12_realm 81 = .ok (.getfield 112, 3) := by decide +kernel
theorem dX12_realm_84 : decode cX12_realm 84 = .ok (.putfield 9, 3) := by decide +kernel
theorem dX12_realm_87 : decode cX12_realm 87 = .ok (.iconst (-1), 1) := by decide +kernel
theorem dX12_realm_88 : decode cX12_realm 88 = .ok (.ireturn, 1) := by decide +kernel
theorem dX12_realm_89 : decode cX12_realm 89 = .ok (.aload_n 0, 1) := by decide +kernel
theorem dX12_realm_90 : decode cX12_realm 90 = .ok (.aload_n 0, 1) := by decide +kernel
theorem dX12_realm_91 : decode cX12_realm 91 = .ok (.getfield 167, 3) := by decide +kernel
theorem dX12_realm_94 : decode cX12_realm 94 = .ok (.putfield 442, 3) := by decide +kernel
theorem dX12_realm_97 : decode cX12_realm 97 = .ok (.aload_n 0, 1) := by decide +kernel
theorem dX12_realm_98 : decode cX12_realm 98 = .ok (.iconst 0, 1) := by decide +kernel
theorem dX12_realm_99 : decode cX12_realm 99 = .ok (.putfield 445, 3) := by decide +kernel
theorem dX12_realm_102 : decode cX12_realm 102 = .ok (.aload_n 0, 1) := by decide +kernel
theorem dX12_realm_103 : decode cX12_realm 103 = .ok (.iconst (-1), 1) := by decide +kernel
theorem dX12_realm_104 : decode cX12_realm 104 = .ok (.putfield 33, 3) := by decide +kernel
theorem dX12_realm_107 : decode cX12_realm 107 = .ok (.aload_n 0, 1) := by decide +kernel
theorem dX12_realm_108 : decode cX12_realm 108 = .ok (.iconst 0, 1) := by decide +kernel
theorem dX12_realm_109 : decode cX12_realm 109 = .ok (.putfield 448, 3) := by decide +kernel
theorem dX12_realm_112 : decode cX12_realm 112 = .ok (.aload_n 0, 1) := by decide +kernel
theorem dX12_realm_113 : decode cX12_realm 113 = .ok (.aload_n 0, 1) := by decide +kernel
theorem dX12_realm_114 : decode cX12_realm 114 = .ok (.getfield 442, 3) := by decide +kernel
theorem dX12_realm_117 : decode cX12_realm 117 = .ok (.getfield 196, 3) := by decide +kernel
theorem dX12_realm_120 : decode cX12_realm 120 = .ok (.invokevirtual 65, 3) := by decide +kernel
theorem dX12_realm_123 : decode cX12_realm 123 = .ok (.ireturn, 1) := by decide +kernel
theorem dX12_fault_0 : decode cX12_fault 0 = .ok (.aload_n 0, 1) := by decide +kernel
theorem dX12_fault_1 : decode cX12_fault 1 = .ok (.iconst 0, 1) := by decide +kernel
theorem dX12_fault_2 : decode cX12_fault 2 = .ok (.putfield 54, 3) := by decide +kernel
theorem dX12_fault_5 : decode cX12_fault 5 = .ok (.aload_n 0, 1) := by decide +kernel
theorem dX12_fault_6 : decode cX12_fault 6 = .ok (.getfield 109, 3) := by decide +kernel
theorem dX12_fault_9 : decode cX12_fault 9 = .ok (.ireturn, 1) := by decide +kernel
theorem dX12_where_0 : decode cX12_where 0 = .ok (.aload_n 0, 1) := by decide +kernel
theorem dX12_where_1 : decode cX12_where 1 = .ok (.iconst 0, 1) := by decide +kernel
theorem dX12_where_2 : decode cX12_where 2 = .ok (.putfield 54, 3) := by decide +kernel
theorem dX12_where_5 : decode cX12_where 5 = .ok (.aload_n 0, 1) := by decide +kernel
theorem dX12_where_6 : decode cX12_where 6 = .ok (.getfield 9, 3) := by decide +kernel
theorem dX12_where_9 : decode cX12_where 9 = .ok (.ireturn, 1) := by decide +kernel
theorem dX12_lays_0 : decode cX12_lays 0 = .ok (.aload_n 0, 1) := by decide +kernel
theorem dX12_lays_1 : decode cX12_lays 1 = .ok (.iload_n 1, 1) := by decide +kernel
theorem dX12_lays_2 : decode cX12_lays 2 = .ok (.putfield 451, 3) := by decide +kernel
theorem dX12_lays_5 : decode cX12_lays 5 = .ok (.aload_n 0, 1) := by decide +kernel
theorem dX12_lays_6 : decode cX12_lays 6 = .ok (.iconst (-1), 1) := by decide +kernel
theorem dX12_lays_7 : decode cX12_lays 7 = .ok (.putfield 454, 3) := by decide +kernel
theorem dX12_lays_10 : decode cX12_lays 10 = .ok (.iconst 0, 1) := by decide +kernel
theorem dX12_lays_11 : decode cX12_lays 11 = .ok (.istore_n 2, 1) := by decide +kernel
theorem dX12_lays_12 : decode cX12_lays 12 = .ok (.iload_n 2, 1) := by decide +kernel
theorem dX12_lays_13 : decode cX12_lays 13 = .ok (.bipush 16, 2) := by decide +kernel
theorem dX12_lays_15 : decode cX12_lays 15 = .ok (.if_icmp .ge 39, 3) := by decide +kernel
theorem dX12_lays_18 : decode cX12_lays 18 = .ok (.aload_n 0, 1) := by decide +kernel
theorem dX12_lays_19 : decode cX12_lays 19 = .ok (.getfield 17, 3) := by decide +kernel
theorem dX12_lays_22 : decode cX12_lays 22 = .ok (.iload_n 2, 1) := by decide +kernel
theorem dX12_lays_23 : decode cX12_lays 23 = .ok (.aload_n 0, 1) := by decide +kernel
theorem dX12_lays_24 : decode cX12_lays 24 = .ok (.getfield 442, 3) := by decide +kernel
theorem dX12_lays_27 : decode cX12_lays 27 = .ok (.getfield 307, 3) := by decide +kernel
theorem dX12_lays_30 : decode cX12_lays 30 = .ok (.iload_n 2, 1) := by decide +kernel
theorem dX12_lays_31 : decode cX12_lays 31 = .ok (.iaload, 1) := by decide +kernel
theorem dX12_lays_32 : decode cX12_lays 32 = .ok (.iastore, 1) := by decide +kernel
theorem dX12_lays_33 : decode cX12_lays 33 = .ok (.aload_n 0, 1) := by decide +kernel
theorem dX12_lays_34 : decode cX12_lays 34 = .ok (.getfield 21, 3) := by decide +kernel
theorem dX12_lays_37 : decode cX12_lays 37 = .ok (.iload_n 2, 1) := by decide +kernel
theorem dX12_lays_38 : decode cX12_lays 38 = .ok (.aload_n 0, 1) := by decide +kernel
theorem dX12_lays_39 : decode cX12_lays 39 = .ok (.getfield 442, 3) := by decide +kernel
theorem dX12_lays_42 : decode cX12_lays 42 = .ok (.getfield 371, 3) := by decide +kernel
theorem dX12_lays_45 : decode cX12_lays 45 = .ok (.iload_n 2, 1) := by decide +kernel
theorem dX12_lays_46 : decode cX12_lays 46 = .ok (.iaload, 1) := by decide +kernel
theorem dX12_lays_47 : decode cX12_lays 47 = .ok (.iastore, 1) := by decide +kernel
theorem dX12_lays_48 : decode cX12_lays 48 = .ok (.iinc 2 1, 3) := by decide +kernel
theorem dX12_lays_51 : decode cX12_lays 51 = .ok (.goto (-39), 3) := by decide +kernel
theorem dX12_lays_54 : decode cX12_lays 54 = .ok (.return_, 1) := by decide +kernel
theorem dX12_names_0 : decode cX12_names 0 = .ok (.aload_n 0, 1) := by decide +kernel
theorem dX12_names_1 : decode cX12_names 1 = .ok (.aload_n 0, 1) := by decide +kernel
theorem dX12_names_2 : decode cX12_names 2 = .ok (.getfield 442, 3) := by decide +kernel
theorem dX12_names_5 : decode cX12_names 5 = .ok (.getfield 265, 3) := by decide +kernel
theorem dX12_names_8 : decode cX12_names 8 = .ok (.iload_n 1, 1) := by decide +kernel
theorem dX12_names_9 : decode cX12_names 9 = .ok (.iaload, 1) := by decide +kernel
theorem dX12_names_10 : decode cX12_names 10 = .ok (.putfield 457, 3) := by decide +kernel
theorem dX12_names_13 : decode cX12_names 13 = .ok (.aload_n 0, 1) := by decide +kernel
theorem dX12_names_14 : decode cX12_names 14 = .ok (.aload_n 0, 1) := by decide +kernel
theorem dX12_names_15 : decode cX12_names 15 = .ok (.getfield 442, 3) := by decide +kernel
theorem dX12_names_18 : decode cX12_names 18 = .ok (.getfield 268, 3) := by decide +kernel
theorem dX12_names_21 : decode cX12_names 21 = .ok (.iload_n 1, 1) := by decide +kernel
theorem dX12_names_22 : decode cX12_names 22 = .ok (.iaload, 1) := by decide +kernel
theorem dX12_names_23 : decode cX12_names 23 = .ok (.putfield 460, 3) := by decide +kernel
theorem dX12_names_26 : decode cX12_names 26 = .ok (.return_, 1) := by decide +kernel
theorem dX12_inForce_0 : decode cX12_inForce 0 = .ok (.aload_n 0, 1) := by decide +kernel
theorem dX12_inForce_1 : decode cX12_inForce 1 = .ok (.getfield 17, 3) := by decide +kernel
theorem dX12_inForce_4 : decode cX12_inForce 4 = .ok (.iload_n 1, 1) := by decide +kernel
theorem dX12_inForce_5 : decode cX12_inForce 5 = .ok (.iaload, 1) := by decide +kernel
theorem dX12_inForce_6 : decode cX12_inForce 6 = .ok (.iload_n 2, 1) := by decide +kernel
theorem dX12_inForce_7 : decode cX12_inForce 7 = .ok (.if_icmp .gt 41, 3) := by decide +kernel
theorem dX12_inForce_10 : decode cX12_inForce 10 = .ok (.aload_n 0, 1) := by decide +kernel
theorem dX12_inForce_11 : decode cX12_inForce 11 = .ok (.getfield 21, 3) := by decide +kernel
theorem dX12_inForce_14 : decode cX12_inForce 14 = .ok (.iload_n 1, 1) := by decide +kernel
theorem dX12_inForce_15 : decode cX12_inForce 15 = .ok (.iaload, 1) := by decide +kernel
theorem dX12_inForce_16 : decode cX12_inForce 16 = .ok (.ifCond .eq 28, 3) := by decide +kernel
theorem dX12_inForce_19 : decode cX12_inForce 19 = .ok (.aload_n 0, 1) := by decide +kernel
theorem dX12_inForce_20 : decode cX12_inForce 20 = .ok (.getfield 21, 3) := by decide +kernel
theorem dX12_inForce_23 : decode cX12_inForce 23 = .ok (.iload_n 1, 1) := by decide +kernel
theorem dX12_inForce_24 : decode cX12_inForce 24 = .ok (.iaload, 1) := by decide +kernel
theorem dX12_inForce_25 : decode cX12_inForce 25 = .ok (.iconst 2, 1) := by decide +kernel
theorem dX12_inForce_26 : decode cX12_inForce 26 = .ok (.if_icmp .ne 22, 3) := by decide +kernel
theorem dX12_inForce_29 : decode cX12_inForce 29 = .ok (.aload_n 0, 1) := by decide +kernel
theorem dX12_inForce_30 : decode cX12_inForce 30 = .ok (.getfield 442, 3) := by decide +kernel
theorem dX12_inForce_33 : decode cX12_inForce 33 = .ok (.getfield 402, 3) := by decide +kernel
theorem dX12_inForce_36 : decode cX12_inForce 36 = .ok (.aload_n 0, 1) := by decide +kernel
theorem dX12_inForce_37 : decode cX12_inForce 37 = .ok (.getfield 451, 3) := by decide +kernel
theorem dX12_inForce_40 : decode cX12_inForce 40 = .ok (.baload, 1) := by decide +kernel
theorem dX12_inForce_41 : decode cX12_inForce 41 = .ok (.ifCond .eq 7, 3) := by decide +kernel
theorem dX12_inForce_44 : decode cX12_inForce 44 = .ok (.iconst 1, 1) := by decide +kernel
theorem dX12_inForce_45 : decode cX12_inForce 45 = .ok (.goto 4, 3) := by decide +kernel
theorem dX12_inForce_48 : decode cX12_inForce 48 = .ok (.iconst 0, 1) := by decide +kernel
theorem dX12_inForce_49 : decode cX12_inForce 49 = .ok (.ireturn, 1) := by decide +kernel
theorem dX12_renewalOf_0 : decode cX12_renewalOf 0 = .ok (.iconst (-1), 1) := by decide +kernel
theorem dX12_renewalOf_1 : decode cX12_renewalOf 1 = .ok (.istore_n 3, 1) := by decide +kernel
theorem dX12_renewalOf_2 : decode cX12_renewalOf 2 = .ok (.iconst 0, 1) := by decide +kernel
theorem dX12_renewalOf_3 : decode cX12_renewalOf 3 = .ok (.istore 4, 2) := by decide +kernel
theorem dX12_renewalOf_5 : decode cX12_renewalOf 5 = .ok (.iload 4, 2) := by decide +kernel
theorem dX12_renewalOf_7 : decode cX12_renewalOf 7 = .ok (.aload_n 0, 1) := by decide +kernel
theorem dX12_renewalOf_8 : decode cX12_renewalOf 8 = .ok (.getfield 442, 3) := by decide +kernel
theorem dX12_renewalOf_11 : decode cX12_renewalOf 11 = .ok (.getfield 350, 3) := by decide +kernel
theorem dX12_renewalOf_14 : decode cX12_renewalOf 14 = .ok (.if_icmp .ge 70, 3) := by decide +kernel
theorem dX12_renewalOf_17 : decode cX12_renewalOf 17 = .ok (.aload_n 0, 1) := by decide +kernel
theorem dX12_renewalOf_18 : decode cX12_renewalOf 18 = .ok (.getfield 442, 3) := by decide +kernel
theorem dX12_renewalOf_21 : decode cX12_renewalOf 21 = .ok (.getfield 359, 3) := by decide +kernel
theorem dX12_renewalOf_24 : decode cX12_renewalOf 24 = .ok (.iload 4, 2) := by decide +kernel
theorem dX12_renewalOf_26 : decode cX12_renewalOf 26 = .ok (.iaload, 1) := by decide +kernel
theorem dX12_renewalOf_27 : decode cX12_renewalOf 27 = .ok (.iload_n 1, 1) := by decide +kernel
theorem dX12_renewalOf_28 : decode cX12_renewalOf 28 = .ok (.if_icmp .ne 50, 3) := by decide +kernel
theorem dX12_renewalOf_31 : decode cX12_renewalOf 31 = .ok (.aload_n 0, 1) := by decide +kernel
theorem dX12_renewalOf_32 : decode cX12_renewalOf 32 = .ok (.getfield 442, 3) := by decide +kernel
theorem dX12_renewalOf_35 : decode cX12_renewalOf 35 = .ok (.getfield 365, 3) := by decide +kernel
theorem dX12_renewalOf_38 : decode cX12_renewalOf 38 = .ok (.iload 4, 2) := by decide +kernel
theorem dX12_renewalOf_40 : decode cX12_renewalOf 40 = .ok (.iaload, 1) := by decide +kernel
theorem dX12_renewalOf_41 : decode cX12_renewalOf 41 = .ok (.iload_n 2, 1) := by decide +kernel
theorem dX12_renewalOf_42 : decode cX12_renewalOf 42 = .ok (.if_icmp .le 6, 3) := by decide +kernel
theorem dX12_renewalOf_45 : decode cX12_renewalOf 45 = .ok (.goto 33, 3) := by decide +kernel
theorem dX12_renewalOf_48 : decode cX12_renewalOf 48 = .ok (.iload_n 3, 1) := by decide +kernel
theorem dX12_renewalOf_49 : decode cX12_renewalOf 49 = .ok (.iconst (-1), 1) := by decide +kernel
theorem dX12_renewalOf_50 : decode cX12_renewalOf 50 = .ok (.if_icmp .eq 25, 3) := by decide +kernel
theorem dX12_renewalOf_53 : decode cX12_renewalOf 53 = .ok (.aload_n 0, 1) := by decide +kernel
theorem dX12_renewalOf_54 : decode cX12_renewalOf 54 = .ok (.getfield 442, 3) := by decide +kernel
theorem dX12_renewalOf_57 : decode cX12_renewalOf 57 = .ok (.getfield 365, 3) := by decide +kernel
theorem dX12_renewalOf_60 : decode cX12_renewalOf 60 = .ok (.iload 4, 2) := by decide +kernel
theorem dX12_renewalOf_62 : decode cX12_renewalOf 62 = .ok (.iaload, 1) := by decide +kernel
theorem dX12_renewalOf_63 : decode cX12_renewalOf 63 = .ok (.aload_n 0, 1) := by decide +kernel
theorem dX12_renewalOf_64 : decode cX12_renewalOf 64 = .ok (.getfield 442, 3) := by decide +kernel
theorem dX12_renewalOf_67 : decode cX12_renewalOf 67 = .ok (.getfield 365, 3) := by decide +kernel
theorem dX12_renewalOf_70 : decode cX12_renewalOf 70 = .ok (.iload_n 3, 1) := by decide +kernel
theorem dX12_renewalOf_71 : decode cX12_renewalOf 71 = .ok (.iaload, 1) := by decide +kernel
theorem dX12_renewalOf_72 : decode cX12_renewalOf 72 = .ok (.if_icmp .lt 6, 3) := by decide +kernel
theorem dX12_renewalOf_75 : decode cX12_renewalOf 75 = .ok (.iload 4, 2) := by decide +kernel
theorem dX12_renewalOf_77 : decode cX12_renewalOf 77 = .ok (.istore_n 3, 1) := by decide +kernel
theorem dX12_renewalOf_78 : decode cX12_renewalOf 78 = .ok (.iinc 4 1, 3) := by decide +kernel
theorem dX12_renewalOf_81 : decode cX12_renewalOf 81 = .ok (.goto (-76), 3) := by decide +kernel
theorem dX12_renewalOf_84 : decode cX12_renewalOf 84 = .ok (.aload_n 0, 1) := by decide +kernel
theorem dX12_renewalOf_85 : decode cX12_renewalOf 85 = .ok (.getfield 454, 3) := by decide +kernel
theorem dX12_renewalOf_88 : decode cX12_renewalOf 88 = .ok (.iload_n 1, 1) := by decide +kernel
theorem dX12_renewalOf_89 : decode cX12_renewalOf 89 = .ok (.if_icmp .ne 34, 3) := by decide +kernel
theorem dX12_renewalOf_92 : decode cX12_renewalOf 92 = .ok (.aload_n 0, 1) := by decide +kernel
theorem dX12_renewalOf_93 : decode cX12_renewalOf 93 = .ok (.getfield 463, 3) := by decide +kernel
theorem dX12_renewalOf_96 : decode cX12_renewalOf 96 = .ok (.iload_n 2, 1) := by decide +kernel
theorem dX12_renewalOf_97 : decode cX12_renewalOf 97 = .ok (.if_icmp .gt 26, 3) := by decide +kernel
theorem dX12_renewalOf_100 : decode cX12_renewalOf 100 = .ok (.iload_n 3, 1) := by decide +kernel
theorem dX12_renewalOf_101 : decode cX12_renewalOf 101 = .ok (.iconst (-1), 1) := by decide +kernel
theorem dX12_renewalOf_102 : decode cX12_renewalOf 102 = .ok (.if_icmp .eq 19, 3) := by decide +kernel
theorem dX12_renewalOf_105 : decode cX12_renewalOf 105 = .ok (.aload_n 0, 1) := by decide +kernel
theorem dX12_renewalOf_106 : decode cX12_renewalOf 106 = .ok (.getfield 463, 3) := by decide +kernel
theorem dX12_renewalOf_109 : decode cX12_renewalOf 109 = .ok (.aload_n 0, 1) := by decide +kernel
theorem dX12_renewalOf_110 : decode cX12_renewalOf 110 = .ok (.getfield 442, 3) := by decide +kernel
theorem dX12_renewalOf_113 : decode cX12_renewalOf 113 = .ok (.getfield 365, 3) := by decide +kernel
theorem dX12_renewalOf_116 : decode cX12_renewalOf 116 = .ok (.iload_n 3, 1) := by decide +kernel
theorem dX12_renewalOf_117 : decode cX12_renewalOf 117 = .ok (.iaload, 1) := by decide +kernel
theorem dX12_renewalOf_118 : decode cX12_renewalOf 118 = .ok (.if_icmp .lt 5, 3) := by decide +kernel
theorem dX12_renewalOf_121 : decode cX12_renewalOf 121 = .ok (.iconst 4, 1) := by decide +kernel
theorem dX12_renewalOf_122 : decode cX12_renewalOf 122 = .ok (.istore_n 3, 1) := by decide +kernel
theorem dX12_renewalOf_123 : decode cX12_renewalOf 123 = .ok (.iload_n 3, 1) := by decide +kernel
theorem dX12_renewalOf_124 : decode cX12_renewalOf 124 = .ok (.ireturn, 1) := by decide +kernel
theorem dX12_howOf_0 : decode cX12_howOf 0 = .ok (.iload_n 1, 1) := by decide +kernel
theorem dX12_howOf_1 : decode cX12_howOf 1 = .ok (.iconst (-1), 1) := by decide +kernel
theorem dX12_howOf_2 : decode cX12_howOf 2 = .ok (.if_icmp .ne 7, 3) := by decide +kernel
theorem dX12_howOf_5 : decode cX12_howOf 5 = .ok (.iconst 0, 1) := by decide +kernel
theorem dX12_howOf_6 : decode cX12_howOf 6 = .ok (.goto 24, 3) := by decide +kernel
theorem dX12_howOf_9 : decode cX12_howOf 9 = .ok (.iload_n 1, 1) := by decide +kernel
theorem dX12_howOf_10 : decode cX12_howOf 10 = .ok (.iconst 4, 1) := by decide +kernel
theorem dX12_howOf_11 : decode cX12_howOf 11 = .ok (.if_icmp .ne 10, 3) := by decide +kernel
theorem dX12_howOf_14 : decode cX12_howOf 14 = .ok (.aload_n 0, 1) := by decide +kernel
theorem dX12_howOf_15 : decode cX12_howOf 15 = .ok (.getfield 466, 3) := by decide +kernel
theorem dX12_howOf_18 : decode cX12_howOf 18 = .ok (.goto 12, 3) := by decide +kernel
theorem dX12_howOf_21 : decode cX12_howOf 21 = .ok (.aload_n 0, 1) := by decide +kernel
theorem dX12_howOf_22 : decode cX12_howOf 22 = .ok (.getfield 442, 3) := by decide +kernel
theorem dX12_howOf_25 : decode cX12_howOf 25 = .ok (.getfield 362, 3) := by decide +kernel
theorem dX12_howOf_28 : decode cX12_howOf 28 = .ok (.iload_n 1, 1) := by decide +kernel
theorem dX12_howOf_29 : decode cX12_howOf 29 = .ok (.iaload, 1) := by decide +kernel
theorem dX12_howOf_30 : decode cX12_howOf 30 = .ok (.ireturn, 1) := by decide +kernel
theorem dX12_dayBy_0 : decode cX12_dayBy 0 = .ok (.iload_n 1, 1) := by decide +kernel
theorem dX12_dayBy_1 : decode cX12_dayBy 1 = .ok (.bipush 12, 2) := by decide +kernel
theorem dX12_dayBy_3 : decode cX12_dayBy 3 = .ok (.if_icmp .ge 12, 3) := by decide +kernel
theorem dX12_dayBy_6 : decode cX12_dayBy 6 = .ok (.aload_n 0, 1) := by decide +kernel
theorem dX12_dayBy_7 : decode cX12_dayBy 7 = .ok (.iload_n 1, 1) := by decide +kernel
theorem dX12_dayBy_8 : decode cX12_dayBy 8 = .ok (.iload_n 2, 1) := by decide +kernel
theorem dX12_dayBy_9 : decode cX12_dayBy 9 = .ok (.invokevirtual 469, 3) := by decide +kernel
theorem dX12_dayBy_12 : decode cX12_dayBy 12 = .ok (.goto 4, 3) := by decide +kernel
theorem dX12_dayBy_15 : decode cX12_dayBy 15 = .ok (.iconst (-1), 1) := by decide +kernel
theorem dX12_dayBy_16 : decode cX12_dayBy 16 = .ok (.istore_n 3, 1) := by decide +kernel
theorem dX12_dayBy_17 : decode cX12_dayBy 17 = .ok (.iload_n 3, 1) := by decide +kernel
theorem dX12_dayBy_18 : decode cX12_dayBy 18 = .ok (.iconst (-1), 1) := by decide +kernel
theorem dX12_dayBy_19 : decode cX12_dayBy 19 = .ok (.if_icmp .eq 18, 3) := by decide +kernel
theorem dX12_dayBy_22 : decode cX12_dayBy 22 = .ok (.aload_n 0, 1) := by decide +kernel
theorem dX12_dayBy_23 : decode cX12_dayBy 23 = .ok (.getfield 442, 3) := by decide +kernel
theorem dX12_dayBy_26 : decode cX12_dayBy 26 = .ok (.getfield 392, 3) := by decide +kernel
theorem dX12_dayBy_29 : decode cX12_dayBy 29 = .ok (.aload_n 0, 1) := by decide +kernel
theorem dX12_dayBy_30 : decode cX12_dayBy 30 = .ok (.getfield 451, 3) := by decide +kernel
theorem dX12_dayBy_33 : decode cX12_dayBy 33 = .ok (.baload, 1) := by decide +kernel
theorem dX12_dayBy_34 : decode cX12_dayBy 34 = .ok (.ifCond .ne 10, 3) := by decide +kernel
theorem dX12_dayBy_37 : decode cX12_dayBy 37 = .ok (.aload_n 0, 1) := by decide +kernel
theorem dX12_dayBy_38 : decode cX12_dayBy 38 = .ok (.getfield 17, 3) := by decide +kernel
theorem dX12_dayBy_41 : decode cX12_dayBy 41 = .ok (.iload_n 1, 1) := by decide +kernel
theorem dX12_dayBy_42 : decode cX12_dayBy 42 = .ok (.iaload, 1) := by decide +kernel
theorem dX12_dayBy_43 : decode cX12_dayBy 43 = .ok (.ireturn, 1) := by decide +kernel
theorem dX12_dayBy_44 : decode cX12_dayBy 44 = .ok (.iload_n 3, 1) := by decide +kernel
theorem dX12_dayBy_45 : decode cX12_dayBy 45 = .ok (.iconst 4, 1) := by decide +kernel
theorem dX12_dayBy_46 : decode cX12_dayBy 46 = .ok (.if_icmp .ne 10, 3) := by decide +kernel
theorem dX12_dayBy_49 : decode cX12_dayBy 49 = .ok (.aload_n 0, 1) := by decide +kernel
theorem dX12_dayBy_50 : decode cX12_dayBy 50 = .ok (.getfield 463, 3) := by decide +kernel
theorem dX12_dayBy_53 : decode cX12_dayBy 53 = .ok (.goto 12, 3) := by decide +kernel
theorem dX12_dayBy_56 : decode cX12_dayBy 56 = .ok (.aload_n 0, 1) := by decide +kernel
theorem dX12_dayBy_57 : decode cX12_dayBy 57 = .ok (.getfield 442, 3) := by decide +kernel
theorem dX12_dayBy_60 : decode cX12_dayBy 60 = .ok (.getfield 365, 3) := by decide +kernel
theorem dX12_dayBy_63 : decode cX12_dayBy 63 = .ok (.iload_n 3, 1) := by decide +kernel
theorem dX12_dayBy_64 : decode cX12_dayBy 64 = .ok (.iaload, 1) := by decide +kernel
theorem dX12_dayBy_65 : decode cX12_dayBy 65 = .ok (.ireturn, 1) := by decide +kernel
theorem dX12_goodsOf_0 : decode cX12_goodsOf 0 = .ok (.aload_n 0, 1) := by decide +kernel
theorem dX12_goodsOf_1 : decode cX12_goodsOf 1 = .ok (.aload_n 0, 1) := by decide +kernel
theorem dX12_goodsOf_2 : decode cX12_goodsOf 2 = .ok (.iload_n 1, 1) := by decide +kernel
theorem dX12_goodsOf_3 : decode cX12_goodsOf 3 = .ok (.iload_n 2, 1) := by decide +kernel
theorem dX12_goodsOf_4 : decode cX12_goodsOf 4 = .ok (.invokevirtual 469, 3) := by decide +kernel
theorem dX12_goodsOf_7 : decode cX12_goodsOf 7 = .ok (.invokevirtual 472, 3) := by decide +kernel
theorem dX12_goodsOf_10 : decode cX12_goodsOf 10 = .ok (.iconst 1, 1) := by decide +kernel
theorem dX12_goodsOf_11 : decode cX12_goodsOf 11 = .ok (.if_icmp .ne 8, 3) := by decide +kernel
theorem dX12_goodsOf_14 : decode cX12_goodsOf 14 = .ok (.bipush (-2), 2) := by decide +kernel
theorem dX12_goodsOf_16 : decode cX12_goodsOf 16 = .ok (.goto 12, 3) := by decide +kernel
theorem dX12_goodsOf_19 : decode cX12_goodsOf 19 = .ok (.aload_n 0, 1) := by decide +kernel
theorem dX12_goodsOf_20 : decode cX12_goodsOf 20 = .ok (.getfield 442, 3) := by decide +kernel
theorem dX12_goodsOf_23 : decode cX12_goodsOf 23 = .ok (.getfield 329, 3) := by decide +kernel
theorem dX12_goodsOf_26 : decode cX12_goodsOf 26 = .ok (.iload_n 1, 1) := by decide +kernel
theorem dX12_goodsOf_27 : decode cX12_goodsOf 27 = .ok (.iaload, 1) := by decide +kernel
theorem dX12_goodsOf_28 : decode cX12_goodsOf 28 = .ok (.ireturn, 1) := by decide +kernel
theorem dX12_isReached_0 : decode cX12_isReached 0 = .ok (.iconst 0, 1) := by decide +kernel
theorem dX12_isReached_1 : decode cX12_isReached 1 = .ok (.istore_n 2, 1) := by decide +kernel
theorem dX12_isReached_2 : decode cX12_isReached 2 = .ok (.iload_n 2, 1) := by decide +kernel
theorem dX12_isReached_3 : decode cX12_isReached 3 = .ok (.aload_n 0, 1) := by decide +kernel
theorem dX12_isReached_4 : decode cX12_isReached 4 = .ok (.getfield 475, 3) := by decide +kernel
theorem dX12_isReached_7 : decode cX12_isReached 7 = .ok (.if_icmp .ge 21, 3) := by decide +kernel
theorem dX12_isReached_10 : decode cX12_isReached 10 = .ok (.aload_n 0, 1) := by decide +kernel
theorem dX12_isReached_11 : decode cX12_isReached 11 = .ok (.getfield 24, 3) := by decide +kernel
theorem dX12_isReached_14 : decode cX12_isReached 14 = .ok (.iload_n 2, 1) := by decide +kernel
theorem dX12_isReached_15 : decode cX12_isReached 15 = .ok (.iaload, 1) := by decide +kernel
theorem dX12_isReached_16 : decode cX12_isReached 16 = .ok (.iload_n 1, 1) := by decide +kernel
theorem dX12_isReached_17 : decode cX12_isReached 17 = .ok (.if_icmp .ne 5, 3) := by decide +kernel
theorem dX12_isReached_20 : decode cX12_isReached 20 = .ok (.iconst 1, 1) := by decide +kernel
theorem dX12_isReached_21 : decode cX12_isReached 21 = .ok (.ireturn, 1) := by decide +kernel
theorem dX12_isReached_22 : decode cX12_isReached 22 = .ok (.iinc 2 1, 3) := by decide +kernel
theorem dX12_isReached_25 : decode cX12_isReached 25 = .ok (.goto (-23), 3) := by decide +kernel
theorem dX12_isReached_28 : decode cX12_isReached 28 = .ok (.iconst 0, 1) := by decide +kernel
theorem dX12_isReached_29 : decode cX12_isReached 29 = .ok (.ireturn, 1) := by decide +kernel
theorem dX12_reach_0 : decode cX12_reach 0 = .ok (.aload_n 0, 1) := by decide +kernel
theorem dX12_reach_1 : decode cX12_reach 1 = .ok (.getfield 24, 3) := by decide +kernel
theorem dX12_reach_4 : decode cX12_reach 4 = .ok (.iconst 0, 1) := by decide +kernel
theorem dX12_reach_5 : decode cX12_reach 5 = .ok (.iload_n 1, 1) := by decide +kernel
theorem dX12_reach_6 : decode cX12_reach 6 = .ok (.iastore, 1) := by decide +kernel
theorem dX12_reach_7 : decode cX12_reach 7 = .ok (.aload_n 0, 1) := by decide +kernel
theorem dX12_reach_8 : decode cX12_reach 8 = .ok (.getfield 27, 3) := by decide +kernel
theorem dX12_reach_11 : decode cX12_reach 11 = .ok (.iconst 0, 1) := by decide +kernel
theorem dX12_reach_12 : decode cX12_reach 12 = .ok (.iconst (-1), 1) := by decide +kernel
theorem dX12_reach_13 : decode cX12_reach 13 = .ok (.iastore, 1) := by decide +kernel
theorem dX12_reach_14 : decode cX12_reach 14 = .ok (.aload_n 0, 1) := by decide +kernel
theorem dX12_reach_15 : decode cX12_reach 15 = .ok (.getfield 30, 3) := by decide +kernel
theorem dX12_reach_18 : decode cX12_reach 18 = .ok (.iconst 0, 1) := by decide +kernel
theorem dX12_reach_19 : decode cX12_reach 19 = .ok (.iconst 0, 1) := by decide +kernel
theorem dX12_reach_20 : decode cX12_reach 20 = .ok (.iastore, 1) := by decide +kernel
theorem dX12_reach_21 : decode cX12_reach 21 = .ok (.aload_n 0, 1) := by decide +kernel
theorem dX12_reach_22 : decode cX12_reach 22 = .ok (.iconst 1, 1) := by decide +kernel
theorem dX12_reach_23 : decode cX12_reach 23 = .ok (.putfield 475, 3) := by decide +kernel
theorem dX12_reach_26 : decode cX12_reach 26 = .ok (.iconst 0, 1) := by decide +kernel
theorem dX12_reach_27 : decode cX12_reach 27 = .ok (.istore_n 3, 1) := by decide +kernel
theorem dX12_reach_28 : decode cX12_reach 28 = .ok (.iload_n 3, 1) := by decide +kernel
theorem dX12_reach_29 : decode cX12_reach 29 = .ok (.aload_n 0, 1) := by decide +kernel
theorem dX12_reach_30 : decode cX12_reach 30 = .ok (.getfield 475, 3) := by decide +kernel
theorem dX12_reach_33 : decode cX12_reach 33 = .ok (.if_icmp .ge 156, 3) := by decide +kernel
theorem dX12_reach_36 : decode cX12_reach 36 = .ok (.iconst 0, 1) := by decide +kernel
theorem dX12_reach_37 : decode cX12_reach 37 = .ok (.istore 4, 2) := by decide +kernel
theorem dX12_reach_39 : decode cX12_reach 39 = .ok (.iload 4, 2) := by decide +kernel
theorem dX12_reach_41 : decode cX12_reach 41 = .ok (.aload_n 0, 1) := by decide +kernel
theorem dX12_reach_42 : decode cX12_reach 42 = .ok (.getfield 442, 3) := by decide +kernel
theorem dX12_reach_45 : decode cX12_reach 45 = .ok (.getfield 345, 3) := by decide +kernel
theorem dX12_reach_48 : decode cX12_reach 48 = .ok (.if_icmp .ge 135, 3) := by decide +kernel
theorem dX12_reach_51 : decode cX12_reach 51 = .ok (.bipush 12, 2) := by decide +kernel
theorem dX12_reach_53 : decode cX12_reach 53 = .ok (.iload 4, 2) := by decide +kernel
theorem dX12_reach_55 : decode cX12_reach 55 = .ok (.iadd, 1) := by decide +kernel
theorem dX12_reach_56 : decode cX12_reach 56 = .ok (.istore 5, 2) := by decide +kernel
theorem dX12_reach_58 : decode cX12_reach 58 = .ok (.aload_n 0, 1) := by decide +kernel
theorem dX12_reach_59 : decode cX12_reach 59 = .ok (.getfield 442, 3) := by decide +kernel
theorem dX12_reach_62 : decode cX12_reach 62 = .ok (.getfield 327, 3) := by decide +kernel
theorem dX12_reach_65 : decode cX12_reach 65 = .ok (.iload 5, 2) := by decide +kernel
theorem dX12_reach_67 : decode cX12_reach 67 = .ok (.iaload, 1) := by decide +kernel
theorem dX12_reach_68 : decode cX12_reach 68 = .ok (.aload_n 0, 1) := by decide +kernel
theorem dX12_reach_69 : decode cX12_reach 69 = .ok (.getfield 24, 3) := by decide +kernel
theorem dX12_reach_72 : decode cX12_reach 72 = .ok (.iload_n 3, 1) := by decide +kernel
theorem dX12_reach_73 : decode cX12_reach 73 = .ok (.iaload, 1) := by decide +kernel
theorem dX12_reach_74 : decode cX12_reach 74 = .ok (.if_icmp .ne 103, 3) := by decide +kernel
theorem dX12_reach_77 : decode cX12_reach 77 = .ok (.aload_n 0, 1) := by decide +kernel
theorem dX12_reach_78 : decode cX12_reach 78 = .ok (.iload 5, 2) := by decide +kernel
theorem dX12_reach_80 : decode cX12_reach 80 = .ok (.iload_n 2, 1) := by decide +kernel
theorem dX12_reach_81 : decode cX12_reach 81 = .ok (.invokevirtual 478, 3) := by decide +kernel
theorem dX12_reach_84 : decode cX12_reach 84 = .ok (.ifCond .eq 93, 3) := by decide +kernel
theorem dX12_reach_87 : decode cX12_reach 87 = .ok (.aload_n 0, 1) := by decide +kernel
theorem dX12_reach_88 : decode cX12_reach 88 = .ok (.aload_n 0, 1) := by decide +kernel
theorem dX12_reach_89 : decode cX12_reach 89 = .ok (.getfield 442, 3) := by decide +kernel
theorem dX12_reach_92 : decode cX12_reach 92 = .ok (.getfield 329, 3) := by decide +kernel
theorem dX12_reach_95 : decode cX12_reach 95 = .ok (.iload 5, 2) := by decide +kernel
theorem dX12_reach_97 : decode cX12_reach 97 = .ok (.iaload, 1) := by decide +kernel
theorem dX12_reach_98 : decode cX12_reach 98 = .ok (.invokevirtual 482, 3) := by decide +kernel
theorem dX12_reach_101 : decode cX12_reach 101 = .ok (.ifCond .eq 6, 3) := by decide +kernel
theorem dX12_reach_104 : decode cX12_reach 104 = .ok (.goto 73, 3) := by decide +kernel
theorem dX12_reach_107 : decode cX12_reach 107 = .ok (.aload_n 0, 1) := by decide +kernel
theorem dX12_reach_108 : decode cX12_reach 108 = .ok (.getfield 24, 3) := by decide +kernel
theorem dX12_reach_111 : decode cX12_reach 111 = .ok (.aload_n 0, 1) := by decide +kernel
theorem dX12_reach_112 : decode cX12_reach 112 = .ok (.getfield 475, 3) := by decide +kernel
theorem dX12_reach_115 : decode cX12_reach 115 = .ok (.aload_n 0, 1) := by decide +kernel
theorem dX12_reach_116 : decode cX12_reach 116 = .ok (.getfield 442, 3) := by decide +kernel
theorem dX12_reach_119 : decode cX12_reach 119 = .ok (.getfield 329, 3) := by decide +kernel
theorem dX12_reach_122 : decode cX12_reach 122 = .ok (.iload 5, 2) := by decide +kernel
theorem dX12_reach_124 : decode cX12_reach 124 = .ok (.iaload, 1) := by decide +kernel
theorem dX12_reach_125 : decode cX12_reach 125 = .ok (.iastore, 1) := by decide +kernel
theorem dX12_reach_126 : decode cX12_reach 126 = .ok (.aload_n 0, 1) := by decide +kernel
theorem dX12_reach_127 : decode cX12_reach 127 = .ok (.getfield 27, 3) := by decide +kernel
theorem dX12_reach_130 : decode cX12_reach 130 = .ok (.aload_n 0, 1) := by decide +kernel
theorem dX12_reach_131 : decode cX12_reach 131 = .ok (.getfield 475, 3) := by decide +kernel
theorem dX12_reach_134 : decode cX12_reach 134 = .ok (.iload_n 3, 1) := by decide +kernel
theorem dX12_reach_135 : decode cX12_reach 135 = .ok (.ifCond .ne 8, 3) := by decide +kernel
theorem dX12_reach_138 : decode cX12_reach 138 = .ok (.iload 5, 2) := by decide +kernel
theorem dX12_reach_140 : decode cX12_reach 140 = .ok (.goto 9, 3) := by decide +kernel
theorem dX12_reach_143 : decode cX12_reach 143 = .ok (.aload_n 0, 1) := by decide +kernel
theorem dX12_reach_144 : decode cX12_reach 144 = .ok (.getfield 27, 3) := by decide +kernel
theorem dX12_reach_147 : decode cX12_reach 147 = .ok (.iload_n 3, 1) := by decide +kernel
theorem dX12_reach_148 : decode cX12_reach 148 = .ok (.iaload, 1) := by decide +kernel
theorem dX12_reach_149 : decode cX12_reach 149 = .ok (.iastore, 1) := by decide +kernel
theorem dX12_reach_150 : decode cX12_reach 150 = .ok (.aload_n 0, 1) := by decide +kernel
theorem dX12_reach_151 : decode cX12_reach 151 = .ok (.getfield 30, 3) := by decide +kernel
theorem dX12_reach_154 : decode cX12_reach 154 = .ok (.aload_n 0, 1) := by decide +kernel
theorem dX12_reach_155 : decode cX12_reach 155 = .ok (.getfield 475, 3) := by decide +kernel
theorem dX12_reach_158 : decode cX12_reach 158 = .ok (.aload_n 0, 1) := by decide +kernel
theorem dX12_reach_159 : decode cX12_reach 159 = .ok (.getfield 30, 3) := by decide +kernel
theorem dX12_reach_162 : decode cX12_reach 162 = .ok (.iload_n 3, 1) := by decide +kernel
theorem dX12_reach_163 : decode cX12_reach 163 = .ok (.iaload, 1) := by decide +kernel
theorem dX12_reach_164 : decode cX12_reach 164 = .ok (.iconst 1, 1) := by decide +kernel
theorem dX12_reach_165 : decode cX12_reach 165 = .ok (.iadd, 1) := by decide +kernel
theorem dX12_reach_166 : decode cX12_reach 166 = .ok (.iastore, 1) := by decide +kernel
theorem dX12_reach_167 : decode cX12_reach 167 = .ok (.aload_n 0, 1) := by decide +kernel
theorem dX12_reach_168 : decode cX12_reach 168 = .ok (.dup, 1) := by decide +kernel
theorem dX12_reach_169 : decode cX12_reach 169 = .ok (.getfield 475, 3) := by decide +kernel
theorem dX12_reach_172 : decode cX12_reach 172 = .ok (.iconst 1, 1) := by decide +kernel
theorem dX12_reach_173 : decode cX12_reach 173 = .ok (.iadd, 1) := by decide +kernel
theorem dX12_reach_174 : decode cX12_reach 174 = .ok (.putfield 475, 3) := by decide +kernel
theorem dX12_reach_177 : decode cX12_reach 177 = .ok (.iinc 4 1, 3) := by decide +kernel
theorem dX12_reach_180 : decode cX12_reach 180 = .ok (.goto (-141), 3) := by decide +kernel
theorem dX12_reach_183 : decode cX12_reach 183 = .ok (.iinc 3 1, 3) := by decide +kernel
theorem dX12_reach_186 : decode cX12_reach 186 = .ok (.goto (-158), 3) := by decide +kernel
theorem dX12_reach_189 : decode cX12_reach 189 = .ok (.return_, 1) := by decide +kernel
theorem dX12_beats_0 : decode cX12_beats 0 = .ok (.aload_n 0, 1) := by decide +kernel
theorem dX12_beats_1 : decode cX12_beats 1 = .ok (.aload_n 0, 1) := by decide +kernel
theorem dX12_beats_2 : decode cX12_beats 2 = .ok (.iload_n 1, 1) := by decide +kernel
theorem dX12_beats_3 : decode cX12_beats 3 = .ok (.iload 5, 2) := by decide +kernel
theorem dX12_beats_5 : decode cX12_beats 5 = .ok (.invokevirtual 469, 3) := by decide +kernel
theorem dX12_beats_8 : decode cX12_beats 8 = .ok (.invokevirtual 472, 3) := by decide +kernel
theorem dX12_beats_11 : decode cX12_beats 11 = .ok (.istore 6, 2) := by decide +kernel
theorem dX12_beats_13 : decode cX12_beats 13 = .ok (.aload_n 0, 1) := by decide +kernel
theorem dX12_beats_14 : decode cX12_beats 14 = .ok (.iload_n 1, 1) := by decide +kernel
theorem dX12_beats_15 : decode cX12_beats 15 = .ok (.iload 5, 2) := by decide +kernel
theorem dX12_beats_17 : decode cX12_beats 17 = .ok (.invokevirtual 485, 3) := by decide +kernel
theorem dX12_beats_20 : decode cX12_beats 20 = .ok (.istore 7, 2) := by decide +kernel
theorem dX12_beats_22 : decode cX12_beats 22 = .ok (.iload 6, 2) := by decide +kernel
theorem dX12_beats_24 : decode cX12_beats 24 = .ok (.iconst 1, 1) := by decide +kernel
theorem dX12_beats_25 : decode cX12_beats 25 = .ok (.if_icmp .ne 7, 3) := by decide +kernel
theorem dX12_beats_28 : decode cX12_beats 28 = .ok (.iconst 2, 1) := by decide +kernel
theorem dX12_beats_29 : decode cX12_beats 29 = .ok (.goto 22, 3) := by decide +kernel
theorem dX12_beats_32 : decode cX12_beats 32 = .ok (.iload 6, 2) := by decide +kernel
theorem dX12_beats_34 : decode cX12_beats 34 = .ok (.iconst 2, 1) := by decide +kernel
theorem dX12_beats_35 : decode cX12_beats 35 = .ok (.if_icmp .ne 7, 3) := by decide +kernel
theorem dX12_beats_38 : decode cX12_beats 38 = .ok (.iconst 0, 1) := by decide +kernel
theorem dX12_beats_39 : decode cX12_beats 39 = .ok (.goto 12, 3) := by decide +kernel
theorem dX12_beats_42 : decode cX12_beats 42 = .ok (.aload_n 0, 1) := by decide +kernel
theorem dX12_beats_43 : decode cX12_beats 43 = .ok (.getfield 442, 3) := by decide +kernel
theorem dX12_beats_46 : decode cX12_beats 46 = .ok (.getfield 331, 3) := by decide +kernel
theorem dX12_beats_49 : decode cX12_beats 49 = .ok (.iload_n 1, 1) := by decide +kernel
theorem dX12_beats_50 : decode cX12_beats 50 = .ok (.iaload, 1) := by decide +kernel
theorem dX12_beats_51 : decode cX12_beats 51 = .ok (.istore 8, 2) := by decide +kernel
theorem dX12_beats_53 : decode cX12_beats 53 = .ok (.iload 7, 2) := by decide +kernel
theorem dX12_beats_55 : decode cX12_beats 55 = .ok (.bipush (-2), 2) := by decide +kernel
theorem dX12_beats_57 : decode cX12_beats 57 = .ok (.if_icmp .eq 18, 3) := by decide +kernel
theorem dX12_beats_60 : decode cX12_beats 60 = .ok (.iload 7, 2) := by decide +kernel
theorem dX12_beats_62 : decode cX12_beats 62 = .ok (.aload_n 0, 1) := by decide +kernel
theorem dX12_beats_63 : decode cX12_beats 63 = .ok (.getfield 442, 3) := by decide +kernel
theorem dX12_beats_66 : decode cX12_beats 66 = .ok (.getfield 417, 3) := by decide +kernel
theorem dX12_beats_69 : decode cX12_beats 69 = .ok (.iload 4, 2) := by decide +kernel
theorem dX12_beats_71 : decode cX12_beats 71 = .ok (.iaload, 1) := by decide +kernel
theorem dX12_beats_72 : decode cX12_beats 72 = .ok (.if_icmp .ne 24, 3) := by decide +kernel
theorem dX12_beats_75 : decode cX12_beats 75 = .ok (.iload 8, 2) := by decide +kernel
theorem dX12_beats_77 : decode cX12_beats 77 = .ok (.iconst 2, 1) := by decide +kernel
theorem dX12_beats_78 : decode cX12_beats 78 = .ok (.if_icmp .eq 20, 3) := by decide +kernel
theorem dX12_beats_81 : decode cX12_beats 81 = .ok (.iload 8, 2) := by decide +kernel
theorem dX12_beats_83 : decode cX12_beats 83 = .ok (.aload_n 0, 1) := by decide +kernel
theorem dX12_beats_84 : decode cX12_beats 84 = .ok (.getfield 442, 3) := by decide +kernel
theorem dX12_beats_87 : decode cX12_beats 87 = .ok (.getfield 420, 3) := by decide +kernel
theorem dX12_beats_90 : decode cX12_beats 90 = .ok (.iload 4, 2) := by decide +kernel
theorem dX12_beats_92 : decode cX12_beats 92 = .ok (.iaload, 1) := by decide +kernel
theorem dX12_beats_93 : decode cX12_beats 93 = .ok (.if_icmp .eq 5, 3) := by decide +kernel
theorem dX12_beats_96 : decode cX12_beats 96 = .ok (.iconst 0, 1) := by decide +kernel
theorem dX12_beats_97 : decode cX12_beats 97 = .ok (.ireturn, 1) := by decide +kernel
theorem dX12_beats_98 : decode cX12_beats 98 = .ok (.aload_n 0, 1) := by decide +kernel
theorem dX12_beats_99 : decode cX12_beats 99 = .ok (.iload_n 3, 1) := by decide +kernel
theorem dX12_beats_100 : decode cX12_beats 100 = .ok (.iload 5, 2) := by decide +kernel
theorem dX12_beats_102 : decode cX12_beats 102 = .ok (.invokevirtual 485, 3) := by decide +kernel
theorem dX12_beats_105 : decode cX12_beats 105 = .ok (.istore 9, 2) := by decide +kernel
theorem dX12_beats_107 : decode cX12_beats 107 = .ok (.aload_n 0, 1) := by decide +kernel
theorem dX12_beats_108 : decode cX12_beats 108 = .ok (.getfield 442, 3) := by decide +kernel
theorem dX12_beats_111 : decode cX12_beats 111 = .ok (.getfield 399, 3) := by decide +kernel
theorem dX12_beats_114 : decode cX12_beats 114 = .ok (.aload_n 0, 1) := by decide +kernel
theorem dX12_beats_115 : decode cX12_beats 115 = .ok (.getfield 451, 3) := by decide +kernel
theorem dX12_beats_118 : decode cX12_beats 118 = .ok (.baload, 1) := by decide +kernel
theorem dX12_beats_119 : decode cX12_beats 119 = .ok (.ifCond .eq 43, 3) := by decide +kernel
theorem dX12_beats_122 : decode cX12_beats 122 = .ok (.iload 7, 2) := by decide +kernel
theorem dX12_beats_124 : decode cX12_beats 124 = .ok (.bipush (-2), 2) := by decide +kernel
theorem dX12_beats_126 : decode cX12_beats 126 = .ok (.if_icmp .ne 7, 3) := by decide +kernel
theorem dX12_beats_129 : decode cX12_beats 129 = .ok (.iconst 1, 1) := by decide +kernel
theorem dX12_beats_130 : decode cX12_beats 130 = .ok (.goto 4, 3) := by decide +kernel
theorem dX12_beats_133 : decode cX12_beats 133 = .ok (.iconst 0, 1) := by decide +kernel
theorem dX12_beats_134 : decode cX12_beats 134 = .ok (.iload 9, 2) := by decide +kernel
theorem dX12_beats_136 : decode cX12_beats 136 = .ok (.bipush (-2), 2) := by decide +kernel
theorem dX12_beats_138 : decode cX12_beats 138 = .ok (.if_icmp .ne 7, 3) := by decide +kernel
theorem dX12_beats_141 : decode cX12_beats 141 = .ok (.iconst 1, 1) := by decide +kernel
theorem dX12_beats_142 : decode cX12_beats 142 = .ok (.goto 4, 3) := by decide +kernel
theorem dX12_beats_145 : decode cX12_beats 145 = .ok (.iconst 0, 1) := by decide +kernel
theorem dX12_beats_146 : decode cX12_beats 146 = .ok (.if_icmp .eq 16, 3) := by decide +kernel
theorem dX12_beats_149 : decode cX12_beats 149 = .ok (.iload 7, 2) := by decide +kernel
theorem dX12_beats_151 : decode cX12_beats 151 = .ok (.bipush (-2), 2) := by decide +kernel
theorem dX12_beats_153 : decode cX12_beats 153 = .ok (.if_icmp .eq 7, 3) := by decide +kernel
theorem dX12_beats_156 : decode cX12_beats 156 = .ok (.iconst 1, 1) := by decide +kernel
theorem dX12_beats_157 : decode cX12_beats 157 = .ok (.goto 4, 3) := by decide +kernel
theorem dX12_beats_160 : decode cX12_beats 160 = .ok (.iconst 0, 1) := by decide +kernel
theorem dX12_beats_161 : decode cX12_beats 161 = .ok (.ireturn, 1) := by decide +kernel
theorem dX12_beats_162 : decode cX12_beats 162 = .ok (.aload_n 0, 1) := by decide +kernel
theorem dX12_beats_163 : decode cX12_beats 163 = .ok (.iload_n 1, 1) := by decide +kernel
theorem dX12_beats_164 : decode cX12_beats 164 = .ok (.iload 5, 2) := by decide +kernel
theorem dX12_beats_166 : decode cX12_beats 166 = .ok (.invokevirtual 488, 3) := by decide +kernel
theorem dX12_beats_169 : decode cX12_beats 169 = .ok (.istore 10, 2) := by decide +kernel
theorem dX12_beats_171 : decode cX12_beats 171 = .ok (.iload_n 2, 1) := by decide +kernel
theorem dX12_beats_172 : decode cX12_beats 172 = .ok (.iconst (-1), 1) := by decide +kernel
theorem dX12_beats_173 : decode cX12_beats 173 = .ok (.if_icmp .eq 37, 3) := by decide +kernel
theorem dX12_beats_176 : decode cX12_beats 176 = .ok (.aload_n 0, 1) := by decide +kernel
theorem dX12_beats_177 : decode cX12_beats 177 = .ok (.getfield 442, 3) := by decide +kernel
theorem dX12_beats_180 : decode cX12_beats 180 = .ok (.getfield 396, 3) := by decide +kernel
theorem dX12_beats_183 : decode cX12_beats 183 = .ok (.aload_n 0, 1) := by decide +kernel
theorem dX12_beats_184 : decode cX12_beats 184 = .ok (.getfield 451, 3) := by decide +kernel
theorem dX12_beats_187 : decode cX12_beats 187 = .ok (.baload, 1) := by decide +kernel
theorem dX12_beats_188 : decode cX12_beats 188 = .ok (.ifCond .ne 22, 3) := by decide +kernel
theorem dX12_beats_191 : decode cX12_beats 191 = .ok (.aload_n 0, 1) := by decide +kernel
theorem dX12_beats_192 : decode cX12_beats 192 = .ok (.getfield 17, 3) := by decide +kernel
theorem dX12_beats_195 : decode cX12_beats 195 = .ok (.iload_n 2, 1) := by decide +kernel
theorem dX12_beats_196 : decode cX12_beats 196 = .ok (.iaload, 1) := by decide +kernel
theorem dX12_beats_197 : decode cX12_beats 197 = .ok (.iload 10, 2) := by decide +kernel
theorem dX12_beats_199 : decode cX12_beats 199 = .ok (.if_icmp .le 11, 3) := by decide +kernel
theorem dX12_beats_202 : decode cX12_beats 202 = .ok (.aload_n 0, 1) := by decide +kernel
theorem dX12_beats_203 : decode cX12_beats 203 = .ok (.getfield 17, 3) := by decide +kernel
theorem dX12_beats_206 : decode cX12_beats 206 = .ok (.iload_n 2, 1) := by decide +kernel
theorem dX12_beats_207 : decode cX12_beats 207 = .ok (.iaload, 1) := by decide +kernel
theorem dX12_beats_208 : decode cX12_beats 208 = .ok (.istore 10, 2) := by decide +kernel
theorem dX12_beats_210 : decode cX12_beats 210 = .ok (.aload_n 0, 1) := by decide +kernel
theorem dX12_beats_211 : decode cX12_beats 211 = .ok (.iload_n 3, 1) := by decide +kernel
theorem dX12_beats_212 : decode cX12_beats 212 = .ok (.iload 5, 2) := by decide +kernel
theorem dX12_beats_214 : decode cX12_beats 214 = .ok (.invokevirtual 488, 3) := by decide +kernel
theorem dX12_beats_217 : decode cX12_beats 217 = .ok (.istore 11, 2) := by decide +kernel
theorem dX12_beats_219 : decode cX12_beats 219 = .ok (.aload_n 0, 1) := by decide +kernel
theorem dX12_beats_220 : decode cX12_beats 220 = .ok (.getfield 442, 3) := by decide +kernel
theorem dX12_beats_223 : decode cX12_beats 223 = .ok (.getfield 392, 3) := by decide +kernel
theorem dX12_beats_226 : decode cX12_beats 226 = .ok (.aload_n 0, 1) := by decide +kernel
theorem dX12_beats_227 : decode cX12_beats 227 = .ok (.getfield 451, 3) := by decide +kernel
theorem dX12_beats_230 : decode cX12_beats 230 = .ok (.baload, 1) := by decide +kernel
theorem dX12_beats_231 : decode cX12_beats 231 = .ok (.ifCond .eq 18, 3) := by decide +kernel
theorem dX12_beats_234 : decode cX12_beats 234 = .ok (.iload 10, 2) := by decide +kernel
theorem dX12_beats_236 : decode cX12_beats 236 = .ok (.iload 11, 2) := by decide +kernel
theorem dX12_beats_238 : decode cX12_beats 238 = .ok (.if_icmp .lt 7, 3) := by decide +kernel
theorem dX12_beats_241 : decode cX12_beats 241 = .ok (.iconst 1, 1) := by decide +kernel
theorem dX12_beats_242 : decode cX12_beats 242 = .ok (.goto 19, 3) := by decide +kernel
theorem dX12_beats_245 : decode cX12_beats 245 = .ok (.iconst 0, 1) := by decide +kernel
theorem dX12_beats_246 : decode cX12_beats 246 = .ok (.goto 15, 3) := by decide +kernel
theorem dX12_beats_249 : decode cX12_beats 249 = .ok (.iload 10, 2) := by decide +kernel
theorem dX12_beats_251 : decode cX12_beats 251 = .ok (.iload 11, 2) := by decide +kernel
theorem dX12_beats_253 : decode cX12_beats 253 = .ok (.if_icmp .gt 7, 3) := by decide +kernel
theorem dX12_beats_256 : decode cX12_beats 256 = .ok (.iconst 1, 1) := by decide +kernel
theorem dX12_beats_257 : decode cX12_beats 257 = .ok (.goto 4, 3) := by decide +kernel
theorem dX12_beats_260 : decode cX12_beats 260 = .ok (.iconst 0, 1) := by decide +kernel
theorem dX12_beats_261 : decode cX12_beats 261 = .ok (.ireturn, 1) := by decide +kernel
theorem dX12_winner_0 : decode cX12_winner 0 = .ok (.aload_n 0, 1) := by decide +kernel
theorem dX12_winner_1 : decode cX12_winner 1 = .ok (.getfield 460, 3) := by decide +kernel
theorem dX12_winner_4 : decode cX12_winner 4 = .ok (.iload_n 3, 1) := by decide +kernel
theorem dX12_winner_5 : decode cX12_winner 5 = .ok (.if_icmp .le 5, 3) := by decide +kernel
theorem dX12_winner_8 : decode cX12_winner 8 = .ok (.iconst (-1), 1) := by decide +kernel
theorem dX12_winner_9 : decode cX12_winner 9 = .ok (.ireturn, 1) := by decide +kernel
theorem dX12_winner_10 : decode cX12_winner 10 = .ok (.aload_n 0, 1) := by decide +kernel
theorem dX12_winner_11 : decode cX12_winner 11 = .ok (.aload_n 0, 1) := by decide +kernel
theorem dX12_winner_12 : decode cX12_winner 12 = .ok (.getfield 457, 3) := by decide +kernel
theorem dX12_winner_15 : decode cX12_winner 15 = .ok (.iload_n 3, 1) := by decide +kernel
theorem dX12_winner_16 : decode cX12_winner 16 = .ok (.invokevirtual 491, 3) := by decide +kernel
theorem dX12_winner_19 : decode cX12_winner 19 = .ok (.iconst (-1), 1) := by decide +kernel
theorem dX12_winner_20 : decode cX12_winner 20 = .ok (.istore 4, 2) := by decide +kernel
theorem dX12_winner_22 : decode cX12_winner 22 = .ok (.iconst 0, 1) := by decide +kernel
theorem dX12_winner_23 : decode cX12_winner 23 = .ok (.istore 5, 2) := by decide +kernel
theorem dX12_winner_25 : decode cX12_winner 25 = .ok (.iload 5, 2) := by decide +kernel
theorem dX12_winner_27 : decode cX12_winner 27 = .ok (.aload_n 0, 1) := by decide +kernel
theorem dX12_winner_28 : decode cX12_winner 28 = .ok (.getfield 475, 3) := by decide +kernel
theorem dX12_winner_31 : decode cX12_winner 31 = .ok (.if_icmp .ge 106, 3) := by decide +kernel
theorem dX12_winner_34 : decode cX12_winner 34 = .ok (.iconst 0, 1) := by decide +kernel
theorem dX12_winner_35 : decode cX12_winner 35 = .ok (.istore 6, 2) := by decide +kernel
theorem dX12_winner_37 : decode cX12_winner 37 = .ok (.iload 6, 2) := by decide +kernel
theorem dX12_winner_39 : decode cX12_winner 39 = .ok (.aload_n 0, 1) := by decide +kernel
theorem dX12_winner_40 : decode cX12_winner 40 = .ok (.getfield 442, 3) := by decide +kernel
theorem dX12_winner_43 : decode cX12_winner 43 = .ok (.getfield 334, 3) := by decide +kernel
theorem dX12_winner_46 : decode cX12_winner 46 = .ok (.if_icmp .ge 85, 3) := by decide +kernel
theorem dX12_winner_49 : decode cX12_winner 49 = .ok (.bipush 6, 2) := by decide +kernel
theorem dX12_winner_51 : decode cX12_winner 51 = .ok (.iload 6, 2) := by decide +kernel
theorem dX12_winner_53 : decode cX12_winner 53 = .ok (.iadd, 1) := by decide +kernel
theorem dX12_winner_54 : decode cX12_winner 54 = .ok (.istore 7, 2) := by decide +kernel
theorem dX12_winner_56 : decode cX12_winner 56 = .ok (.aload_n 0, 1) := by decide +kernel
theorem dX12_winner_57 : decode cX12_winner 57 = .ok (.getfield 442, 3) := by decide +kernel
theorem dX12_winner_60 : decode cX12_winner 60 = .ok (.getfield 327, 3) := by decide +kernel
theorem dX12_winner_63 : decode cX12_winner 63 = .ok (.iload 7, 2) := by decide +kernel
theorem dX12_winner_65 : decode cX12_winner 65 = .ok (.iaload, 1) := by decide +kernel
theorem dX12_winner_66 : decode cX12_winner 66 = .ok (.aload_n 0, 1) := by decide +kernel
theorem dX12_winner_67 : decode cX12_winner 67 = .ok (.getfield 24, 3) := by decide +kernel
theorem dX12_winner_70 : decode cX12_winner 70 = .ok (.iload 5, 2) := by decide +kernel
theorem dX12_winner_72 : decode cX12_winner 72 = .ok (.iaload, 1) := by decide +kernel
theorem dX12_winner_73 : decode cX12_winner 73 = .ok (.if_icmp .ne 52, 3) := by decide +kernel
theorem dX12_winner_76 : decode cX12_winner 76 = .ok (.aload_n 0, 1) := by decide +kernel
theorem dX12_winner_77 : decode cX12_winner 77 = .ok (.iload 7, 2) := by decide +kernel
theorem dX12_winner_79 : decode cX12_winner 79 = .ok (.iload_n 3, 1) := by decide +kernel
theorem dX12_winner_80 : decode cX12_winner 80 = .ok (.invokevirtual 478, 3) := by decide +kernel
theorem dX12_winner_83 : decode cX12_winner 83 = .ok (.ifCond .eq 42, 3) := by decide +kernel
theorem dX12_winner_86 : decode cX12_winner 86 = .ok (.iload 4, 2) := by decide +kernel
theorem dX12_winner_88 : decode cX12_winner 88 = .ok (.iconst (-1), 1) := by decide +kernel
theorem dX12_winner_89 : decode cX12_winner 89 = .ok (.if_icmp .eq 13, 3) := by decide +kernel
theorem dX12_winner_92 : decode cX12_winner 92 = .ok (.iload 7, 2) := by decide +kernel
theorem dX12_winner_94 : decode cX12_winner 94 = .ok (.iload 4, 2) := by decide +kernel
theorem dX12_winner_96 : decode cX12_winner 96 = .ok (.if_icmp .le 6, 3) := by decide +kernel
theorem dX12_winner_99 : decode cX12_winner 99 = .ok (.goto 26, 3) := by decide +kernel
theorem dX12_winner_102 : decode cX12_winner 102 = .ok (.aload_n 0, 1) := by decide +kernel
theorem dX12_winner_103 : decode cX12_winner 103 = .ok (.iload 7, 2) := by decide +kernel
theorem dX12_winner_105 : decode cX12_winner 105 = .ok (.aload_n 0, 1) := by decide +kernel
theorem dX12_winner_106 : decode cX12_winner 106 = .ok (.getfield 27, 3) := by decide +kernel
theorem dX12_winner_109 : decode cX12_winner 109 = .ok (.iload 5, 2) := by decide +kernel
theorem dX12_winner_111 : decode cX12_winner 111 = .ok (.iaload, 1) := by decide +kernel
theorem dX12_winner_112 : decode cX12_winner 112 = .ok (.iload_n 1, 1) := by decide +kernel
theorem dX12_winner_113 : decode cX12_winner 113 = .ok (.iload_n 2, 1) := by decide +kernel
theorem dX12_winner_114 : decode cX12_winner 114 = .ok (.iload_n 3, 1) := by decide +kernel
theorem dX12_winner_115 : decode cX12_winner 115 = .ok (.invokevirtual 494, 3) := by decide +kernel
theorem dX12_winner_118 : decode cX12_winner 118 = .ok (.ifCond .eq 7, 3) := by decide +kernel
theorem dX12_winner_121 : decode cX12_winner 121 = .ok (.iload 7, 2) := by decide +kernel
theorem dX12_winner_123 : decode cX12_winner 123 = .ok (.istore 4, 2) := by decide +kernel
theorem dX12_winner_125 : decode cX12_winner 125 = .ok (.iinc 6 1, 3) := by decide +kernel
theorem dX12_winner_128 : decode cX12_winner 128 = .ok (.goto (-91), 3) := by decide +kernel
theorem dX12_winner_131 : decode cX12_winner 131 = .ok (.iinc 5 1, 3) := by decide +kernel
theorem dX12_winner_134 : decode cX12_winner 134 = .ok (.goto (-109), 3) := by decide +kernel
theorem dX12_winner_137 : decode cX12_winner 137 = .ok (.iload 4, 2) := by decide +kernel
theorem dX12_winner_139 : decode cX12_winner 139 = .ok (.ireturn, 1) := by decide +kernel
theorem dX12_owed_0 : decode cX12_owed 0 = .ok (.iconst 0, 1) := by decide +kernel
theorem dX12_owed_1 : decode cX12_owed 1 = .ok (.istore 4, 2) := by decide +kernel
theorem dX12_owed_3 : decode cX12_owed 3 = .ok (.iconst 0, 1) := by decide +kernel
theorem dX12_owed_4 : decode cX12_owed 4 = .ok (.istore 5, 2) := by decide +kernel
theorem dX12_owed_6 : decode cX12_owed 6 = .ok (.iload 5, 2) := by decide +kernel
theorem dX12_owed_8 : decode cX12_owed 8 = .ok (.aload_n 0, 1) := by decide +kernel
theorem dX12_owed_9 : decode cX12_owed 9 = .ok (.getfield 442, 3) := by decide +kernel
theorem dX12_owed_12 : decode cX12_owed 12 = .ok (.getfield 313, 3) := by decide +kernel
theorem dX12_owed_15 : decode cX12_owed 15 = .ok (.if_icmp .ge 136, 3) := by decide +kernel
theorem dX12_owed_18 : decode cX12_owed 18 = .ok (.aload_n 0, 1) := by decide +kernel
theorem dX12_owed_19 : decode cX12_owed 19 = .ok (.getfield 442, 3) := by decide +kernel
theorem dX12_owed_22 : decode cX12_owed 22 = .ok (.getfield 327, 3) := by decide +kernel
theorem dX12_owed_25 : decode cX12_owed 25 = .ok (.iload 5, 2) := by decide +kernel
theorem dX12_owed_27 : decode cX12_owed 27 = .ok (.iaload, 1) := by decide +kernel
theorem dX12_owed_28 : decode cX12_owed 28 = .ok (.iload_n 2, 1) := by decide +kernel
theorem dX12_owed_29 : decode cX12_owed 29 = .ok (.if_icmp .ne 116, 3) := by decide +kernel
theorem dX12_owed_32 : decode cX12_owed 32 = .ok (.aload_n 0, 1) := by decide +kernel
theorem dX12_owed_33 : decode cX12_owed 33 = .ok (.iload 5, 2) := by decide +kernel
theorem dX12_owed_35 : decode cX12_owed 35 = .ok (.iload_n 3, 1) := by decide +kernel
theorem dX12_owed_36 : decode cX12_owed 36 = .ok (.invokevirtual 478, 3) := by decide +kernel
theorem dX12_owed_39 : decode cX12_owed 39 = .ok (.ifCond .ne 6, 3) := by decide +kernel
theorem dX12_owed_42 : decode cX12_owed 42 = .ok (.goto 103, 3) := by decide +kernel
theorem dX12_owed_45 : decode cX12_owed 45 = .ok (.aload_n 0, 1) := by decide +kernel
theorem dX12_owed_46 : decode cX12_owed 46 = .ok (.iload 5, 2) := by decide +kernel
theorem dX12_owed_48 : decode cX12_owed 48 = .ok (.iload_n 3, 1) := by decide +kernel
theorem dX12_owed_49 : decode cX12_owed 49 = .ok (.invokevirtual 485, 3) := by decide +kernel
theorem dX12_owed_52 : decode cX12_owed 52 = .ok (.istore 6, 2) := by decide +kernel
theorem dX12_owed_54 : decode cX12_owed 54 = .ok (.iload 6, 2) := by decide +kernel
theorem dX12_owed_56 : decode cX12_owed 56 = .ok (.bipush (-2), 2) := by decide +kernel
theorem dX12_owed_58 : decode cX12_owed 58 = .ok (.if_icmp .eq 17, 3) := by decide +kernel
theorem dX12_owed_61 : decode cX12_owed 61 = .ok (.iload 6, 2) := by decide +kernel
theorem dX12_owed_63 : decode cX12_owed 63 = .ok (.aload_n 0, 1) := by decide +kernel
theorem dX12_owed_64 : decode cX12_owed 64 = .ok (.getfield 442, 3) := by decide +kernel
theorem dX12_owed_67 : decode cX12_owed 67 = .ok (.getfield 417, 3) := by decide +kernel
theorem dX12_owed_70 : decode cX12_owed 70 = .ok (.iload_n 1, 1) := by decide +kernel
theorem dX12_owed_71 : decode cX12_owed 71 = .ok (.iaload, 1) := by decide +kernel
theorem dX12_owed_72 : decode cX12_owed 72 = .ok (.if_icmp .ne 73, 3) := by decide +kernel
theorem dX12_owed_75 : decode cX12_owed 75 = .ok (.aload_n 0, 1) := by decide +kernel
theorem dX12_owed_76 : decode cX12_owed 76 = .ok (.iload 5, 2) := by decide +kernel
theorem dX12_owed_78 : decode cX12_owed 78 = .ok (.iload_n 1, 1) := by decide +kernel
theorem dX12_owed_79 : decode cX12_owed 79 = .ok (.iload_n 3, 1) := by decide +kernel
theorem dX12_owed_80 : decode cX12_owed 80 = .ok (.invokevirtual 498, 3) := by decide +kernel
theorem dX12_owed_83 : decode cX12_owed 83 = .ok (.iconst (-1), 1) := by decide +kernel
theorem dX12_owed_84 : decode cX12_owed 84 = .ok (.if_icmp .eq 6, 3) := by decide +kernel
theorem dX12_owed_87 : decode cX12_owed 87 = .ok (.goto 58, 3) := by decide +kernel
theorem dX12_owed_90 : decode cX12_owed 90 = .ok (.iload 4, 2) := by decide +kernel
theorem dX12_owed_92 : decode cX12_owed 92 = .ok (.aload_n 0, 1) := by decide +kernel
theorem dX12_owed_93 : decode cX12_owed 93 = .ok (.aload_n 0, 1) := by decide +kernel
theorem dX12_owed_94 : decode cX12_owed 94 = .ok (.iload 5, 2) := by decide +kernel
theorem dX12_owed_96 : decode cX12_owed 96 = .ok (.iload_n 3, 1) := by decide +kernel
theorem dX12_owed_97 : decode cX12_owed 97 = .ok (.invokevirtual 469, 3) := by decide +kernel
theorem dX12_owed_100 : decode cX12_owed 100 = .ok (.invokevirtual 472, 3) := by decide +kernel
theorem dX12_owed_103 : decode cX12_owed 103 = .ok (.iconst 2, 1) := by decide +kernel
theorem dX12_owed_104 : decode cX12_owed 104 = .ok (.if_icmp .ne 18, 3) := by decide +kernel
theorem dX12_owed_107 : decode cX12_owed 107 = .ok (.aload_n 0, 1) := by decide +kernel
theorem dX12_owed_108 : decode cX12_owed 108 = .ok (.getfield 442, 3) := by decide +kernel
theorem dX12_owed_111 : decode cX12_owed 111 = .ok (.getfield 331, 3) := by decide +kernel
theorem dX12_owed_114 : decode cX12_owed 114 = .ok (.iload 5, 2) := by decide +kernel
theorem dX12_owed_116 : decode cX12_owed 116 = .ok (.iaload, 1) := by decide +kernel
theorem dX12_owed_117 : decode cX12_owed 117 = .ok (.iconst 2, 1) := by decide +kernel
theorem dX12_owed_118 : decode cX12_owed 118 = .ok (.idiv, 1) := by decide +kernel
theorem dX12_owed_119 : decode cX12_owed 119 = .ok (.goto 13, 3) := by decide +kernel
theorem dX12_owed_122 : decode cX12_owed 122 = .ok (.aload_n 0, 1) := by decide +kernel
theorem dX12_owed_123 : decode cX12_owed 123 = .ok (.getfield 442, 3) := by decide +kernel
theorem dX12_owed_126 : decode cX12_owed 126 = .ok (.getfield 331, 3) := by decide +kernel
theorem dX12_owed_129 : decode cX12_owed 129 = .ok (.iload 5, 2) := by decide +kernel
theorem dX12_owed_131 : decode cX12_owed 131 = .ok (.iaload, 1) := by decide +kernel
theorem dX12_owed_132 : decode cX12_owed 132 = .ok (.aload_n 0, 1) := by decide +kernel
theorem dX12_owed_133 : decode cX12_owed 133 = .ok (.getfield 442, 3) := by decide +kernel
theorem dX12_owed_136 : decode cX12_owed 136 = .ok (.getfield 423, 3) := by decide +kernel
theorem dX12_owed_139 : decode cX12_owed 139 = .ok (.iload_n 1, 1) := by decide +kernel
theorem dX12_owed_140 : decode cX12_owed 140 = .ok (.iaload, 1) := by decide +kernel
theorem dX12_owed_141 : decode cX12_owed 141 = .ok (.imul, 1) := by decide +kernel
theorem dX12_owed_142 : decode cX12_owed 142 = .ok (.iadd, 1) := by decide +kernel
theorem dX12_owed_143 : decode cX12_owed 143 = .ok (.istore 4, 2) := by decide +kernel
theorem dX12_owed_145 : decode cX12_owed 145 = .ok (.iinc 5 1, 3) := by decide +kernel
theorem dX12_owed_148 : decode cX12_owed 148 = .ok (.goto (-142), 3) := by decide +kernel
theorem dX12_owed_151 : decode cX12_owed 151 = .ok (.iload 4, 2) := by decide +kernel
theorem dX12_owed_153 : decode cX12_owed 153 = .ok (.ireturn, 1) := by decide +kernel
theorem dX12_isCart_0 : decode cX12_isCart 0 = .ok (.aload_n 0, 1) := by decide +kernel
theorem dX12_isCart_1 : decode cX12_isCart 1 = .ok (.getfield 442, 3) := by decide +kernel
theorem dX12_isCart_4 : decode cX12_isCart 4 = .ok (.ifnull 22, 3) := by decide +kernel
theorem dX12_isCart_7 : decode cX12_isCart 7 = .ok (.iload_n 1, 1) := by decide +kernel
theorem dX12_isCart_8 : decode cX12_isCart 8 = .ok (.ifCond .lt 18, 3) := by decide +kernel
theorem dX12_isCart_11 : decode cX12_isCart 11 = .ok (.iload_n 1, 1) := by decide +kernel
theorem dX12_isCart_12 : decode cX12_isCart 12 = .ok (.aload_n 0, 1) := by decide +kernel
theorem dX12_isCart_13 : decode cX12_isCart 13 = .ok (.getfield 442, 3) := by decide +kernel
theorem dX12_isCart_16 : decode cX12_isCart 16 = .ok (.getfield 405, 3) := by decide +kernel
theorem dX12_isCart_19 : decode cX12_isCart 19 = .ok (.if_icmp .ge 7, 3) := by decide +kernel
theorem dX12_isCart_22 : decode cX12_isCart 22 = .ok (.iconst 1, 1) := by decide +kernel
theorem dX12_isCart_23 : decode cX12_isCart 23 = .ok (.goto 4, 3) := by decide +kernel
theorem dX12_isCart_26 : decode cX12_isCart 26 = .ok (.iconst 0, 1) := by decide +kernel
theorem dX12_isCart_27 : decode cX12_isCart 27 = .ok (.ireturn, 1) := by decide +kernel
theorem dX12_isLaw_0 : decode cX12_isLaw 0 = .ok (.aload_n 0, 1) := by decide +kernel
theorem dX12_isLaw_1 : decode cX12_isLaw 1 = .ok (.getfield 442, 3) := by decide +kernel
theorem dX12_isLaw_4 : decode cX12_isLaw 4 = .ok (.ifnull 22, 3) := by decide +kernel
theorem dX12_isLaw_7 : decode cX12_isLaw 7 = .ok (.iload_n 1, 1) := by decide +kernel
theorem dX12_isLaw_8 : decode cX12_isLaw 8 = .ok (.ifCond .lt 18, 3) := by decide +kernel
theorem dX12_isLaw_11 : decode cX12_isLaw 11 = .ok (.iload_n 1, 1) := by decide +kernel
theorem dX12_isLaw_12 : decode cX12_isLaw 12 = .ok (.aload_n 0, 1) := by decide +kernel
theorem dX12_isLaw_13 : decode cX12_isLaw 13 = .ok (.getfield 442, 3) := by decide +kernel
theorem dX12_isLaw_16 : decode cX12_isLaw 16 = .ok (.getfield 199, 3) := by decide +kernel
theorem dX12_isLaw_19 : decode cX12_isLaw 19 = .ok (.if_icmp .ge 7, 3) := by decide +kernel
theorem dX12_isLaw_22 : decode cX12_isLaw 22 = .ok (.iconst 1, 1) := by decide +kernel
theorem dX12_isLaw_23 : decode cX12_isLaw 23 = .ok (.goto 4, 3) := by decide +kernel
theorem dX12_isLaw_26 : decode cX12_isLaw 26 = .ok (.iconst 0, 1) := by decide +kernel
theorem dX12_isLaw_27 : decode cX12_isLaw 27 = .ok (.ireturn, 1) := by decide +kernel
theorem dX12_isBridge_0 : decode cX12_isBridge 0 = .ok (.aload_n 0, 1) := by decide +kernel
theorem dX12_isBridge_1 : decode cX12_isBridge 1 = .ok (.getfield 442, 3) := by decide +kernel
theorem dX12_isBridge_4 : decode cX12_isBridge 4 = .ok (.ifnull 22, 3) := by decide +kernel
theorem dX12_isBridge_7 : decode cX12_isBridge 7 = .ok (.iload_n 1, 1) := by decide +kernel
theorem dX12_isBridge_8 : decode cX12_isBridge 8 = .ok (.ifCond .lt 18, 3) := by decide +kernel
theorem dX12_isBridge_11 : decode cX12_isBridge 11 = .ok (.iload_n 1, 1) := by decide +kernel
theorem dX12_isBridge_12 : decode cX12_isBridge 12 = .ok (.aload_n 0, 1) := by decide +kernel
theorem dX12_isBridge_13 : decode cX12_isBridge 13 = .ok (.getfield 442, 3) := by decide +kernel
theorem dX12_isBridge_16 : decode cX12_isBridge 16 = .ok (.getfield 297, 3) := by decide +kernel
theorem dX12_isBridge_19 : decode cX12_isBridge 19 = .ok (.if_icmp .ge 7, 3) := by decide +kernel
theorem dX12_isBridge_22 : decode cX12_isBridge 22 = .ok (.iconst 1, 1) := by decide +kernel
theorem dX12_isBridge_23 : decode cX12_isBridge 23 = .ok (.goto 4, 3) := by decide +kernel
theorem dX12_isBridge_26 : decode cX12_isBridge 26 = .ok (.iconst 0, 1) := by decide +kernel
theorem dX12_isBridge_27 : decode cX12_isBridge 27 = .ok (.ireturn, 1) := by decide +kernel
theorem dX12_isPlace_0 : decode cX12_isPlace 0 = .ok (.aload_n 0, 1) := by decide +kernel
theorem dX12_isPlace_1 : decode cX12_isPlace 1 = .ok (.getfield 442, 3) := by decide +kernel
theorem dX12_isPlace_4 : decode cX12_isPlace 4 = .ok (.ifnull 22, 3) := by decide +kernel
theorem dX12_isPlace_7 : decode cX12_isPlace 7 = .ok (.iload_n 1, 1) := by decide +kernel
theorem dX12_isPlace_8 : decode cX12_isPlace 8 = .ok (.ifCond .lt 18, 3) := by decide +kernel
theorem dX12_isPlace_11 : decode cX12_isPlace 11 = .ok (.iload_n 1, 1) := by decide +kernel
theorem dX12_isPlace_12 : decode cX12_isPlace 12 = .ok (.aload_n 0, 1) := by decide +kernel
theorem dX12_isPlace_13 : decode cX12_isPlace 13 = .ok (.getfield 442, 3) := by decide +kernel
theorem dX12_isPlace_16 : decode cX12_isPlace 16 = .ok (.getfield 196, 3) := by decide +kernel
theorem dX12_isPlace_19 : decode cX12_isPlace 19 = .ok (.if_icmp .ge 7, 3) := by decide +kernel
theorem dX12_isPlace_22 : decode cX12_isPlace 22 = .ok (.iconst 1, 1) := by decide +kernel
theorem dX12_isPlace_23 : decode cX12_isPlace 23 = .ok (.goto 4, 3) := by decide +kernel
theorem dX12_isPlace_26 : decode cX12_isPlace 26 = .ok (.iconst 0, 1) := by decide +kernel
theorem dX12_isPlace_27 : decode cX12_isPlace 27 = .ok (.ireturn, 1) := by decide +kernel
theorem dX12_isGrant_0 : decode cX12_isGrant 0 = .ok (.aload_n 0, 1) := by decide +kernel
theorem dX12_isGrant_1 : decode cX12_isGrant 1 = .ok (.getfield 442, 3) := by decide +kernel
theorem dX12_isGrant_4 : decode cX12_isGrant 4 = .ok (.ifnull 18, 3) := by decide +kernel
theorem dX12_isGrant_7 : decode cX12_isGrant 7 = .ok (.aload_n 0, 1) := by decide +kernel
theorem dX12_isGrant_8 : decode cX12_isGrant 8 = .ok (.getfield 442, 3) := by decide +kernel
theorem dX12_isGrant_11 : decode cX12_isGrant 11 = .ok (.iload_n 1, 1) := by decide +kernel
theorem dX12_isGrant_12 : decode cX12_isGrant 12 = .ok (.invokevirtual 502, 3) := by decide +kernel
theorem dX12_isGrant_15 : decode cX12_isGrant 15 = .ok (.ifCond .eq 7, 3) := by decide +kernel
theorem dX12_isGrant_18 : decode cX12_isGrant 18 = .ok (.iconst 1, 1) := by decide +kernel
theorem dX12_isGrant_19 : decode cX12_isGrant 19 = .ok (.goto 4, 3) := by decide +kernel
theorem dX12_isGrant_22 : decode cX12_isGrant 22 = .ok (.iconst 0, 1) := by decide +kernel
theorem dX12_isGrant_23 : decode cX12_isGrant 23 = .ok (.ireturn, 1) := by decide +kernel
theorem dX12_refusesOwes_0 : decode cX12_refusesOwes 0 = .ok (.aload_n 0, 1) := by decide +kernel
theorem dX12_refusesOwes_1 : decode cX12_refusesOwes 1 = .ok (.iload_n 1, 1) := by decide +kernel
theorem dX12_refusesOwes_2 : decode cX12_refusesOwes 2 = .ok (.invokevirtual 505, 3) := by decide +kernel
theorem dX12_refusesOwes_5 : decode cX12_refusesOwes 5 = .ok (.ifCond .eq 20, 3) := by decide +kernel
theorem dX12_refusesOwes_8 : decode cX12_refusesOwes 8 = .ok (.aload_n 0, 1) := by decide +kernel
theorem dX12_refusesOwes_9 : decode cX12_refusesOwes 9 = .ok (.iload_n 2, 1) := by decide +kernel
theorem dX12_refusesOwes_10 : decode cX12_refusesOwes 10 = .ok (.invokevirtual 508, 3) := by decide +kernel
theorem dX12_refusesOwes_13 : decode cX12_refusesOwes 13 = .ok (.ifCond .eq 12, 3) := by decide +kernel
theorem dX12_refusesOwes_16 : decode cX12_refusesOwes 16 = .ok (.aload_n 0, 1) := by decide +kernel
theorem dX12_refusesOwes_17 : decode cX12_refusesOwes 17 = .ok (.iload 4, 2) := by decide +kernel
theorem dX12_refusesOwes_19 : decode cX12_refusesOwes 19 = .ok (.invokevirtual 511, 3) := by decide +kernel
theorem dX12_refusesOwes_22 : decode cX12_refusesOwes 22 = .ok (.ifCond .ne 7, 3) := by decide +kernel
theorem dX12_refusesOwes_25 : decode cX12_refusesOwes 25 = .ok (.iconst 1, 1) := by decide +kernel
theorem dX12_refusesOwes_26 : decode cX12_refusesOwes 26 = .ok (.goto 19, 3) := by decide +kernel
theorem dX12_refusesOwes_29 : decode cX12_refusesOwes 29 = .ok (.iload_n 3, 1) := by decide +kernel
theorem dX12_refusesOwes_30 : decode cX12_refusesOwes 30 = .ok (.iconst 0, 1) := by decide +kernel
theorem dX12_refusesOwes_31 : decode cX12_refusesOwes 31 = .ok (.sipush 999, 3) := by decide +kernel
theorem dX12_refusesOwes_34 : decode cX12_refusesOwes 34 = .ok (.invokestatic 130, 3) := by decide +kernel
theorem dX12_refusesOwes_37 : decode cX12_refusesOwes 37 = .ok (.ifCond .eq 7, 3) := by decide +kernel
theorem dX12_refusesOwes_40 : decode cX12_refusesOwes 40 = .ok (.iconst 0, 1) := by decide +kernel
theorem dX12_refusesOwes_41 : decode cX12_refusesOwes 41 = .ok (.goto 4, 3) := by decide +kernel
theorem dX12_refusesOwes_44 : decode cX12_refusesOwes 44 = .ok (.iconst 2, 1) := by decide +kernel
theorem dX12_refusesOwes_45 : decode cX12_refusesOwes 45 = .ok (.ireturn, 1) := by decide +kernel
theorem dX12_laysFor_0 : decode cX12_laysFor 0 = .ok (.aload_n 0, 1) := by decide +kernel
theorem dX12_laysFor_1 : decode cX12_laysFor 1 = .ok (.iload_n 2, 1) := by decide +kernel
theorem dX12_laysFor_2 : decode cX12_laysFor 2 = .ok (.invokevirtual 514, 3) := by decide +kernel
theorem dX12_laysFor_5 : decode cX12_laysFor 5 = .ok (.aload_n 0, 1) := by decide +kernel
theorem dX12_laysFor_6 : decode cX12_laysFor 6 = .ok (.aload_n 0, 1) := by decide +kernel
theorem dX12_laysFor_7 : decode cX12_laysFor 7 = .ok (.getfield 442, 3) := by decide +kernel
theorem dX12_laysFor_10 : decode cX12_laysFor 10 = .ok (.getfield 414, 3) := by decide +kernel
theorem dX12_laysFor_13 : decode cX12_laysFor 13 = .ok (.iload_n 1, 1) := by decide +kernel
theorem dX12_laysFor_14 : decode cX12_laysFor 14 = .ok (.iaload, 1) := by decide +kernel
theorem dX12_laysFor_15 : decode cX12_laysFor 15 = .ok (.invokevirtual 517, 3) := by decide +kernel
theorem dX12_laysFor_18 : decode cX12_laysFor 18 = .ok (.return_, 1) := by decide +kernel
theorem dX12_owes_0 : decode cX12_owes 0 = .ok (.aload_n 0, 1) := by decide +kernel
theorem dX12_owes_1 : decode cX12_owes 1 = .ok (.iconst 0, 1) := by decide +kernel
theorem dX12_owes_2 : decode cX12_owes 2 = .ok (.putfield 54, 3) := by decide +kernel
theorem dX12_owes_5 : decode cX12_owes 5 = .ok (.aload_n 0, 1) := by decide +kernel
theorem dX12_owes_6 : decode cX12_owes 6 = .ok (.iload_n 1, 1) := by decide +kernel
theorem dX12_owes_7 : decode cX12_owes 7 = .ok (.iload_n 2, 1) := by decide +kernel
theorem dX12_owes_8 : decode cX12_owes 8 = .ok (.iload_n 3, 1) := by decide +kernel
theorem dX12_owes_9 : decode cX12_owes 9 = .ok (.iload 4, 2) := by decide +kernel
theorem dX12_owes_11 : decode cX12_owes 11 = .ok (.invokevirtual 519, 3) := by decide +kernel
theorem dX12_owes_14 : decode cX12_owes 14 = .ok (.istore 5, 2) := by decide +kernel
theorem dX12_owes_16 : decode cX12_owes 16 = .ok (.iload 5, 2) := by decide +kernel
theorem dX12_owes_18 : decode cX12_owes 18 = .ok (.ifCond .le 10, 3) := by decide +kernel
theorem dX12_owes_21 : decode cX12_owes 21 = .ok (.aload_n 0, 1) := by decide +kernel
theorem dX12_owes_22 : decode cX12_owes 22 = .ok (.iload 5, 2) := by decide +kernel
theorem dX12_owes_24 : decode cX12_owes 24 = .ok (.invokevirtual 60, 3) := by decide +kernel
theorem dX12_owes_27 : decode cX12_owes 27 = .ok (.ireturn, 1) := by decide +kernel
theorem dX12_owes_28 : decode cX12_owes 28 = .ok (.aload_n 0, 1) := by decide +kernel
theorem dX12_owes_29 : decode cX12_owes 29 = .ok (.iload_n 1, 1) := by decide +kernel
theorem dX12_owes_30 : decode cX12_owes 30 = .ok (.iload 4, 2) := by decide +kernel
theorem dX12_owes_32 : decode cX12_owes 32 = .ok (.invokevirtual 523, 3) := by decide +kernel
theorem dX12_owes_35 : decode cX12_owes 35 = .ok (.aload_n 0, 1) := by decide +kernel
theorem dX12_owes_36 : decode cX12_owes 36 = .ok (.aload_n 0, 1) := by decide +kernel
theorem dX12_owes_37 : decode cX12_owes 37 = .ok (.iload_n 1, 1) := by decide +kernel
theorem dX12_owes_38 : decode cX12_owes 38 = .ok (.iload_n 2, 1) := by decide +kernel
theorem dX12_owes_39 : decode cX12_owes 39 = .ok (.iload_n 3, 1) := by decide +kernel
theorem dX12_owes_40 : decode cX12_owes 40 = .ok (.invokevirtual 526, 3) := by decide +kernel
theorem dX12_owes_43 : decode cX12_owes 43 = .ok (.invokevirtual 65, 3) := by decide +kernel
theorem dX12_owes_46 : decode cX12_owes 46 = .ok (.ireturn, 1) := by decide +kernel
theorem dX12_wins_0 : decode cX12_wins 0 = .ok (.aload_n 0, 1) := by decide +kernel
theorem dX12_wins_1 : decode cX12_wins 1 = .ok (.iconst 0, 1) := by decide +kernel
theorem dX12_wins_2 : decode cX12_wins 2 = .ok (.putfield 54, 3) := by decide +kernel
theorem dX12_wins_5 : decode cX12_wins 5 = .ok (.aload_n 0, 1) := by decide +kernel
theorem dX12_wins_6 : decode cX12_wins 6 = .ok (.iload_n 1, 1) := by decide +kernel
theorem dX12_wins_7 : decode cX12_wins 7 = .ok (.invokevirtual 505, 3) := by decide +kernel
theorem dX12_wins_10 : decode cX12_wins 10 = .ok (.ifCond .eq 27, 3) := by decide +kernel
theorem dX12_wins_13 : decode cX12_wins 13 = .ok (.aload_n 0, 1) := by decide +kernel
theorem dX12_wins_14 : decode cX12_wins 14 = .ok (.iload 4, 2) := by decide +kernel
theorem dX12_wins_16 : decode cX12_wins 16 = .ok (.invokevirtual 511, 3) := by decide +kernel
theorem dX12_wins_19 : decode cX12_wins 19 = .ok (.ifCond .eq 18, 3) := by decide +kernel
theorem dX12_wins_22 : decode cX12_wins 22 = .ok (.iload_n 2, 1) := by decide +kernel
theorem dX12_wins_23 : decode cX12_wins 23 = .ok (.ifCond .lt 14, 3) := by decide +kernel
theorem dX12_wins_26 : decode cX12_wins 26 = .ok (.iload_n 2, 1) := by decide +kernel
theorem dX12_wins_27 : decode cX12_wins 27 = .ok (.aload_n 0, 1) := by decide +kernel
theorem dX12_wins_28 : decode cX12_wins 28 = .ok (.getfield 442, 3) := by decide +kernel
theorem dX12_wins_31 : decode cX12_wins 31 = .ok (.getfield 313, 3) := by decide +kernel
theorem dX12_wins_34 : decode cX12_wins 34 = .ok (.if_icmp .lt 9, 3) := by decide +kernel
theorem dX12_wins_37 : decode cX12_wins 37 = .ok (.aload_n 0, 1) := by decide +kernel
theorem dX12_wins_38 : decode cX12_wins 38 = .ok (.iconst 1, 1) := by decide +kernel
theorem dX12_wins_39 : decode cX12_wins 39 = .ok (.invokevirtual 60, 3) := by decide +kernel
theorem dX12_wins_42 : decode cX12_wins 42 = .ok (.ireturn, 1) := by decide +kernel
theorem dX12_wins_43 : decode cX12_wins 43 = .ok (.iload_n 3, 1) := by decide +kernel
theorem dX12_wins_44 : decode cX12_wins 44 = .ok (.iconst 0, 1) := by decide +kernel
theorem dX12_wins_45 : decode cX12_wins 45 = .ok (.sipush 999, 3) := by decide +kernel
theorem dX12_wins_48 : decode cX12_wins 48 = .ok (.invokestatic 130, 3) := by decide +kernel
theorem dX12_wins_51 : decode cX12_wins 51 = .ok (.ifCond .ne 9, 3) := by decide +kernel
theorem dX12_wins_54 : decode cX12_wins 54 = .ok (.aload_n 0, 1) := by decide +kernel
theorem dX12_wins_55 : decode cX12_wins 55 = .ok (.iconst 2, 1) := by decide +kernel
theorem dX12_wins_56 : decode cX12_wins 56 = .ok (.invokevirtual 60, 3) := by decide +kernel
theorem dX12_wins_59 : decode cX12_wins 59 = .ok (.ireturn, 1) := by decide +kernel
theorem dX12_wins_60 : decode cX12_wins 60 = .ok (.aload_n 0, 1) := by decide +kernel
theorem dX12_wins_61 : decode cX12_wins 61 = .ok (.iload_n 1, 1) := by decide +kernel
theorem dX12_wins_62 : decode cX12_wins 62 = .ok (.iload 4, 2) := by decide +kernel
theorem dX12_wins_64 : decode cX12_wins 64 = .ok (.invokevirtual 523, 3) := by decide +kernel
theorem dX12_wins_67 : decode cX12_wins 67 = .ok (.aload_n 0, 1) := by decide +kernel
theorem dX12_wins_68 : decode cX12_wins 68 = .ok (.iload_n 2, 1) := by decide +kernel
theorem dX12_wins_69 : decode cX12_wins 69 = .ok (.iload_n 1, 1) := by decide +kernel
theorem dX12_wins_70 : decode cX12_wins 70 = .ok (.iload_n 3, 1) := by decide +kernel
theorem dX12_wins_71 : decode cX12_wins 71 = .ok (.invokevirtual 498, 3) := by decide +kernel
theorem dX12_wins_74 : decode cX12_wins 74 = .ok (.istore 5, 2) := by decide +kernel
theorem dX12_wins_76 : decode cX12_wins 76 = .ok (.aload_n 0, 1) := by decide +kernel
theorem dX12_wins_77 : decode cX12_wins 77 = .ok (.iload 5, 2) := by decide +kernel
theorem dX12_wins_79 : decode cX12_wins 79 = .ok (.iconst (-1), 1) := by decide +kernel
theorem dX12_wins_80 : decode cX12_wins 80 = .ok (.if_icmp .ne 8, 3) := by decide +kernel
theorem dX12_wins_83 : decode cX12_wins 83 = .ok (.bipush (-2), 2) := by decide +kernel
theorem dX12_wins_85 : decode cX12_wins 85 = .ok (.goto 5, 3) := by decide +kernel
theorem dX12_wins_88 : decode cX12_wins 88 = .ok (.iload 5, 2) := by decide +kernel
theorem dX12_wins_90 : decode cX12_wins 90 = .ok (.invokevirtual 65, 3) := by decide +kernel
theorem dX12_wins_93 : decode cX12_wins 93 = .ok (.ireturn, 1) := by decide +kernel
theorem dX12_judge_0 : decode cX12_judge 0 = .ok (.aload_n 0, 1) := by decide +kernel
theorem dX12_judge_1 : decode cX12_judge 1 = .ok (.iconst 0, 1) := by decide +kernel
theorem dX12_judge_2 : decode cX12_judge 2 = .ok (.putfield 54, 3) := by decide +kernel
theorem dX12_judge_5 : decode cX12_judge 5 = .ok (.aload_n 0, 1) := by decide +kernel
theorem dX12_judge_6 : decode cX12_judge 6 = .ok (.iload_n 1, 1) := by decide +kernel
theorem dX12_judge_7 : decode cX12_judge 7 = .ok (.iload_n 2, 1) := by decide +kernel
theorem dX12_judge_8 : decode cX12_judge 8 = .ok (.iload_n 3, 1) := by decide +kernel
theorem dX12_judge_9 : decode cX12_judge 9 = .ok (.iload 4, 2) := by decide +kernel
theorem dX12_judge_11 : decode cX12_judge 11 = .ok (.invokevirtual 519, 3) := by decide +kernel
theorem dX12_judge_14 : decode cX12_judge 14 = .ok (.istore 6, 2) := by decide +kernel
theorem dX12_judge_16 : decode cX12_judge 16 = .ok (.iload 6, 2) := by decide +kernel
theorem dX12_judge_18 : decode cX12_judge 18 = .ok (.ifCond .le 10, 3) := by decide +kernel
theorem dX12_judge_21 : decode cX12_judge 21 = .ok (.aload_n 0, 1) := by decide +kernel
theorem dX12_judge_22 : decode cX12_judge 22 = .ok (.iload 6, 2) := by decide +kernel
theorem dX12_judge_24 : decode cX12_judge 24 = .ok (.invokevirtual 60, 3) := by decide +kernel
theorem dX12_judge_27 : decode cX12_judge 27 = .ok (.ireturn, 1) := by decide +kernel
theorem dX12_judge_28 : decode cX12_judge 28 = .ok (.aload_n 0, 1) := by decide +kernel
theorem dX12_judge_29 : decode cX12_judge 29 = .ok (.iload_n 1, 1) := by decide +kernel
theorem dX12_judge_30 : decode cX12_judge 30 = .ok (.iload 4, 2) := by decide +kernel
theorem dX12_judge_32 : decode cX12_judge 32 = .ok (.invokevirtual 523, 3) := by decide +kernel
theorem dX12_judge_35 : decode cX12_judge 35 = .ok (.aload_n 0, 1) := by decide +kernel
theorem dX12_judge_36 : decode cX12_judge 36 = .ok (.aload_n 0, 1) := by decide +kernel
theorem dX12_judge_37 : decode cX12_judge 37 = .ok (.iload_n 1, 1) := by decide +kernel
theorem dX12_judge_38 : decode cX12_judge 38 = .ok (.iload_n 2, 1) := by decide +kernel
theorem dX12_judge_39 : decode cX12_judge 39 = .ok (.iload_n 3, 1) := by decide +kernel
theorem dX12_judge_40 : decode cX12_judge 40 = .ok (.invokevirtual 526, 3) := by decide +kernel
theorem dX12_judge_43 : decode cX12_judge 43 = .ok (.iload 5, 2) := by decide +kernel
theorem dX12_judge_45 : decode cX12_judge 45 = .ok (.if_icmp .ne 7, 3) := by decide +kernel
theorem dX12_judge_48 : decode cX12_judge 48 = .ok (.iconst 1, 1) := by decide +kernel
theorem dX12_judge_49 : decode cX12_judge 49 = .ok (.goto 4, 3) := by decide +kernel
theorem dX12_judge_52 : decode cX12_judge 52 = .ok (.iconst 0, 1) := by decide +kernel
theorem dX12_judge_53 : decode cX12_judge 53 = .ok (.invokevirtual 65, 3) := by decide +kernel
theorem dX12_judge_56 : decode cX12_judge 56 = .ok (.ireturn, 1) := by decide +kernel
theorem dX12_choices_0 : decode cX12_choices 0 = .ok (.iconst 1, 1) := by decide +kernel
theorem dX12_choices_1 : decode cX12_choices 1 = .ok (.istore_n 1, 1) := by decide +kernel
theorem dX12_choices_2 : decode cX12_choices 2 = .ok (.iconst 0, 1) := by decide +kernel
theorem dX12_choices_3 : decode cX12_choices 3 = .ok (.istore_n 2, 1) := by decide +kernel
theorem dX12_choices_4 : decode cX12_choices 4 = .ok (.iload_n 2, 1) := by decide +kernel
theorem dX12_choices_5 : decode cX12_choices 5 = .ok (.bipush 16, 2) := by decide +kernel
theorem dX12_choices_7 : decode cX12_choices 7 = .ok (.if_icmp .ge 55, 3) := by decide +kernel
theorem dX12_choices_10 : decode cX12_choices 10 = .ok (.aload_n 0, 1) := by decide +kernel
theorem dX12_choices_11 : decode cX12_choices 11 = .ok (.getfield 442, 3) := by decide +kernel
theorem dX12_choices_14 : decode cX12_choices 14 = .ok (.iload_n 2, 1) := by decide +kernel
theorem dX12_choices_15 : decode cX12_choices 15 = .ok (.invokevirtual 502, 3) := by decide +kernel
theorem dX12_choices_18 : decode cX12_choices 18 = .ok (.ifCond .eq 27, 3) := by decide +kernel
theorem dX12_choices_21 : decode cX12_choices 21 = .ok (.iload_n 1, 1) := by decide +kernel
theorem dX12_choices_22 : decode cX12_choices 22 = .ok (.aload_n 0, 1) := by decide +kernel
theorem dX12_choices_23 : decode cX12_choices 23 = .ok (.getfield 442, 3) := by decide +kernel
theorem dX12_choices_26 : decode cX12_choices 26 = .ok (.getfield 310, 3) := by decide +kernel
theorem dX12_choices_29 : decode cX12_choices 29 = .ok (.iload_n 2, 1) := by decide +kernel
theorem dX12_choices_30 : decode cX12_choices 30 = .ok (.iaload, 1) := by decide +kernel
theorem dX12_choices_31 : decode cX12_choices 31 = .ok (.aload_n 0, 1) := by decide +kernel
theorem dX12_choices_32 : decode cX12_choices 32 = .ok (.getfield 442, 3) := by decide +kernel
theorem dX12_choices_35 : decode cX12_choices 35 = .ok (.getfield 307, 3) := by decide +kernel
theorem dX12_choices_38 : decode cX12_choices 38 = .ok (.iload_n 2, 1) := by decide +kernel
theorem dX12_choices_39 : decode cX12_choices 39 = .ok (.iaload, 1) := by decide +kernel
theorem dX12_choices_40 : decode cX12_choices 40 = .ok (.isub, 1) := by decide +kernel
theorem dX12_choices_41 : decode cX12_choices 41 = .ok (.iconst 1, 1) := by decide +kernel
theorem dX12_choices_42 : decode cX12_choices 42 = .ok (.iadd, 1) := by decide +kernel
theorem dX12_choices_43 : decode cX12_choices 43 = .ok (.imul, 1) := by decide +kernel
theorem dX12_choices_44 : decode cX12_choices 44 = .ok (.istore_n 1, 1) := by decide +kernel
theorem dX12_choices_45 : decode cX12_choices 45 = .ok (.iload_n 1, 1) := by decide +kernel
theorem dX12_choices_46 : decode cX12_choices 46 = .ok (.sipush 2000, 3) := by decide +kernel
theorem dX12_choices_49 : decode cX12_choices 49 = .ok (.if_icmp .le 7, 3) := by decide +kernel
theorem dX12_choices_52 : decode cX12_choices 52 = .ok (.sipush 2001, 3) := by decide +kernel
theorem dX12_choices_55 : decode cX12_choices 55 = .ok (.ireturn, 1) := by decide +kernel
theorem dX12_choices_56 : decode cX12_choices 56 = .ok (.iinc 2 1, 3) := by decide +kernel
theorem dX12_choices_59 : decode cX12_choices 59 = .ok (.goto (-55), 3) := by decide +kernel
theorem dX12_choices_62 : decode cX12_choices 62 = .ok (.iload_n 1, 1) := by decide +kernel
theorem dX12_choices_63 : decode cX12_choices 63 = .ok (.ireturn, 1) := by decide +kernel
theorem dX12_sure_0 : decode cX12_sure 0 = .ok (.aload_n 0, 1) := by decide +kernel
theorem dX12_sure_1 : decode cX12_sure 1 = .ok (.iconst 0, 1) := by decide +kernel
theorem dX12_sure_2 : decode cX12_sure 2 = .ok (.putfield 54, 3) := by decide +kernel
theorem dX12_sure_5 : decode cX12_sure 5 = .ok (.aload_n 0, 1) := by decide +kernel
theorem dX12_sure_6 : decode cX12_sure 6 = .ok (.iload_n 1, 1) := by decide +kernel
theorem dX12_sure_7 : decode cX12_sure 7 = .ok (.iload_n 2, 1) := by decide +kernel
theorem dX12_sure_8 : decode cX12_sure 8 = .ok (.iload_n 3, 1) := by decide +kernel
theorem dX12_sure_9 : decode cX12_sure 9 = .ok (.iload 4, 2) := by decide +kernel
theorem dX12_sure_11 : decode cX12_sure 11 = .ok (.invokevirtual 519, 3) := by decide +kernel
theorem dX12_sure_14 : decode cX12_sure 14 = .ok (.istore 6, 2) := by decide +kernel
theorem dX12_sure_16 : decode cX12_sure 16 = .ok (.iload 6, 2) := by decide +kernel
theorem dX12_sure_18 : decode cX12_sure 18 = .ok (.ifCond .le 10, 3) := by decide +kernel
theorem dX12_sure_21 : decode cX12_sure 21 = .ok (.aload_n 0, 1) := by decide +kernel
theorem dX12_sure_22 : decode cX12_sure 22 = .ok (.iload 6, 2) := by decide +kernel
theorem dX12_sure_24 : decode cX12_sure 24 = .ok (.invokevirtual 60, 3) := by decide +kernel
theorem dX12_sure_27 : decode cX12_sure 27 = .ok (.ireturn, 1) := by decide +kernel
theorem dX12_sure_28 : decode cX12_sure 28 = .ok (.aload_n 0, 1) := by decide +kernel
theorem dX12_sure_29 : decode cX12_sure 29 = .ok (.invokevirtual 529, 3) := by decide +kernel
theorem dX12_sure_32 : decode cX12_sure 32 = .ok (.istore 7, 2) := by decide +kernel
theorem dX12_sure_34 : decode cX12_sure 34 = .ok (.iload 7, 2) := by decide +kernel
theorem dX12_sure_36 : decode cX12_sure 36 = .ok (.sipush 2000, 3) := by decide +kernel
theorem dX12_sure_39 : decode cX12_sure 39 = .ok (.if_icmp .le 9, 3) := by decide +kernel
theorem dX12_sure_42 : decode cX12_sure 42 = .ok (.aload_n 0, 1) := by decide +kernel
theorem dX12_sure_43 : decode cX12_sure 43 = .ok (.iconst 3, 1) := by decide +kernel
theorem dX12_sure_44 : decode cX12_sure 44 = .ok (.invokevirtual 60, 3) := by decide +kernel
theorem dX12_sure_47 : decode cX12_sure 47 = .ok (.ireturn, 1) := by decide +kernel
theorem dX12_sure_48 : decode cX12_sure 48 = .ok (.aload_n 0, 1) := by decide +kernel
theorem dX12_sure_49 : decode cX12_sure 49 = .ok (.iload_n 1, 1) := by decide +kernel
theorem dX12_sure_50 : decode cX12_sure 50 = .ok (.iload 4, 2) := by decide +kernel
theorem dX12_sure_52 : decode cX12_sure 52 = .ok (.invokevirtual 523, 3) := by decide +kernel
theorem dX12_sure_55 : decode cX12_sure 55 = .ok (.aload_n 0, 1) := by decide +kernel
theorem dX12_sure_56 : decode cX12_sure 56 = .ok (.iload_n 1, 1) := by decide +kernel
theorem dX12_sure_57 : decode cX12_sure 57 = .ok (.iload_n 2, 1) := by decide +kernel
theorem dX12_sure_58 : decode cX12_sure 58 = .ok (.iload_n 3, 1) := by decide +kernel
theorem dX12_sure_59 : decode cX12_sure 59 = .ok (.invokevirtual 526, 3) := by decide +kernel
theorem dX12_sure_62 : decode cX12_sure 62 = .ok (.istore 8, 2) := by decide +kernel
theorem dX12_sure_64 : decode cX12_sure 64 = .ok (.iconst 1, 1) := by decide +kernel
theorem dX12_sure_65 : decode cX12_sure 65 = .ok (.istore 9, 2) := by decide +kernel
theorem dX12_sure_67 : decode cX12_sure 67 = .ok (.iload 9, 2) := by decide +kernel
theorem dX12_sure_69 : decode cX12_sure 69 = .ok (.iload 7, 2) := by decide +kernel
theorem dX12_sure_71 : decode cX12_sure 71 = .ok (.if_icmp .ge 134, 3) := by decide +kernel
theorem dX12_sure_74 : decode cX12_sure 74 = .ok (.iload 9, 2) := by decide +kernel
theorem dX12_sure_76 : decode cX12_sure 76 = .ok (.istore 10, 2) := by decide +kernel
theorem dX12_sure_78 : decode cX12_sure 78 = .ok (.iconst 0, 1) := by decide +kernel
theorem dX12_sure_79 : decode cX12_sure 79 = .ok (.istore 11, 2) := by decide +kernel
theorem dX12_sure_81 : decode cX12_sure 81 = .ok (.iload 11, 2) := by decide +kernel
theorem dX12_sure_83 : decode cX12_sure 83 = .ok (.bipush 16, 2) := by decide +kernel
theorem dX12_sure_85 : decode cX12_sure 85 = .ok (.if_icmp .ge 79, 3) := by decide +kernel
theorem dX12_sure_88 : decode cX12_sure 88 = .ok (.aload_n 0, 1) := by decide +kernel
theorem dX12_sure_89 : decode cX12_sure 89 = .ok (.getfield 442, 3) := by decide +kernel
theorem dX12_sure_92 : decode cX12_sure 92 = .ok (.iload 11, 2) := by decide +kernel
theorem dX12_sure_94 : decode cX12_sure 94 = .ok (.invokevirtual 502, 3) := by decide +kernel
theorem dX12_sure_97 : decode cX12_sure 97 = .ok (.ifCond .ne 6, 3) := by decide +kernel
theorem dX12_sure_100 : decode cX12_sure 100 = .ok (.goto 58, 3) := by decide +kernel
theorem dX12_sure_103 : decode cX12_sure 103 = .ok (.aload_n 0, 1) := by decide +kernel
theorem dX12_sure_104 : decode cX12_sure 104 = .ok (.getfield 442, 3) := by decide +kernel
theorem dX12_sure_107 : decode cX12_sure 107 = .ok (.getfield 310, 3) := by decide +kernel
theorem dX12_sure_110 : decode cX12_sure 110 = .ok (.iload 11, 2) := by decide +kernel
theorem dX12_sure_112 : decode cX12_sure 112 = .ok (.iaload, 1) := by decide +kernel
theorem dX12_sure_113 : decode cX12_sure 113 = .ok (.aload_n 0, 1) := by decide +kernel
theorem dX12_sure_114 : decode cX12_sure 114 = .ok (.getfield 442, 3) := by decide +kernel
theorem dX12_sure_117 : decode cX12_sure 117 = .ok (.getfield 307, 3) := by decide +kernel
theorem dX12_sure_120 : decode cX12_sure 120 = .ok (.iload 11, 2) := by decide +kernel
theorem dX12_sure_122 : decode cX12_sure 122 = .ok (.iaload, 1) := by decide +kernel
theorem dX12_sure_123 : decode cX12_sure 123 = .ok (.isub, 1) := by decide +kernel
theorem dX12_sure_124 : decode cX12_sure 124 = .ok (.iconst 1, 1) := by decide +kernel
theorem dX12_sure_125 : decode cX12_sure 125 = .ok (.iadd, 1) := by decide +kernel
theorem dX12_sure_126 : decode cX12_sure 126 = .ok (.istore 12, 2) := by decide +kernel
theorem dX12_sure_128 : decode cX12_sure 128 = .ok (.aload_n 0, 1) := by decide +kernel
theorem dX12_sure_129 : decode cX12_sure 129 = .ok (.getfield 17, 3) := by decide +kernel
theorem dX12_sure_132 : decode cX12_sure 132 = .ok (.iload 11, 2) := by decide +kernel
theorem dX12_sure_134 : decode cX12_sure 134 = .ok (.aload_n 0, 1) := by decide +kernel
theorem dX12_sure_135 : decode cX12_sure 135 = .ok (.getfield 442, 3) := by decide +kernel
theorem dX12_sure_138 : decode cX12_sure 138 = .ok (.getfield 307, 3) := by decide +kernel
theorem dX12_sure_141 : decode cX12_sure 141 = .ok (.iload 11, 2) := by decide +kernel
theorem dX12_sure_143 : decode cX12_sure 143 = .ok (.iaload, 1) := by decide +kernel
theorem dX12_sure_144 : decode cX12_sure 144 = .ok (.iload 10, 2) := by decide +kernel
theorem dX12_sure_146 : decode cX12_sure 146 = .ok (.iload 12, 2) := by decide +kernel
theorem dX12_sure_148 : decode cX12_sure 148 = .ok (.irem, 1) := by decide +kernel
theorem dX12_sure_149 : decode cX12_sure 149 = .ok (.iadd, 1) := by decide +kernel
theorem dX12_sure_150 : decode cX12_sure 150 = .ok (.iastore, 1) := by decide +kernel
theorem dX12_sure_151 : decode cX12_sure 151 = .ok (.iload 10, 2) := by decide +kernel
theorem dX12_sure_153 : decode cX12_sure 153 = .ok (.iload 12, 2) := by decide +kernel
theorem dX12_sure_155 : decode cX12_sure 155 = .ok (.idiv, 1) := by decide +kernel
theorem dX12_sure_156 : decode cX12_sure 156 = .ok (.istore 10, 2) := by decide +kernel
theorem dX12_sure_158 : decode cX12_sure 158 = .ok (.iinc 11 1, 3) := by decide +kernel
theorem dX12_sure_161 : decode cX12_sure 161 = .ok (.goto (-80), 3) := by decide +kernel
theorem dX12_sure_164 : decode cX12_sure 164 = .ok (.aload_n 0, 1) := by decide +kernel
theorem dX12_sure_165 : decode cX12_sure 165 = .ok (.iload_n 1, 1) := by decide +kernel
theorem dX12_sure_166 : decode cX12_sure 166 = .ok (.iload_n 2, 1) := by decide +kernel
theorem dX12_sure_167 : decode cX12_sure 167 = .ok (.iload_n 3, 1) := by decide +kernel
theorem dX12_sure_168 : decode cX12_sure 168 = .ok (.invokevirtual 526, 3) := by decide +kernel
theorem dX12_sure_171 : decode cX12_sure 171 = .ok (.istore 11, 2) := by decide +kernel
theorem dX12_sure_173 : decode cX12_sure 173 = .ok (.iload 5, 2) := by decide +kernel
theorem dX12_sure_175 : decode cX12_sure 175 = .ok (.ifCond .eq 13, 3) := by decide +kernel
theorem dX12_sure_178 : decode cX12_sure 178 = .ok (.iload 11, 2) := by decide +kernel
theorem dX12_sure_180 : decode cX12_sure 180 = .ok (.iload 8, 2) := by decide +kernel
theorem dX12_sure_182 : decode cX12_sure 182 = .ok (.if_icmp .le 17, 3) := by decide +kernel
theorem dX12_sure_185 : decode cX12_sure 185 = .ok (.goto 10, 3) := by decide +kernel
theorem dX12_sure_188 : decode cX12_sure 188 = .ok (.iload 11, 2) := by decide +kernel
theorem dX12_sure_190 : decode cX12_sure 190 = .ok (.iload 8, 2) := by decide +kernel
theorem dX12_sure_192 : decode cX12_sure 192 = .ok (.if_icmp .ge 7, 3) := by decide +kernel
theorem dX12_sure_195 : decode cX12_sure 195 = .ok (.iload 11, 2) := by decide +kernel
theorem dX12_sure_197 : decode cX12_sure 197 = .ok (.istore 8, 2) := by decide +kernel
theorem dX12_sure_199 : decode cX12_sure 199 = .ok (.iinc 9 1, 3) := by decide +kernel
theorem dX12_sure_202 : decode cX12_sure 202 = .ok (.goto (-135), 3) := by decide +kernel
theorem dX12_sure_205 : decode cX12_sure 205 = .ok (.aload_n 0, 1) := by decide +kernel
theorem dX12_sure_206 : decode cX12_sure 206 = .ok (.iload 8, 2) := by decide +kernel
theorem dX12_sure_208 : decode cX12_sure 208 = .ok (.invokevirtual 65, 3) := by decide +kernel
theorem dX12_sure_211 : decode cX12_sure 211 = .ok (.ireturn, 1) := by decide +kernel
theorem dX12_force_0 : decode cX12_force 0 = .ok (.aload_n 0, 1) := by decide +kernel
theorem dX12_force_1 : decode cX12_force 1 = .ok (.iconst 0, 1) := by decide +kernel
theorem dX12_force_2 : decode cX12_force 2 = .ok (.putfield 54, 3) := by decide +kernel
theorem dX12_force_5 : decode cX12_force 5 = .ok (.aload_n 0, 1) := by decide +kernel
theorem dX12_force_6 : decode cX12_force 6 = .ok (.iload_n 1, 1) := by decide +kernel
theorem dX12_force_7 : decode cX12_force 7 = .ok (.invokevirtual 532, 3) := by decide +kernel
theorem dX12_force_10 : decode cX12_force 10 = .ok (.ifCond .eq 11, 3) := by decide +kernel
theorem dX12_force_13 : decode cX12_force 13 = .ok (.aload_n 0, 1) := by decide +kernel
theorem dX12_force_14 : decode cX12_force 14 = .ok (.iload_n 3, 1) := by decide +kernel
theorem dX12_force_15 : decode cX12_force 15 = .ok (.invokevirtual 511, 3) := by decide +kernel
theorem dX12_force_18 : decode cX12_force 18 = .ok (.ifCond .ne 9, 3) := by decide +kernel
theorem dX12_force_21 : decode cX12_force 21 = .ok (.aload_n 0, 1) := by decide +kernel
theorem dX12_force_22 : decode cX12_force 22 = .ok (.iconst 1, 1) := by decide +kernel
theorem dX12_force_23 : decode cX12_force 23 = .ok (.invokevirtual 60, 3) := by decide +kernel
theorem dX12_force_26 : decode cX12_force 26 = .ok (.ireturn, 1) := by decide +kernel
theorem dX12_force_27 : decode cX12_force 27 = .ok (.iload_n 2, 1) := by decide +kernel
theorem dX12_force_28 : decode cX12_force 28 = .ok (.iconst 0, 1) := by decide +kernel
theorem dX12_force_29 : decode cX12_force 29 = .ok (.sipush 999, 3) := by decide +kernel
theorem dX12_force_32 : decode cX12_force 32 = .ok (.invokestatic 130, 3) := by decide +kernel
theorem dX12_force_35 : decode cX12_force 35 = .ok (.ifCond .ne 9, 3) := by decide +kernel
theorem dX12_force_38 : decode cX12_force 38 = .ok (.aload_n 0, 1) := by decide +kernel
theorem dX12_force_39 : decode cX12_force 39 = .ok (.iconst 2, 1) := by decide +kernel
theorem dX12_force_40 : decode cX12_force 40 = .ok (.invokevirtual 60, 3) := by decide +kernel
theorem dX12_force_43 : decode cX12_force 43 = .ok (.ireturn, 1) := by decide +kernel
theorem dX12_force_44 : decode cX12_force 44 = .ok (.aload_n 0, 1) := by decide +kernel
theorem dX12_force_45 : decode cX12_force 45 = .ok (.iload_n 3, 1) := by decide +kernel
theorem dX12_force_46 : decode cX12_force 46 = .ok (.invokevirtual 514, 3) := by decide +kernel
theorem dX12_force_49 : decode cX12_force 49 = .ok (.aload_n 0, 1) := by decide +kernel
theorem dX12_force_50 : decode cX12_force 50 = .ok (.aload_n 0, 1) := by decide +kernel
theorem dX12_force_51 : decode cX12_force 51 = .ok (.iload_n 1, 1) := by decide +kernel
theorem dX12_force_52 : decode cX12_force 52 = .ok (.iload_n 2, 1) := by decide +kernel
theorem dX12_force_53 : decode cX12_force 53 = .ok (.invokevirtual 478, 3) := by decide +kernel
theorem dX12_force_56 : decode cX12_force 56 = .ok (.ifCond .eq 7, 3) := by decide +kernel
theorem dX12_force_59 : decode cX12_force 59 = .ok (.iconst 1, 1) := by decide +kernel
theorem dX12_force_60 : decode cX12_force 60 = .ok (.goto 4, 3) := by decide +kernel
theorem dX12_force_63 : decode cX12_force 63 = .ok (.iconst 0, 1) := by decide +kernel
theorem dX12_force_64 : decode cX12_force 64 = .ok (.invokevirtual 65, 3) := by decide +kernel
theorem dX12_force_67 : decode cX12_force 67 = .ok (.ireturn, 1) := by decide +kernel
theorem dX12_chain_0 : decode cX12_chain 0 = .ok (.aload_n 0, 1) := by decide +kernel
theorem dX12_chain_1 : decode cX12_chain 1 = .ok (.iconst 0, 1) := by decide +kernel
theorem dX12_chain_2 : decode cX12_chain 2 = .ok (.putfield 54, 3) := by decide +kernel
theorem dX12_chain_5 : decode cX12_chain 5 = .ok (.aload_n 0, 1) := by decide +kernel
theorem dX12_chain_6 : decode cX12_chain 6 = .ok (.iload_n 1, 1) := by decide +kernel
theorem dX12_chain_7 : decode cX12_chain 7 = .ok (.invokevirtual 533, 3) := by decide +kernel
theorem dX12_chain_10 : decode cX12_chain 10 = .ok (.ifCond .eq 11, 3) := by decide +kernel
theorem dX12_chain_13 : decode cX12_chain 13 = .ok (.aload_n 0, 1) := by decide +kernel
theorem dX12_chain_14 : decode cX12_chain 14 = .ok (.iload_n 3, 1) := by decide +kernel
theorem dX12_chain_15 : decode cX12_chain 15 = .ok (.invokevirtual 511, 3) := by decide +kernel
theorem dX12_chain_18 : decode cX12_chain 18 = .ok (.ifCond .ne 9, 3) := by decide +kernel
theorem dX12_chain_21 : decode cX12_chain 21 = .ok (.aload_n 0, 1) := by decide +kernel
theorem dX12_chain_22 : decode cX12_chain 22 = .ok (.iconst 1, 1) := by decide +kernel
theorem dX12_chain_23 : decode cX12_chain 23 = .ok (.invokevirtual 60, 3) := by decide +kernel
theorem dX12_chain_26 : decode cX12_chain 26 = .ok (.ireturn, 1) := by decide +kernel
theorem dX12_chain_27 : decode cX12_chain 27 = .ok (.iload_n 2, 1) := by decide +kernel
theorem dX12_chain_28 : decode cX12_chain 28 = .ok (.iconst 0, 1) := by decide +kernel
theorem dX12_chain_29 : decode cX12_chain 29 = .ok (.sipush 999, 3) := by decide +kernel
theorem dX12_chain_32 : decode cX12_chain 32 = .ok (.invokestatic 130, 3) := by decide +kernel
theorem dX12_chain_35 : decode cX12_chain 35 = .ok (.ifCond .ne 9, 3) := by decide +kernel
theorem dX12_chain_38 : decode cX12_chain 38 = .ok (.aload_n 0, 1) := by decide +kernel
theorem dX12_chain_39 : decode cX12_chain 39 = .ok (.iconst 2, 1) := by decide +kernel
theorem dX12_chain_40 : decode cX12_chain 40 = .ok (.invokevirtual 60, 3) := by decide +kernel
theorem dX12_chain_43 : decode cX12_chain 43 = .ok (.ireturn, 1) := by decide +kernel
theorem dX12_chain_44 : decode cX12_chain 44 = .ok (.aload_n 0, 1) := by decide +kernel
theorem dX12_chain_45 : decode cX12_chain 45 = .ok (.iload_n 3, 1) := by decide +kernel
theorem dX12_chain_46 : decode cX12_chain 46 = .ok (.invokevirtual 514, 3) := by decide +kernel
theorem dX12_chain_49 : decode cX12_chain 49 = .ok (.aload_n 0, 1) := by decide +kernel
theorem dX12_chain_50 : decode cX12_chain 50 = .ok (.iload_n 1, 1) := by decide +kernel
theorem dX12_chain_51 : decode cX12_chain 51 = .ok (.iload_n 2, 1) := by decide +kernel
theorem dX12_chain_52 : decode cX12_chain 52 = .ok (.invokevirtual 491, 3) := by decide +kernel
theorem dX12_chain_55 : decode cX12_chain 55 = .ok (.iload 4, 2) := by decide +kernel
theorem dX12_chain_57 : decode cX12_chain 57 = .ok (.iconst 1, 1) := by decide +kernel
theorem dX12_chain_58 : decode cX12_chain 58 = .ok (.iadd, 1) := by decide +kernel
theorem dX12_chain_59 : decode cX12_chain 59 = .ok (.aload_n 0, 1) := by decide +kernel
theorem dX12_chain_60 : decode cX12_chain 60 = .ok (.getfield 475, 3) := by decide +kernel
theorem dX12_chain_63 : decode cX12_chain 63 = .ok (.if_icmp .ge 26, 3) := by decide +kernel
theorem dX12_chain_66 : decode cX12_chain 66 = .ok (.iload 4, 2) := by decide +kernel
theorem dX12_chain_68 : decode cX12_chain 68 = .ok (.iconst 1, 1) := by decide +kernel
theorem dX12_chain_69 : decode cX12_chain 69 = .ok (.iadd, 1) := by decide +kernel
theorem dX12_chain_70 : decode cX12_chain 70 = .ok (.ifCond .le 19, 3) := by decide +kernel
theorem dX12_chain_73 : decode cX12_chain 73 = .ok (.aload_n 0, 1) := by decide +kernel
theorem dX12_chain_74 : decode cX12_chain 74 = .ok (.aload_n 0, 1) := by decide +kernel
theorem dX12_chain_75 : decode cX12_chain 75 = .ok (.getfield 24, 3) := by decide +kernel
theorem dX12_chain_78 : decode cX12_chain 78 = .ok (.iload 4, 2) := by decide +kernel
theorem dX12_chain_80 : decode cX12_chain 80 = .ok (.iconst 1, 1) := by decide +kernel
theorem dX12_chain_81 : decode cX12_chain 81 = .ok (.iadd, 1) := by decide +kernel
theorem dX12_chain_82 : decode cX12_chain 82 = .ok (.iaload, 1) := by decide +kernel
theorem dX12_chain_83 : decode cX12_chain 83 = .ok (.invokevirtual 65, 3) := by decide +kernel
theorem dX12_chain_86 : decode cX12_chain 86 = .ok (.goto 8, 3) := by decide +kernel
theorem dX12_chain_89 : decode cX12_chain 89 = .ok (.aload_n 0, 1) := by decide +kernel
theorem dX12_chain_90 : decode cX12_chain 90 = .ok (.iconst 1, 1) := by decide +kernel
theorem dX12_chain_91 : decode cX12_chain 91 = .ok (.invokevirtual 60, 3) := by decide +kernel
theorem dX12_chain_94 : decode cX12_chain 94 = .ok (.ireturn, 1) := by decide +kernel
theorem dX12_ring_0 : decode cX12_ring 0 = .ok (.aload_n 0, 1) := by decide +kernel
theorem dX12_ring_1 : decode cX12_ring 1 = .ok (.iconst 0, 1) := by decide +kernel
theorem dX12_ring_2 : decode cX12_ring 2 = .ok (.putfield 54, 3) := by decide +kernel
theorem dX12_ring_5 : decode cX12_ring 5 = .ok (.aload_n 0, 1) := by decide +kernel
theorem dX12_ring_6 : decode cX12_ring 6 = .ok (.iload_n 1, 1) := by decide +kernel
theorem dX12_ring_7 : decode cX12_ring 7 = .ok (.invokevirtual 533, 3) := by decide +kernel
theorem dX12_ring_10 : decode cX12_ring 10 = .ok (.ifCond .eq 11, 3) := by decide +kernel
theorem dX12_ring_13 : decode cX12_ring 13 = .ok (.aload_n 0, 1) := by decide +kernel
theorem dX12_ring_14 : decode cX12_ring 14 = .ok (.iload_n 3, 1) := by decide +kernel
theorem dX12_ring_15 : decode cX12_ring 15 = .ok (.invokevirtual 511, 3) := by decide +kernel
theorem dX12_ring_18 : decode cX12_ring 18 = .ok (.ifCond .ne 9, 3) := by decide +kernel
theorem dX12_ring_21 : decode cX12_ring 21 = .ok (.aload_n 0, 1) := by decide +kernel
theorem dX12_ring_22 : decode cX12_ring 22 = .ok (.iconst 1, 1) := by decide +kernel
theorem dX12_ring_23 : decode cX12_ring 23 = .ok (.invokevirtual 60, 3) := by decide +kernel
theorem dX12_ring_26 : decode cX12_ring 26 = .ok (.ireturn, 1) := by decide +kernel
theorem dX12_ring_27 : decode cX12_ring 27 = .ok (.iload_n 2, 1) := by decide +kernel
theorem dX12_ring_28 : decode cX12_ring 28 = .ok (.iconst 0, 1) := by decide +kernel
theorem dX12_ring_29 : decode cX12_ring 29 = .ok (.sipush 999, 3) := by decide +kernel
theorem dX12_ring_32 : decode cX12_ring 32 = .ok (.invokestatic 130, 3) := by decide +kernel
theorem dX12_ring_35 : decode cX12_ring 35 = .ok (.ifCond .ne 9, 3) := by decide +kernel
theorem dX12_ring_38 : decode cX12_ring 38 = .ok (.aload_n 0, 1) := by decide +kernel
theorem dX12_ring_39 : decode cX12_ring 39 = .ok (.iconst 2, 1) := by decide +kernel
theorem dX12_ring_40 : decode cX12_ring 40 = .ok (.invokevirtual 60, 3) := by decide +kernel
theorem dX12_ring_43 : decode cX12_ring 43 = .ok (.ireturn, 1) := by decide +kernel
theorem dX12_ring_44 : decode cX12_ring 44 = .ok (.aload_n 0, 1) := by decide +kernel
theorem dX12_ring_45 : decode cX12_ring 45 = .ok (.iload_n 3, 1) := by decide +kernel
theorem dX12_ring_46 : decode cX12_ring 46 = .ok (.invokevirtual 514, 3) := by decide +kernel
theorem dX12_ring_49 : decode cX12_ring 49 = .ok (.aload_n 0, 1) := by decide +kernel
theorem dX12_ring_50 : decode cX12_ring 50 = .ok (.iload_n 1, 1) := by decide +kernel
theorem dX12_ring_51 : decode cX12_ring 51 = .ok (.iload_n 2, 1) := by decide +kernel
theorem dX12_ring_52 : decode cX12_ring 52 = .ok (.invokevirtual 491, 3) := by decide +kernel
theorem dX12_ring_55 : decode cX12_ring 55 = .ok (.iconst 0, 1) := by decide +kernel
theorem dX12_ring_56 : decode cX12_ring 56 = .ok (.istore 4, 2) := by decide +kernel
theorem dX12_ring_58 : decode cX12_ring 58 = .ok (.iload 4, 2) := by decide +kernel
theorem dX12_ring_60 : decode cX12_ring 60 = .ok (.aload_n 0, 1) := by decide +kernel
theorem dX12_ring_61 : decode cX12_ring 61 = .ok (.getfield 442, 3) := by decide +kernel
theorem dX12_ring_64 : decode cX12_ring 64 = .ok (.getfield 345, 3) := by decide +kernel
theorem dX12_ring_67 : decode cX12_ring 67 = .ok (.if_icmp .ge 63, 3) := by decide +kernel
theorem dX12_ring_70 : decode cX12_ring 70 = .ok (.bipush 12, 2) := by decide +kernel
theorem dX12_ring_72 : decode cX12_ring 72 = .ok (.iload 4, 2) := by decide +kernel
theorem dX12_ring_74 : decode cX12_ring 74 = .ok (.iadd, 1) := by decide +kernel
theorem dX12_ring_75 : decode cX12_ring 75 = .ok (.istore 5, 2) := by decide +kernel
theorem dX12_ring_77 : decode cX12_ring 77 = .ok (.aload_n 0, 1) := by decide +kernel
theorem dX12_ring_78 : decode cX12_ring 78 = .ok (.iload 5, 2) := by decide +kernel
theorem dX12_ring_80 : decode cX12_ring 80 = .ok (.iload_n 2, 1) := by decide +kernel
theorem dX12_ring_81 : decode cX12_ring 81 = .ok (.invokevirtual 478, 3) := by decide +kernel
theorem dX12_ring_84 : decode cX12_ring 84 = .ok (.ifCond .eq 40, 3) := by decide +kernel
theorem dX12_ring_87 : decode cX12_ring 87 = .ok (.aload_n 0, 1) := by decide +kernel
theorem dX12_ring_88 : decode cX12_ring 88 = .ok (.getfield 442, 3) := by decide +kernel
theorem dX12_ring_91 : decode cX12_ring 91 = .ok (.getfield 329, 3) := by decide +kernel
theorem dX12_ring_94 : decode cX12_ring 94 = .ok (.iload 5, 2) := by decide +kernel
theorem dX12_ring_96 : decode cX12_ring 96 = .ok (.iaload, 1) := by decide +kernel
theorem dX12_ring_97 : decode cX12_ring 97 = .ok (.iload_n 1, 1) := by decide +kernel
theorem dX12_ring_98 : decode cX12_ring 98 = .ok (.if_icmp .ne 26, 3) := by decide +kernel
theorem dX12_ring_101 : decode cX12_ring 101 = .ok (.aload_n 0, 1) := by decide +kernel
theorem dX12_ring_102 : decode cX12_ring 102 = .ok (.aload_n 0, 1) := by decide +kernel
theorem dX12_ring_103 : decode cX12_ring 103 = .ok (.getfield 442, 3) := by decide +kernel
theorem dX12_ring_106 : decode cX12_ring 106 = .ok (.getfield 327, 3) := by decide +kernel
theorem dX12_ring_109 : decode cX12_ring 109 = .ok (.iload 5, 2) := by decide +kernel
theorem dX12_ring_111 : decode cX12_ring 111 = .ok (.iaload, 1) := by decide +kernel
theorem dX12_ring_112 : decode cX12_ring 112 = .ok (.invokevirtual 482, 3) := by decide +kernel
theorem dX12_ring_115 : decode cX12_ring 115 = .ok (.ifCond .eq 9, 3) := by decide +kernel
theorem dX12_ring_118 : decode cX12_ring 118 = .ok (.aload_n 0, 1) := by decide +kernel
theorem dX12_ring_119 : decode cX12_ring 119 = .ok (.iconst 1, 1) := by decide +kernel
theorem dX12_ring_120 : decode cX12_ring 120 = .ok (.invokevirtual 65, 3) := by decide +kernel
theorem dX12_ring_123 : decode cX12_ring 123 = .ok (.ireturn, 1) := by decide +kernel
theorem dX12_ring_124 : decode cX12_ring 124 = .ok (.iinc 4 1, 3) := by decide +kernel
theorem dX12_ring_127 : decode cX12_ring 127 = .ok (.goto (-69), 3) := by decide +kernel
theorem dX12_ring_130 : decode cX12_ring 130 = .ok (.aload_n 0, 1) := by decide +kernel
theorem dX12_ring_131 : decode cX12_ring 131 = .ok (.iconst 0, 1) := by decide +kernel
theorem dX12_ring_132 : decode cX12_ring 132 = .ok (.invokevirtual 65, 3) := by decide +kernel
theorem dX12_ring_135 : decode cX12_ring 135 = .ok (.ireturn, 1) := by decide +kernel
theorem dX12_weighs_0 : decode cX12_weighs 0 = .ok (.aload_n 0, 1) := by decide +kernel
theorem dX12_weighs_1 : decode cX12_weighs 1 = .ok (.getfield 442, 3) := by decide +kernel
theorem dX12_weighs_4 : decode cX12_weighs 4 = .ok (.getfield 432, 3) := by decide +kernel
theorem dX12_weighs_7 : decode cX12_weighs 7 = .ok (.iload_n 1, 1) := by decide +kernel
theorem dX12_weighs_8 : decode cX12_weighs 8 = .ok (.iaload, 1) := by decide +kernel
theorem dX12_weighs_9 : decode cX12_weighs 9 = .ok (.istore_n 2, 1) := by decide +kernel
theorem dX12_weighs_10 : decode cX12_weighs 10 = .ok (.iconst 0, 1) := by decide +kernel
theorem dX12_weighs_11 : decode cX12_weighs 11 = .ok (.istore_n 3, 1) := by decide +kernel
theorem dX12_weighs_12 : decode cX12_weighs 12 = .ok (.iload_n 3, 1) := by decide +kernel
theorem dX12_weighs_13 : decode cX12_weighs 13 = .ok (.bipush 64, 2) := by decide +kernel
theorem dX12_weighs_15 : decode cX12_weighs 15 = .ok (.if_icmp .ge 16, 3) := by decide +kernel
theorem dX12_weighs_18 : decode cX12_weighs 18 = .ok (.aload_n 0, 1) := by decide +kernel
theorem dX12_weighs_19 : decode cX12_weighs 19 = .ok (.getfield 42, 3) := by decide +kernel
theorem dX12_weighs_22 : decode cX12_weighs 22 = .ok (.iload_n 3, 1) := by decide +kernel
theorem dX12_weighs_23 : decode cX12_weighs 23 = .ok (.iconst (-1), 1) := by decide +kernel
theorem dX12_weighs_24 : decode cX12_weighs 24 = .ok (.iastore, 1) := by decide +kernel
theorem dX12_weighs_25 : decode cX12_weighs 25 = .ok (.iinc 3 1, 3) := by decide +kernel
theorem dX12_weighs_28 : decode cX12_weighs 28 = .ok (.goto (-16), 3) := by decide +kernel
theorem dX12_weighs_31 : decode cX12_weighs 31 = .ok (.iconst 0, 1) := by decide +kernel
theorem dX12_weighs_32 : decode cX12_weighs 32 = .ok (.istore_n 3, 1) := by decide +kernel
theorem dX12_weighs_33 : decode cX12_weighs 33 = .ok (.iload_n 3, 1) := by decide +kernel
theorem dX12_weighs_34 : decode cX12_weighs 34 = .ok (.aload_n 0, 1) := by decide +kernel
theorem dX12_weighs_35 : decode cX12_weighs 35 = .ok (.getfield 442, 3) := by decide +kernel
theorem dX12_weighs_38 : decode cX12_weighs 38 = .ok (.getfield 279, 3) := by decide +kernel
theorem dX12_weighs_41 : decode cX12_weighs 41 = .ok (.if_icmp .ge 190, 3) := by decide +kernel
theorem dX12_weighs_44 : decode cX12_weighs 44 = .ok (.aload_n 0, 1) := by decide +kernel
theorem dX12_weighs_45 : decode cX12_weighs 45 = .ok (.getfield 442, 3) := by decide +kernel
theorem dX12_weighs_48 : decode cX12_weighs 48 = .ok (.getfield 288, 3) := by decide +kernel
theorem dX12_weighs_51 : decode cX12_weighs 51 = .ok (.iload_n 3, 1) := by decide +kernel
theorem dX12_weighs_52 : decode cX12_weighs 52 = .ok (.iaload, 1) := by decide +kernel
theorem dX12_weighs_53 : decode cX12_weighs 53 = .ok (.iconst (-1), 1) := by decide +kernel
theorem dX12_weighs_54 : decode cX12_weighs 54 = .ok (.if_icmp .ne 7, 3) := by decide +kernel
theorem dX12_weighs_57 : decode cX12_weighs 57 = .ok (.iconst 0, 1) := by decide +kernel
theorem dX12_weighs_58 : decode cX12_weighs 58 = .ok (.goto 18, 3) := by decide +kernel
theorem dX12_weighs_61 : decode cX12_weighs 61 = .ok (.aload_n 0, 1) := by decide +kernel
theorem dX12_weighs_62 : decode cX12_weighs 62 = .ok (.iload_n 1, 1) := by decide +kernel
theorem dX12_weighs_63 : decode cX12_weighs 63 = .ok (.aload_n 0, 1) := by decide +kernel
theorem dX12_weighs_64 : decode cX12_weighs 64 = .ok (.getfield 442, 3) := by decide +kernel
theorem dX12_weighs_67 : decode cX12_weighs 67 = .ok (.getfield 288, 3) := by decide +kernel
theorem dX12_weighs_70 : decode cX12_weighs 70 = .ok (.iload_n 3, 1) := by decide +kernel
theorem dX12_weighs_71 : decode cX12_weighs 71 = .ok (.iaload, 1) := by decide +kernel
theorem dX12_weighs_72 : decode cX12_weighs 72 = .ok (.iload_n 2, 1) := by decide +kernel
theorem dX12_weighs_73 : decode cX12_weighs 73 = .ok (.invokevirtual 526, 3) := by decide +kernel
theorem dX12_weighs_76 : decode cX12_weighs 76 = .ok (.istore 4, 2) := by decide +kernel
theorem dX12_weighs_78 : decode cX12_weighs 78 = .ok (.bipush 8, 2) := by decide +kernel
theorem dX12_weighs_80 : decode cX12_weighs 80 = .ok (.aload_n 0, 1) := by decide +kernel
theorem dX12_weighs_81 : decode cX12_weighs 81 = .ok (.getfield 442, 3) := by decide +kernel
theorem dX12_weighs_84 : decode cX12_weighs 84 = .ok (.getfield 276, 3) := by decide +kernel
theorem dX12_weighs_87 : decode cX12_weighs 87 = .ok (.iload_n 3, 1) := by decide +kernel
theorem dX12_weighs_88 : decode cX12_weighs 88 = .ok (.iaload, 1) := by decide +kernel
theorem dX12_weighs_89 : decode cX12_weighs 89 = .ok (.imul, 1) := by decide +kernel
theorem dX12_weighs_90 : decode cX12_weighs 90 = .ok (.aload_n 0, 1) := by decide +kernel
theorem dX12_weighs_91 : decode cX12_weighs 91 = .ok (.getfield 442, 3) := by decide +kernel
theorem dX12_weighs_94 : decode cX12_weighs 94 = .ok (.getfield 282, 3) := by decide +kernel
theorem dX12_weighs_97 : decode cX12_weighs 97 = .ok (.iload_n 3, 1) := by decide +kernel
theorem dX12_weighs_98 : decode cX12_weighs 98 = .ok (.iaload, 1) := by decide +kernel
theorem dX12_weighs_99 : decode cX12_weighs 99 = .ok (.iadd, 1) := by decide +kernel
theorem dX12_weighs_100 : decode cX12_weighs 100 = .ok (.istore 5, 2) := by decide +kernel
theorem dX12_weighs_102 : decode cX12_weighs 102 = .ok (.bipush 8, 2) := by decide +kernel
theorem dX12_weighs_104 : decode cX12_weighs 104 = .ok (.aload_n 0, 1) := by decide +kernel
theorem dX12_weighs_105 : decode cX12_weighs 105 = .ok (.getfield 442, 3) := by decide +kernel
theorem dX12_weighs_108 : decode cX12_weighs 108 = .ok (.getfield 282, 3) := by decide +kernel
theorem dX12_weighs_111 : decode cX12_weighs 111 = .ok (.iload_n 3, 1) := by decide +kernel
theorem dX12_weighs_112 : decode cX12_weighs 112 = .ok (.iaload, 1) := by decide +kernel
theorem dX12_weighs_113 : decode cX12_weighs 113 = .ok (.imul, 1) := by decide +kernel
theorem dX12_weighs_114 : decode cX12_weighs 114 = .ok (.aload_n 0, 1) := by decide +kernel
theorem dX12_weighs_115 : decode cX12_weighs 115 = .ok (.getfield 442, 3) := by decide +kernel
theorem dX12_weighs_118 : decode cX12_weighs 118 = .ok (.getfield 276, 3) := by decide +kernel
theorem dX12_weighs_121 : decode cX12_weighs 121 = .ok (.iload_n 3, 1) := by decide +kernel
theorem dX12_weighs_122 : decode cX12_weighs 122 = .ok (.iaload, 1) := by decide +kernel
theorem dX12_weighs_123 : decode cX12_weighs 123 = .ok (.iadd, 1) := by decide +kernel
theorem dX12_weighs_124 : decode cX12_weighs 124 = .ok (.istore 6, 2) := by decide +kernel
theorem dX12_weighs_126 : decode cX12_weighs 126 = .ok (.aload_n 0, 1) := by decide +kernel
theorem dX12_weighs_127 : decode cX12_weighs 127 = .ok (.getfield 42, 3) := by decide +kernel
theorem dX12_weighs_130 : decode cX12_weighs 130 = .ok (.iload 5, 2) := by decide +kernel
theorem dX12_weighs_132 : decode cX12_weighs 132 = .ok (.iaload, 1) := by decide +kernel
theorem dX12_weighs_133 : decode cX12_weighs 133 = .ok (.iconst (-1), 1) := by decide +kernel
theorem dX12_weighs_134 : decode cX12_weighs 134 = .ok (.if_icmp .eq 57, 3) := by decide +kernel
theorem dX12_weighs_137 : decode cX12_weighs 137 = .ok (.iload 4, 2) := by decide +kernel
theorem dX12_weighs_139 : decode cX12_weighs 139 = .ok (.aload_n 0, 1) := by decide +kernel
theorem dX12_weighs_140 : decode cX12_weighs 140 = .ok (.getfield 45, 3) := by decide +kernel
theorem dX12_weighs_143 : decode cX12_weighs 143 = .ok (.iload 5, 2) := by decide +kernel
theorem dX12_weighs_145 : decode cX12_weighs 145 = .ok (.iaload, 1) := by decide +kernel
theorem dX12_weighs_146 : decode cX12_weighs 146 = .ok (.if_icmp .gt 79, 3) := by decide +kernel
theorem dX12_weighs_149 : decode cX12_weighs 149 = .ok (.iload 4, 2) := by decide +kernel
theorem dX12_weighs_151 : decode cX12_weighs 151 = .ok (.aload_n 0, 1) := by decide +kernel
theorem dX12_weighs_152 : decode cX12_weighs 152 = .ok (.getfield 45, 3) := by decide +kernel
theorem dX12_weighs_155 : decode cX12_weighs 155 = .ok (.iload 5, 2) := by decide +kernel
theorem dX12_weighs_157 : decode cX12_weighs 157 = .ok (.iaload, 1) := by decide +kernel
theorem dX12_weighs_158 : decode cX12_weighs 158 = .ok (.if_icmp .ne 33, 3) := by decide +kernel
theorem dX12_weighs_161 : decode cX12_weighs 161 = .ok (.aload_n 0, 1) := by decide +kernel
theorem dX12_weighs_162 : decode cX12_weighs 162 = .ok (.getfield 442, 3) := by decide +kernel
theorem dX12_weighs_165 : decode cX12_weighs 165 = .ok (.getfield 285, 3) := by decide +kernel
theorem dX12_weighs_168 : decode cX12_weighs 168 = .ok (.iload_n 3, 1) := by decide +kernel
theorem dX12_weighs_169 : decode cX12_weighs 169 = .ok (.iaload, 1) := by decide +kernel
theorem dX12_weighs_170 : decode cX12_weighs 170 = .ok (.aload_n 0, 1) := by decide +kernel
theorem dX12_weighs_171 : decode cX12_weighs 171 = .ok (.getfield 442, 3) := by decide +kernel
theorem dX12_weighs_174 : decode cX12_weighs 174 = .ok (.getfield 285, 3) := by decide +kernel
theorem dX12_weighs_177 : decode cX12_weighs 177 = .ok (.aload_n 0, 1) := by decide +kernel
theorem dX12_weighs_178 : decode cX12_weighs 178 = .ok (.getfield 42, 3) := by decide +kernel
theorem dX12_weighs_181 : decode cX12_weighs 181 = .ok (.iload 5, 2) := by decide +kernel
theorem dX12_weighs_183 : decode cX12_weighs 183 = .ok (.iaload, 1) := by decide +kernel
theorem dX12_weighs_184 : decode cX12_weighs 184 = .ok (.iaload, 1) := by decide +kernel
theorem dX12_weighs_185 : decode cX12_weighs 185 = .ok (.if_icmp .lt 6, 3) := by decide +kernel
theorem dX12_weighs_188 : decode cX12_weighs 188 = .ok (.goto 37, 3) := by decide +kernel
theorem dX12_weighs_191 : decode cX12_weighs 191 = .ok (.aload_n 0, 1) := by decide +kernel
theorem dX12_weighs_192 : decode cX12_weighs 192 = .ok (.getfield 42, 3) := by decide +kernel
theorem dX12_weighs_195 : decode cX12_weighs 195 = .ok (.iload 5, 2) := by decide +kernel
theorem dX12_weighs_197 : decode cX12_weighs 197 = .ok (.iload_n 3, 1) := by decide +kernel
theorem dX12_weighs_198 : decode cX12_weighs 198 = .ok (.iastore, 1) := by decide +kernel
theorem dX12_weighs_199 : decode cX12_weighs 199 = .ok (.aload_n 0, 1) := by decide +kernel
theorem dX12_weighs_200 : decode cX12_weighs 200 = .ok (.getfield 42, 3) := by decide +kernel
theorem dX12_weighs_203 : decode cX12_weighs 203 = .ok (.iload 6, 2) := by decide +kernel
theorem dX12_weighs_205 : decode cX12_weighs 205 = .ok (.iload_n 3, 1) := by decide +kernel
theorem dX12_weighs_206 : decode cX12_weighs 206 = .ok (.iastore, 1) := by decide +kernel
theorem dX12_weighs_207 : decode cX12_weighs 207 = .ok (.aload_n 0, 1) := by decide +kernel
theorem dX12_weighs_208 : decode cX12_weighs 208 = .ok (.getfield 45, 3) := by decide +kernel
theorem dX12_weighs_211 : decode cX12_weighs 211 = .ok (.iload 5, 2) := by decide +kernel
theorem dX12_weighs_213 : decode cX12_weighs 213 = .ok (.iload 4, 2) := by decide +kernel
theorem dX12_weighs_215 : decode cX12_weighs 215 = .ok (.iastore, 1) := by decide +kernel
theorem dX12_weighs_216 : decode cX12_weighs 216 = .ok (.aload_n 0, 1) := by decide +kernel
theorem dX12_weighs_217 : decode cX12_weighs 217 = .ok (.getfield 45, 3) := by decide +kernel
theorem dX12_weighs_220 : decode cX12_weighs 220 = .ok (.iload 6, 2) := by decide +kernel
theorem dX12_weighs_222 : decode cX12_weighs 222 = .ok (.iload 4, 2) := by decide +kernel
theorem dX12_weighs_224 : decode cX12_weighs 224 = .ok (.iastore, 1) := by decide +kernel
theorem dX12_weighs_225 : decode cX12_weighs 225 = .ok (.iinc 3 1, 3) := by decide +kernel
theorem dX12_weighs_228 : decode cX12_weighs 228 = .ok (.goto (-195), 3) := by decide +kernel
theorem dX12_weighs_231 : decode cX12_weighs 231 = .ok (.return_, 1) := by decide +kernel
theorem dX12_isWalked_0 : decode cX12_isWalked 0 = .ok (.iconst 0, 1) := by decide +kernel
theorem dX12_isWalked_1 : decode cX12_isWalked 1 = .ok (.istore_n 3, 1) := by decide +kernel
theorem dX12_isWalked_2 : decode cX12_isWalked 2 = .ok (.iload_n 3, 1) := by decide +kernel
theorem dX12_isWalked_3 : decode cX12_isWalked 3 = .ok (.iload_n 2, 1) := by decide +kernel
theorem dX12_isWalked_4 : decode cX12_isWalked 4 = .ok (.if_icmp .ge 21, 3) := by decide +kernel
theorem dX12_isWalked_7 : decode cX12_isWalked 7 = .ok (.aload_n 0, 1) := by decide +kernel
theorem dX12_isWalked_8 : decode cX12_isWalked 8 = .ok (.getfield 48, 3) := by decide +kernel
theorem dX12_isWalked_11 : decode cX12_isWalked 11 = .ok (.iload_n 3, 1) := by decide +kernel
theorem dX12_isWalked_12 : decode cX12_isWalked 12 = .ok (.iaload, 1) := by decide +kernel
theorem dX12_isWalked_13 : decode cX12_isWalked 13 = .ok (.iload_n 1, 1) := by decide +kernel
theorem dX12_isWalked_14 : decode cX12_isWalked 14 = .ok (.if_icmp .ne 5, 3) := by decide +kernel
theorem dX12_isWalked_17 : decode cX12_isWalked 17 = .ok (.iconst 1, 1) := by decide +kernel
theorem dX12_isWalked_18 : decode cX12_isWalked 18 = .ok (.ireturn, 1) := by decide +kernel
theorem dX12_isWalked_19 : decode cX12_isWalked 19 = .ok (.iinc 3 1, 3) := by decide +kernel
theorem dX12_isWalked_22 : decode cX12_isWalked 22 = .ok (.goto (-20), 3) := by decide +kernel
theorem dX12_isWalked_25 : decode cX12_isWalked 25 = .ok (.iconst 0, 1) := by decide +kernel
theorem dX12_isWalked_26 : decode cX12_isWalked 26 = .ok (.ireturn, 1) := by decide +kernel
theorem dX12_arrives_0 : decode cX12_arrives 0 = .ok (.iconst 0, 1) := by decide +kernel
theorem dX12_arrives_1 : decode cX12_arrives 1 = .ok (.istore_n 2, 1) := by decide +kernel
theorem dX12_arrives_2 : decode cX12_arrives 2 = .ok (.iconst 0, 1) := by decide +kernel
theorem dX12_arrives_3 : decode cX12_arrives 3 = .ok (.istore_n 3, 1) := by decide +kernel
theorem dX12_arrives_4 : decode cX12_arrives 4 = .ok (.iconst 0, 1) := by decide +kernel
theorem dX12_arrives_5 : decode cX12_arrives 5 = .ok (.istore 4, 2) := by decide +kernel
theorem dX12_arrives_7 : decode cX12_arrives 7 = .ok (.iload 4, 2) := by decide +kernel
theorem dX12_arrives_9 : decode cX12_arrives 9 = .ok (.iconst 1, 1) := by decide +kernel
theorem dX12_arrives_10 : decode cX12_arrives 10 = .ok (.iadd, 1) := by decide +kernel
theorem dX12_arrives_11 : decode cX12_arrives 11 = .ok (.iload_n 1, 1) := by decide +kernel
theorem dX12_arrives_12 : decode cX12_arrives 12 = .ok (.if_icmp .ge 59, 3) := by decide +kernel
theorem dX12_arrives_15 : decode cX12_arrives 15 = .ok (.bipush 8, 2) := by decide +kernel
theorem dX12_arrives_17 : decode cX12_arrives 17 = .ok (.aload_n 0, 1) := by decide +kernel
theorem dX12_arrives_18 : decode cX12_arrives 18 = .ok (.getfield 48, 3) := by decide +kernel
theorem dX12_arrives_21 : decode cX12_arrives 21 = .ok (.iload 4, 2) := by decide +kernel
theorem dX12_arrives_23 : decode cX12_arrives 23 = .ok (.iaload, 1) := by decide +kernel
theorem dX12_arrives_24 : decode cX12_arrives 24 = .ok (.imul, 1) := by decide +kernel
theorem dX12_arrives_25 : decode cX12_arrives 25 = .ok (.aload_n 0, 1) := by decide +kernel
theorem dX12_arrives_26 : decode cX12_arrives 26 = .ok (.getfield 48, 3) := by decide +kernel
theorem dX12_arrives_29 : decode cX12_arrives 29 = .ok (.iload 4, 2) := by decide +kernel
theorem dX12_arrives_31 : decode cX12_arrives 31 = .ok (.iconst 1, 1) := by decide +kernel
theorem dX12_arrives_32 : decode cX12_arrives 32 = .ok (.iadd, 1) := by decide +kernel
theorem dX12_arrives_33 : decode cX12_arrives 33 = .ok (.iaload, 1) := by decide +kernel
theorem dX12_arrives_34 : decode cX12_arrives 34 = .ok (.iadd, 1) := by decide +kernel
theorem dX12_arrives_35 : decode cX12_arrives 35 = .ok (.istore 5, 2) := by decide +kernel
theorem dX12_arrives_37 : decode cX12_arrives 37 = .ok (.iload_n 2, 1) := by decide +kernel
theorem dX12_arrives_38 : decode cX12_arrives 38 = .ok (.aload_n 0, 1) := by decide +kernel
theorem dX12_arrives_39 : decode cX12_arrives 39 = .ok (.getfield 45, 3) := by decide +kernel
theorem dX12_arrives_42 : decode cX12_arrives 42 = .ok (.iload 5, 2) := by decide +kernel
theorem dX12_arrives_44 : decode cX12_arrives 44 = .ok (.iaload, 1) := by decide +kernel
theorem dX12_arrives_45 : decode cX12_arrives 45 = .ok (.iadd, 1) := by decide +kernel
theorem dX12_arrives_46 : decode cX12_arrives 46 = .ok (.istore_n 2, 1) := by decide +kernel
theorem dX12_arrives_47 : decode cX12_arrives 47 = .ok (.iload_n 3, 1) := by decide +kernel
theorem dX12_arrives_48 : decode cX12_arrives 48 = .ok (.aload_n 0, 1) := by decide +kernel
theorem dX12_arrives_49 : decode cX12_arrives 49 = .ok (.getfield 442, 3) := by decide +kernel
theorem dX12_arrives_52 : decode cX12_arrives 52 = .ok (.getfield 285, 3) := by decide +kernel
theorem dX12_arrives_55 : decode cX12_arrives 55 = .ok (.aload_n 0, 1) := by decide +kernel
theorem dX12_arrives_56 : decode cX12_arrives 56 = .ok (.getfield 42, 3) := by decide +kernel
theorem dX12_arrives_59 : decode cX12_arrives 59 = .ok (.iload 5, 2) := by decide +kernel
theorem dX12_arrives_61 : decode cX12_arrives 61 = .ok (.iaload, 1) := by decide +kernel
theorem dX12_arrives_62 : decode cX12_arrives 62 = .ok (.iaload, 1) := by decide +kernel
theorem dX12_arrives_63 : decode cX12_arrives 63 = .ok (.iadd, 1) := by decide +kernel
theorem dX12_arrives_64 : decode cX12_arrives 64 = .ok (.istore_n 3, 1) := by decide +kernel
theorem dX12_arrives_65 : decode cX12_arrives 65 = .ok (.iinc 4 1, 3) := by decide +kernel
theorem dX12_arrives_68 : decode cX12_arrives 68 = .ok (.goto (-61), 3) := by decide +kernel
theorem dX12_arrives_71 : decode cX12_arrives 71 = .ok (.aload_n 0, 1) := by decide +kernel
theorem dX12_arrives_72 : decode cX12_arrives 72 = .ok (.getfield 536, 3) := by decide +kernel
theorem dX12_arrives_75 : decode cX12_arrives 75 = .ok (.ifCond .le 28, 3) := by decide +kernel
theorem dX12_arrives_78 : decode cX12_arrives 78 = .ok (.iload_n 2, 1) := by decide +kernel
theorem dX12_arrives_79 : decode cX12_arrives 79 = .ok (.aload_n 0, 1) := by decide +kernel
theorem dX12_arrives_80 : decode cX12_arrives 80 = .ok (.getfield 539, 3) := by decide +kernel
theorem dX12_arrives_83 : decode cX12_arrives 83 = .ok (.if_icmp .gt 19, 3) := by decide +kernel
theorem dX12_arrives_86 : decode cX12_arrives 86 = .ok (.iload_n 2, 1) := by decide +kernel
theorem dX12_arrives_87 : decode cX12_arrives 87 = .ok (.aload_n 0, 1) := by decide +kernel
theorem dX12_arrives_88 : decode cX12_arrives 88 = .ok (.getfield 539, 3) := by decide +kernel
theorem dX12_arrives_91 : decode cX12_arrives 91 = .ok (.if_icmp .ne 12, 3) := by decide +kernel
theorem dX12_arrives_94 : decode cX12_arrives 94 = .ok (.iload_n 3, 1) := by decide +kernel
theorem dX12_arrives_95 : decode cX12_arrives 95 = .ok (.aload_n 0, 1) := by decide +kernel
theorem dX12_arrives_96 : decode cX12_arrives 96 = .ok (.getfield 542, 3) := by decide +kernel
theorem dX12_arrives_99 : decode cX12_arrives 99 = .ok (.if_icmp .lt 4, 3) := by decide +kernel
theorem dX12_arrives_102 : decode cX12_arrives 102 = .ok (.return_, 1) := by decide +kernel
theorem dX12_arrives_103 : decode cX12_arrives 103 = .ok (.aload_n 0, 1) := by decide +kernel
theorem dX12_arrives_104 : decode cX12_arrives 104 = .ok (.iload_n 1, 1) := by decide +kernel
theorem dX12_arrives_105 : decode cX12_arrives 105 = .ok (.putfield 536, 3) := by decide +kernel
theorem dX12_arrives_108 : decode cX12_arrives 108 = .ok (.aload_n 0, 1) := by decide +kernel
theorem dX12_arrives_109 : decode cX12_arrives 109 = .ok (.iload_n 2, 1) := by decide +kernel
theorem dX12_arrives_110 : decode cX12_arrives 110 = .ok (.putfield 539, 3) := by decide +kernel
theorem dX12_arrives_113 : decode cX12_arrives 113 = .ok (.aload_n 0, 1) := by decide +kernel
theorem dX12_arrives_114 : decode cX12_arrives 114 = .ok (.iload_n 3, 1) := by decide +kernel
theorem dX12_arrives_115 : decode cX12_arrives 115 = .ok (.putfield 542, 3) := by decide +kernel
theorem dX12_arrives_118 : decode cX12_arrives 118 = .ok (.iconst 0, 1) := by decide +kernel
theorem dX12_arrives_119 : decode cX12_arrives 119 = .ok (.istore 4, 2) := by decide +kernel
theorem dX12_arrives_121 : decode cX12_arrives 121 = .ok (.iload 4, 2) := by decide +kernel
theorem dX12_arrives_123 : decode cX12_arrives 123 = .ok (.iload_n 1, 1) := by decide +kernel
theorem dX12_arrives_124 : decode cX12_arrives 124 = .ok (.if_icmp .ge 23, 3) := by decide +kernel
theorem dX12_arrives_127 : decode cX12_arrives 127 = .ok (.aload_n 0, 1) := by decide +kernel
theorem dX12_arrives_128 : decode cX12_arrives 128 = .ok (.getfield 51, 3) := by decide +kernel
theorem dX12_arrives_131 : decode cX12_arrives 131 = .ok (.iload 4, 2) := by decide +kernel
theorem dX12_arrives_133 : decode cX12_arrives 133 = .ok (.aload_n 0, 1) := by decide +kernel
theorem dX12_arrives_134 : decode cX12_arrives 134 = .ok (.getfield 48, 3) := by decide +kernel
theorem dX12_arrives_137 : decode cX12_arrives 137 = .ok (.iload 4, 2) := by decide +kernel
theorem dX12_arrives_139 : decode cX12_arrives 139 = .ok (.iaload, 1) := by decide +kernel
theorem dX12_arrives_140 : decode cX12_arrives 140 = .ok (.iastore, 1) := by decide +kernel
theorem dX12_arrives_141 : decode cX12_arrives 141 = .ok (.iinc 4 1, 3) := by decide +kernel
theorem dX12_arrives_144 : decode cX12_arrives 144 = .ok (.goto (-23), 3) := by decide +kernel
theorem dX12_arrives_147 : decode cX12_arrives 147 = .ok (.return_, 1) := by decide +kernel
theorem dX12_finds_0 : decode cX12_finds 0 = .ok (.aload_n 0, 1) := by decide +kernel
theorem dX12_finds_1 : decode cX12_finds 1 = .ok (.iload_n 1, 1) := by decide +kernel
theorem dX12_finds_2 : decode cX12_finds 2 = .ok (.invokevirtual 545, 3) := by decide +kernel
theorem dX12_finds_5 : decode cX12_finds 5 = .ok (.aload_n 0, 1) := by decide +kernel
theorem dX12_finds_6 : decode cX12_finds 6 = .ok (.iconst 0, 1) := by decide +kernel
theorem dX12_finds_7 : decode cX12_finds 7 = .ok (.putfield 536, 3) := by decide +kernel
theorem dX12_finds_10 : decode cX12_finds 10 = .ok (.aload_n 0, 1) := by decide +kernel
theorem dX12_finds_11 : decode cX12_finds 11 = .ok (.getfield 48, 3) := by decide +kernel
theorem dX12_finds_14 : decode cX12_finds 14 = .ok (.iconst 0, 1) := by decide +kernel
theorem dX12_finds_15 : decode cX12_finds 15 = .ok (.aload_n 0, 1) := by decide +kernel
theorem dX12_finds_16 : decode cX12_finds 16 = .ok (.getfield 442, 3) := by decide +kernel
theorem dX12_finds_19 : decode cX12_finds 19 = .ok (.getfield 426, 3) := by decide +kernel
theorem dX12_finds_22 : decode cX12_finds 22 = .ok (.iload_n 1, 1) := by decide +kernel
theorem dX12_finds_23 : decode cX12_finds 23 = .ok (.iaload, 1) := by decide +kernel
theorem dX12_finds_24 : decode cX12_finds 24 = .ok (.iastore, 1) := by decide +kernel
theorem dX12_finds_25 : decode cX12_finds 25 = .ok (.iconst 1, 1) := by decide +kernel
theorem dX12_finds_26 : decode cX12_finds 26 = .ok (.istore_n 2, 1) := by decide +kernel
theorem dX12_finds_27 : decode cX12_finds 27 = .ok (.iconst 0, 1) := by decide +kernel
theorem dX12_finds_28 : decode cX12_finds 28 = .ok (.istore_n 3, 1) := by decide +kernel
theorem dX12_finds_29 : decode cX12_finds 29 = .ok (.iload_n 2, 1) := by decide +kernel
theorem dX12_finds_30 : decode cX12_finds 30 = .ok (.ifCond .le 152, 3) := by decide +kernel
theorem dX12_finds_33 : decode cX12_finds 33 = .ok (.aload_n 0, 1) := by decide +kernel
theorem dX12_finds_34 : decode cX12_finds 34 = .ok (.getfield 48, 3) := by decide +kernel
theorem dX12_finds_37 : decode cX12_finds 37 = .ok (.iload_n 2, 1) := by decide +kernel
theorem dX12_finds_38 : decode cX12_finds 38 = .ok (.iconst 1, 1) := by decide +kernel
theorem dX12_finds_39 : decode cX12_finds 39 = .ok (.isub, 1) := by decide +kernel
theorem dX12_finds_40 : decode cX12_finds 40 = .ok (.iaload, 1) := by decide +kernel
theorem dX12_finds_41 : decode cX12_finds 41 = .ok (.aload_n 0, 1) := by decide +kernel
theorem dX12_finds_42 : decode cX12_finds 42 = .ok (.getfield 442, 3) := by decide +kernel
theorem dX12_finds_45 : decode cX12_finds 45 = .ok (.getfield 429, 3) := by decide +kernel
theorem dX12_finds_48 : decode cX12_finds 48 = .ok (.iload_n 1, 1) := by decide +kernel
theorem dX12_finds_49 : decode cX12_finds 49 = .ok (.iaload, 1) := by decide +kernel
theorem dX12_finds_50 : decode cX12_finds 50 = .ok (.if_icmp .ne 7, 3) := by decide +kernel
theorem dX12_finds_53 : decode cX12_finds 53 = .ok (.iconst 1, 1) := by decide +kernel
theorem dX12_finds_54 : decode cX12_finds 54 = .ok (.goto 4, 3) := by decide +kernel
theorem dX12_finds_57 : decode cX12_finds 57 = .ok (.iconst 0, 1) := by decide +kernel
