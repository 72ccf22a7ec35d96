theorem dX0_init_0 : decode cX0_init 0 = .ok (.aload_n 0, 1) := by decide +kernel
theorem dX0_init_1 : decode cX0_init 1 = .ok (.invokespecial 3, 3) := by decide +kernel
theorem dX0_init_4 : decode cX0_init 4 = .ok (.aload_n 0, 1) := by decide +kernel
theorem dX0_init_5 : decode cX0_init 5 = .ok (.new 9, 3) := by decide +kernel
theorem dX0_init_8 : decode cX0_init 8 = .ok (.dup, 1) := by decide +kernel
theorem dX0_init_9 : decode cX0_init 9 = .ok (.invokespecial 11, 3) := by decide +kernel
theorem dX0_init_12 : decode cX0_init 12 = .ok (.putfield 12, 3) := by decide +kernel
theorem dX0_init_15 : decode cX0_init 15 = .ok (.aload_n 0, 1) := by decide +kernel
theorem dX0_init_16 : decode cX0_init 16 = .ok (.bipush 16, 2) := by decide +kernel
theorem dX0_init_18 : decode cX0_init 18 = .ok (.newarray .int, 2) := by decide +kernel
theorem dX0_init_20 : decode cX0_init 20 = .ok (.putfield 18, 3) := by decide +kernel
theorem dX0_init_23 : decode cX0_init 23 = .ok (.aload_n 0, 1) := by decide +kernel
theorem dX0_init_24 : decode cX0_init 24 = .ok (.aload_n 1, 1) := by decide +kernel
theorem dX0_init_25 : decode cX0_init 25 = .ok (.putfield 22, 3) := by decide +kernel
theorem dX0_init_28 : decode cX0_init 28 = .ok (.return_, 1) := by decide +kernel
theorem dX0_hear_0 : decode cX0_hear 0 = .ok (.aload_n 0, 1) := by decide +kernel
theorem dX0_hear_1 : decode cX0_hear 1 = .ok (.getfield 22, 3) := by decide +kernel
theorem dX0_hear_4 : decode cX0_hear 4 = .ok (.getfield 26, 3) := by decide +kernel
theorem dX0_hear_7 : decode cX0_hear 7 = .ok (.astore 4, 2) := by decide +kernel
theorem dX0_hear_9 : decode cX0_hear 9 = .ok (.aload_n 0, 1) := by decide +kernel
theorem dX0_hear_10 : decode cX0_hear 10 = .ok (.aload 4, 2) := by decide +kernel
theorem dX0_hear_12 : decode cX0_hear 12 = .ok (.iload_n 1, 1) := by decide +kernel
theorem dX0_hear_13 : decode cX0_hear 13 = .ok (.iconst 1, 1) := by decide +kernel
theorem dX0_hear_14 : decode cX0_hear 14 = .ok (.invokevirtual 32, 3) := by decide +kernel
theorem dX0_hear_17 : decode cX0_hear 17 = .ok (.putfield 38, 3) := by decide +kernel
theorem dX0_hear_20 : decode cX0_hear 20 = .ok (.aload_n 0, 1) := by decide +kernel
theorem dX0_hear_21 : decode cX0_hear 21 = .ok (.aload 4, 2) := by decide +kernel
theorem dX0_hear_23 : decode cX0_hear 23 = .ok (.iload_n 1, 1) := by decide +kernel
theorem dX0_hear_24 : decode cX0_hear 24 = .ok (.iconst 3, 1) := by decide +kernel
theorem dX0_hear_25 : decode cX0_hear 25 = .ok (.invokevirtual 32, 3) := by decide +kernel
theorem dX0_hear_28 : decode cX0_hear 28 = .ok (.putfield 42, 3) := by decide +kernel
theorem dX0_hear_31 : decode cX0_hear 31 = .ok (.aload 4, 2) := by decide +kernel
theorem dX0_hear_33 : decode cX0_hear 33 = .ok (.iload_n 1, 1) := by decide +kernel
theorem dX0_hear_34 : decode cX0_hear 34 = .ok (.iconst 2, 1) := by decide +kernel
theorem dX0_hear_35 : decode cX0_hear 35 = .ok (.invokevirtual 32, 3) := by decide +kernel
theorem dX0_hear_38 : decode cX0_hear 38 = .ok (.istore 5, 2) := by decide +kernel
theorem dX0_hear_40 : decode cX0_hear 40 = .ok (.aload_n 0, 1) := by decide +kernel
theorem dX0_hear_41 : decode cX0_hear 41 = .ok (.getfield 12, 3) := by decide +kernel
theorem dX0_hear_44 : decode cX0_hear 44 = .ok (.aload_n 0, 1) := by decide +kernel
theorem dX0_hear_45 : decode cX0_hear 45 = .ok (.getfield 22, 3) := by decide +kernel
theorem dX0_hear_48 : decode cX0_hear 48 = .ok (.iload_n 2, 1) := by decide +kernel
theorem dX0_hear_49 : decode cX0_hear 49 = .ok (.invokevirtual 45, 3) := by decide +kernel
theorem dX0_hear_52 : decode cX0_hear 52 = .ok (.iconst 0, 1) := by decide +kernel
theorem dX0_hear_53 : decode cX0_hear 53 = .ok (.istore 6, 2) := by decide +kernel
theorem dX0_hear_55 : decode cX0_hear 55 = .ok (.iload 6, 2) := by decide +kernel
theorem dX0_hear_57 : decode cX0_hear 57 = .ok (.aload 4, 2) := by decide +kernel
theorem dX0_hear_59 : decode cX0_hear 59 = .ok (.getfield 49, 3) := by decide +kernel
theorem dX0_hear_62 : decode cX0_hear 62 = .ok (.bipush 6, 2) := by decide +kernel
theorem dX0_hear_64 : decode cX0_hear 64 = .ok (.iaload, 1) := by decide +kernel
theorem dX0_hear_65 : decode cX0_hear 65 = .ok (.if_icmp .ge 137, 3) := by decide +kernel
theorem dX0_hear_68 : decode cX0_hear 68 = .ok (.bipush 6, 2) := by decide +kernel
theorem dX0_hear_70 : decode cX0_hear 70 = .ok (.iload 6, 2) := by decide +kernel
theorem dX0_hear_72 : decode cX0_hear 72 = .ok (.iadd, 1) := by decide +kernel
theorem dX0_hear_73 : decode cX0_hear 73 = .ok (.istore 7, 2) := by decide +kernel
theorem dX0_hear_75 : decode cX0_hear 75 = .ok (.aload_n 0, 1) := by decide +kernel
theorem dX0_hear_76 : decode cX0_hear 76 = .ok (.getfield 22, 3) := by decide +kernel
theorem dX0_hear_79 : decode cX0_hear 79 = .ok (.getfield 52, 3) := by decide +kernel
theorem dX0_hear_82 : decode cX0_hear 82 = .ok (.iload 7, 2) := by decide +kernel
theorem dX0_hear_84 : decode cX0_hear 84 = .ok (.baload, 1) := by decide +kernel
theorem dX0_hear_85 : decode cX0_hear 85 = .ok (.ifCond .eq 45, 3) := by decide +kernel
theorem dX0_hear_88 : decode cX0_hear 88 = .ok (.aload_n 0, 1) := by decide +kernel
theorem dX0_hear_89 : decode cX0_hear 89 = .ok (.iload 7, 2) := by decide +kernel
theorem dX0_hear_91 : decode cX0_hear 91 = .ok (.invokevirtual 56, 3) := by decide +kernel
theorem dX0_hear_94 : decode cX0_hear 94 = .ok (.ifCond .eq 36, 3) := by decide +kernel
theorem dX0_hear_97 : decode cX0_hear 97 = .ok (.aload_n 0, 1) := by decide +kernel
theorem dX0_hear_98 : decode cX0_hear 98 = .ok (.getfield 22, 3) := by decide +kernel
theorem dX0_hear_101 : decode cX0_hear 101 = .ok (.getfield 60, 3) := by decide +kernel
theorem dX0_hear_104 : decode cX0_hear 104 = .ok (.iload 7, 2) := by decide +kernel
theorem dX0_hear_106 : decode cX0_hear 106 = .ok (.iaload, 1) := by decide +kernel
theorem dX0_hear_107 : decode cX0_hear 107 = .ok (.iload 5, 2) := by decide +kernel
theorem dX0_hear_109 : decode cX0_hear 109 = .ok (.if_icmp .eq 17, 3) := by decide +kernel
theorem dX0_hear_112 : decode cX0_hear 112 = .ok (.aload_n 0, 1) := by decide +kernel
theorem dX0_hear_113 : decode cX0_hear 113 = .ok (.getfield 22, 3) := by decide +kernel
theorem dX0_hear_116 : decode cX0_hear 116 = .ok (.getfield 60, 3) := by decide +kernel
theorem dX0_hear_119 : decode cX0_hear 119 = .ok (.iload 7, 2) := by decide +kernel
theorem dX0_hear_121 : decode cX0_hear 121 = .ok (.iaload, 1) := by decide +kernel
theorem dX0_hear_122 : decode cX0_hear 122 = .ok (.iconst 2, 1) := by decide +kernel
theorem dX0_hear_123 : decode cX0_hear 123 = .ok (.if_icmp .ne 7, 3) := by decide +kernel
theorem dX0_hear_126 : decode cX0_hear 126 = .ok (.iconst 1, 1) := by decide +kernel
theorem dX0_hear_127 : decode cX0_hear 127 = .ok (.goto 4, 3) := by decide +kernel
theorem dX0_hear_130 : decode cX0_hear 130 = .ok (.iconst 0, 1) := by decide +kernel
theorem dX0_hear_131 : decode cX0_hear 131 = .ok (.istore 8, 2) := by decide +kernel
theorem dX0_hear_133 : decode cX0_hear 133 = .ok (.iload_n 3, 1) := by decide +kernel
theorem dX0_hear_134 : decode cX0_hear 134 = .ok (.aload_n 0, 1) := by decide +kernel
theorem dX0_hear_135 : decode cX0_hear 135 = .ok (.getfield 22, 3) := by decide +kernel
theorem dX0_hear_138 : decode cX0_hear 138 = .ok (.getfield 63, 3) := by decide +kernel
theorem dX0_hear_141 : decode cX0_hear 141 = .ok (.if_icmp .gt 25, 3) := by decide +kernel
theorem dX0_hear_144 : decode cX0_hear 144 = .ok (.aload_n 0, 1) := by decide +kernel
theorem dX0_hear_145 : decode cX0_hear 145 = .ok (.getfield 12, 3) := by decide +kernel
theorem dX0_hear_148 : decode cX0_hear 148 = .ok (.aload 4, 2) := by decide +kernel
theorem dX0_hear_150 : decode cX0_hear 150 = .ok (.getfield 66, 3) := by decide +kernel
theorem dX0_hear_153 : decode cX0_hear 153 = .ok (.iload 7, 2) := by decide +kernel
theorem dX0_hear_155 : decode cX0_hear 155 = .ok (.iaload, 1) := by decide +kernel
theorem dX0_hear_156 : decode cX0_hear 156 = .ok (.invokevirtual 69, 3) := by decide +kernel
theorem dX0_hear_159 : decode cX0_hear 159 = .ok (.ifCond .eq 7, 3) := by decide +kernel
theorem dX0_hear_162 : decode cX0_hear 162 = .ok (.iconst 1, 1) := by decide +kernel
theorem dX0_hear_163 : decode cX0_hear 163 = .ok (.goto 4, 3) := by decide +kernel
theorem dX0_hear_166 : decode cX0_hear 166 = .ok (.iconst 0, 1) := by decide +kernel
theorem dX0_hear_167 : decode cX0_hear 167 = .ok (.istore 9, 2) := by decide +kernel
theorem dX0_hear_169 : decode cX0_hear 169 = .ok (.aload_n 0, 1) := by decide +kernel
theorem dX0_hear_170 : decode cX0_hear 170 = .ok (.getfield 18, 3) := by decide +kernel
theorem dX0_hear_173 : decode cX0_hear 173 = .ok (.iload 7, 2) := by decide +kernel
theorem dX0_hear_175 : decode cX0_hear 175 = .ok (.iload 8, 2) := by decide +kernel
theorem dX0_hear_177 : decode cX0_hear 177 = .ok (.ifCond .eq 17, 3) := by decide +kernel
theorem dX0_hear_180 : decode cX0_hear 180 = .ok (.iload 9, 2) := by decide +kernel
theorem dX0_hear_182 : decode cX0_hear 182 = .ok (.ifCond .eq 12, 3) := by decide +kernel
theorem dX0_hear_185 : decode cX0_hear 185 = .ok (.aload_n 0, 1) := by decide +kernel
theorem dX0_hear_186 : decode cX0_hear 186 = .ok (.iload 7, 2) := by decide +kernel
theorem dX0_hear_188 : decode cX0_hear 188 = .ok (.invokevirtual 72, 3) := by decide +kernel
theorem dX0_hear_191 : decode cX0_hear 191 = .ok (.goto 4, 3) := by decide +kernel
theorem dX0_hear_194 : decode cX0_hear 194 = .ok (.iconst (-1), 1) := by decide +kernel
theorem dX0_hear_195 : decode cX0_hear 195 = .ok (.iastore, 1) := by decide +kernel
theorem dX0_hear_196 : decode cX0_hear 196 = .ok (.iinc 6 1, 3) := by decide +kernel
theorem dX0_hear_199 : decode cX0_hear 199 = .ok (.goto (-144), 3) := by decide +kernel
theorem dX0_hear_202 : decode cX0_hear 202 = .ok (.return_, 1) := by decide +kernel
theorem dX0_isOn_0 : decode cX0_isOn 0 = .ok (.aload_n 0, 1) := by decide +kernel
theorem dX0_isOn_1 : decode cX0_isOn 1 = .ok (.getfield 22, 3) := by decide +kernel
theorem dX0_isOn_4 : decode cX0_isOn 4 = .ok (.getfield 76, 3) := by decide +kernel
theorem dX0_isOn_7 : decode cX0_isOn 7 = .ok (.iload_n 1, 1) := by decide +kernel
theorem dX0_isOn_8 : decode cX0_isOn 8 = .ok (.iaload, 1) := by decide +kernel
theorem dX0_isOn_9 : decode cX0_isOn 9 = .ok (.aload_n 0, 1) := by decide +kernel
theorem dX0_isOn_10 : decode cX0_isOn 10 = .ok (.getfield 38, 3) := by decide +kernel
theorem dX0_isOn_13 : decode cX0_isOn 13 = .ok (.if_icmp .eq 17, 3) := by decide +kernel
theorem dX0_isOn_16 : decode cX0_isOn 16 = .ok (.aload_n 0, 1) := by decide +kernel
theorem dX0_isOn_17 : decode cX0_isOn 17 = .ok (.getfield 22, 3) := by decide +kernel
theorem dX0_isOn_20 : decode cX0_isOn 20 = .ok (.getfield 76, 3) := by decide +kernel
theorem dX0_isOn_23 : decode cX0_isOn 23 = .ok (.iload_n 1, 1) := by decide +kernel
theorem dX0_isOn_24 : decode cX0_isOn 24 = .ok (.iaload, 1) := by decide +kernel
theorem dX0_isOn_25 : decode cX0_isOn 25 = .ok (.bipush (-2), 2) := by decide +kernel
theorem dX0_isOn_27 : decode cX0_isOn 27 = .ok (.if_icmp .ne 7, 3) := by decide +kernel
theorem dX0_isOn_30 : decode cX0_isOn 30 = .ok (.iconst 1, 1) := by decide +kernel
theorem dX0_isOn_31 : decode cX0_isOn 31 = .ok (.goto 4, 3) := by decide +kernel
theorem dX0_isOn_34 : decode cX0_isOn 34 = .ok (.iconst 0, 1) := by decide +kernel
theorem dX0_isOn_35 : decode cX0_isOn 35 = .ok (.ireturn, 1) := by decide +kernel
theorem dX0_dayOfFreedom_0 : decode cX0_dayOfFreedom 0 = .ok (.aload_n 0, 1) := by decide +kernel
theorem dX0_dayOfFreedom_1 : decode cX0_dayOfFreedom 1 = .ok (.getfield 12, 3) := by decide +kernel
theorem dX0_dayOfFreedom_4 : decode cX0_dayOfFreedom 4 = .ok (.getfield 78, 3) := by decide +kernel
theorem dX0_dayOfFreedom_7 : decode cX0_dayOfFreedom 7 = .ok (.aload_n 0, 1) := by decide +kernel
theorem dX0_dayOfFreedom_8 : decode cX0_dayOfFreedom 8 = .ok (.getfield 22, 3) := by decide +kernel
theorem dX0_dayOfFreedom_11 : decode cX0_dayOfFreedom 11 = .ok (.getfield 26, 3) := by decide +kernel
theorem dX0_dayOfFreedom_14 : decode cX0_dayOfFreedom 14 = .ok (.getfield 66, 3) := by decide +kernel
theorem dX0_dayOfFreedom_17 : decode cX0_dayOfFreedom 17 = .ok (.iload_n 1, 1) := by decide +kernel
theorem dX0_dayOfFreedom_18 : decode cX0_dayOfFreedom 18 = .ok (.iaload, 1) := by decide +kernel
theorem dX0_dayOfFreedom_19 : decode cX0_dayOfFreedom 19 = .ok (.iaload, 1) := by decide +kernel
theorem dX0_dayOfFreedom_20 : decode cX0_dayOfFreedom 20 = .ok (.istore_n 2, 1) := by decide +kernel
theorem dX0_dayOfFreedom_21 : decode cX0_dayOfFreedom 21 = .ok (.aload_n 0, 1) := by decide +kernel
theorem dX0_dayOfFreedom_22 : decode cX0_dayOfFreedom 22 = .ok (.getfield 22, 3) := by decide +kernel
theorem dX0_dayOfFreedom_25 : decode cX0_dayOfFreedom 25 = .ok (.getfield 81, 3) := by decide +kernel
theorem dX0_dayOfFreedom_28 : decode cX0_dayOfFreedom 28 = .ok (.iload_n 1, 1) := by decide +kernel
theorem dX0_dayOfFreedom_29 : decode cX0_dayOfFreedom 29 = .ok (.iaload, 1) := by decide +kernel
theorem dX0_dayOfFreedom_30 : decode cX0_dayOfFreedom 30 = .ok (.istore_n 3, 1) := by decide +kernel
theorem dX0_dayOfFreedom_31 : decode cX0_dayOfFreedom 31 = .ok (.iload_n 2, 1) := by decide +kernel
theorem dX0_dayOfFreedom_32 : decode cX0_dayOfFreedom 32 = .ok (.ifCond .lt 13, 3) := by decide +kernel
theorem dX0_dayOfFreedom_35 : decode cX0_dayOfFreedom 35 = .ok (.aload_n 0, 1) := by decide +kernel
theorem dX0_dayOfFreedom_36 : decode cX0_dayOfFreedom 36 = .ok (.getfield 22, 3) := by decide +kernel
theorem dX0_dayOfFreedom_39 : decode cX0_dayOfFreedom 39 = .ok (.getfield 84, 3) := by decide +kernel
theorem dX0_dayOfFreedom_42 : decode cX0_dayOfFreedom 42 = .ok (.ifCond .eq 7, 3) := by decide +kernel
theorem dX0_dayOfFreedom_45 : decode cX0_dayOfFreedom 45 = .ok (.iload_n 3, 1) := by decide +kernel
theorem dX0_dayOfFreedom_46 : decode cX0_dayOfFreedom 46 = .ok (.goto 16, 3) := by decide +kernel
theorem dX0_dayOfFreedom_49 : decode cX0_dayOfFreedom 49 = .ok (.iload_n 3, 1) := by decide +kernel
theorem dX0_dayOfFreedom_50 : decode cX0_dayOfFreedom 50 = .ok (.aload_n 0, 1) := by decide +kernel
theorem dX0_dayOfFreedom_51 : decode cX0_dayOfFreedom 51 = .ok (.getfield 22, 3) := by decide +kernel
theorem dX0_dayOfFreedom_54 : decode cX0_dayOfFreedom 54 = .ok (.getfield 81, 3) := by decide +kernel
theorem dX0_dayOfFreedom_57 : decode cX0_dayOfFreedom 57 = .ok (.iload_n 2, 1) := by decide +kernel
theorem dX0_dayOfFreedom_58 : decode cX0_dayOfFreedom 58 = .ok (.iaload, 1) := by decide +kernel
theorem dX0_dayOfFreedom_59 : decode cX0_dayOfFreedom 59 = .ok (.invokestatic 88, 3) := by decide +kernel
theorem dX0_dayOfFreedom_62 : decode cX0_dayOfFreedom 62 = .ok (.ireturn, 1) := by decide +kernel
theorem dX0_winner_0 : decode cX0_winner 0 = .ok (.aload_n 0, 1) := by decide +kernel
theorem dX0_winner_1 : decode cX0_winner 1 = .ok (.getfield 22, 3) := by decide +kernel
theorem dX0_winner_4 : decode cX0_winner 4 = .ok (.getfield 76, 3) := by decide +kernel
theorem dX0_winner_7 : decode cX0_winner 7 = .ok (.iload_n 1, 1) := by decide +kernel
theorem dX0_winner_8 : decode cX0_winner 8 = .ok (.iaload, 1) := by decide +kernel
theorem dX0_winner_9 : decode cX0_winner 9 = .ok (.bipush (-2), 2) := by decide +kernel
theorem dX0_winner_11 : decode cX0_winner 11 = .ok (.if_icmp .eq 7, 3) := by decide +kernel
theorem dX0_winner_14 : decode cX0_winner 14 = .ok (.iconst 1, 1) := by decide +kernel
theorem dX0_winner_15 : decode cX0_winner 15 = .ok (.goto 4, 3) := by decide +kernel
theorem dX0_winner_18 : decode cX0_winner 18 = .ok (.iconst 0, 1) := by decide +kernel
theorem dX0_winner_19 : decode cX0_winner 19 = .ok (.istore_n 2, 1) := by decide +kernel
theorem dX0_winner_20 : decode cX0_winner 20 = .ok (.iconst 0, 1) := by decide +kernel
theorem dX0_winner_21 : decode cX0_winner 21 = .ok (.istore_n 3, 1) := by decide +kernel
theorem dX0_winner_22 : decode cX0_winner 22 = .ok (.iload_n 3, 1) := by decide +kernel
theorem dX0_winner_23 : decode cX0_winner 23 = .ok (.aload_n 0, 1) := by decide +kernel
theorem dX0_winner_24 : decode cX0_winner 24 = .ok (.getfield 22, 3) := by decide +kernel
theorem dX0_winner_27 : decode cX0_winner 27 = .ok (.getfield 26, 3) := by decide +kernel
theorem dX0_winner_30 : decode cX0_winner 30 = .ok (.getfield 49, 3) := by decide +kernel
theorem dX0_winner_33 : decode cX0_winner 33 = .ok (.bipush 6, 2) := by decide +kernel
theorem dX0_winner_35 : decode cX0_winner 35 = .ok (.iaload, 1) := by decide +kernel
theorem dX0_winner_36 : decode cX0_winner 36 = .ok (.if_icmp .ge 139, 3) := by decide +kernel
theorem dX0_winner_39 : decode cX0_winner 39 = .ok (.bipush 6, 2) := by decide +kernel
theorem dX0_winner_41 : decode cX0_winner 41 = .ok (.iload_n 3, 1) := by decide +kernel
theorem dX0_winner_42 : decode cX0_winner 42 = .ok (.iadd, 1) := by decide +kernel
theorem dX0_winner_43 : decode cX0_winner 43 = .ok (.istore 4, 2) := by decide +kernel
theorem dX0_winner_45 : decode cX0_winner 45 = .ok (.aload_n 0, 1) := by decide +kernel
theorem dX0_winner_46 : decode cX0_winner 46 = .ok (.getfield 18, 3) := by decide +kernel
theorem dX0_winner_49 : decode cX0_winner 49 = .ok (.iload 4, 2) := by decide +kernel
theorem dX0_winner_51 : decode cX0_winner 51 = .ok (.iaload, 1) := by decide +kernel
theorem dX0_winner_52 : decode cX0_winner 52 = .ok (.istore 5, 2) := by decide +kernel
theorem dX0_winner_54 : decode cX0_winner 54 = .ok (.iload 5, 2) := by decide +kernel
theorem dX0_winner_56 : decode cX0_winner 56 = .ok (.iconst (-1), 1) := by decide +kernel
theorem dX0_winner_57 : decode cX0_winner 57 = .ok (.if_icmp .ne 6, 3) := by decide +kernel
theorem dX0_winner_60 : decode cX0_winner 60 = .ok (.goto 109, 3) := by decide +kernel
theorem dX0_winner_63 : decode cX0_winner 63 = .ok (.aload_n 0, 1) := by decide +kernel
theorem dX0_winner_64 : decode cX0_winner 64 = .ok (.getfield 22, 3) := by decide +kernel
theorem dX0_winner_67 : decode cX0_winner 67 = .ok (.getfield 76, 3) := by decide +kernel
theorem dX0_winner_70 : decode cX0_winner 70 = .ok (.iload 4, 2) := by decide +kernel
theorem dX0_winner_72 : decode cX0_winner 72 = .ok (.iaload, 1) := by decide +kernel
theorem dX0_winner_73 : decode cX0_winner 73 = .ok (.bipush (-2), 2) := by decide +kernel
theorem dX0_winner_75 : decode cX0_winner 75 = .ok (.if_icmp .eq 7, 3) := by decide +kernel
theorem dX0_winner_78 : decode cX0_winner 78 = .ok (.iconst 1, 1) := by decide +kernel
theorem dX0_winner_79 : decode cX0_winner 79 = .ok (.goto 4, 3) := by decide +kernel
theorem dX0_winner_82 : decode cX0_winner 82 = .ok (.iconst 0, 1) := by decide +kernel
theorem dX0_winner_83 : decode cX0_winner 83 = .ok (.istore 6, 2) := by decide +kernel
theorem dX0_winner_85 : decode cX0_winner 85 = .ok (.aload_n 0, 1) := by decide +kernel
theorem dX0_winner_86 : decode cX0_winner 86 = .ok (.getfield 22, 3) := by decide +kernel
theorem dX0_winner_89 : decode cX0_winner 89 = .ok (.getfield 93, 3) := by decide +kernel
theorem dX0_winner_92 : decode cX0_winner 92 = .ok (.ifCond .eq 16, 3) := by decide +kernel
theorem dX0_winner_95 : decode cX0_winner 95 = .ok (.iload 6, 2) := by decide +kernel
theorem dX0_winner_97 : decode cX0_winner 97 = .ok (.iload_n 2, 1) := by decide +kernel
theorem dX0_winner_98 : decode cX0_winner 98 = .ok (.if_icmp .eq 10, 3) := by decide +kernel
theorem dX0_winner_101 : decode cX0_winner 101 = .ok (.iload 6, 2) := by decide +kernel
theorem dX0_winner_103 : decode cX0_winner 103 = .ok (.istore 7, 2) := by decide +kernel
theorem dX0_winner_105 : decode cX0_winner 105 = .ok (.goto 56, 3) := by decide +kernel
theorem dX0_winner_108 : decode cX0_winner 108 = .ok (.aload_n 0, 1) := by decide +kernel
theorem dX0_winner_109 : decode cX0_winner 109 = .ok (.getfield 22, 3) := by decide +kernel
theorem dX0_winner_112 : decode cX0_winner 112 = .ok (.getfield 96, 3) := by decide +kernel
theorem dX0_winner_115 : decode cX0_winner 115 = .ok (.ifCond .eq 25, 3) := by decide +kernel
theorem dX0_winner_118 : decode cX0_winner 118 = .ok (.iload 5, 2) := by decide +kernel
theorem dX0_winner_120 : decode cX0_winner 120 = .ok (.aload_n 0, 1) := by decide +kernel
theorem dX0_winner_121 : decode cX0_winner 121 = .ok (.getfield 22, 3) := by decide +kernel
theorem dX0_winner_124 : decode cX0_winner 124 = .ok (.getfield 81, 3) := by decide +kernel
theorem dX0_winner_127 : decode cX0_winner 127 = .ok (.iload_n 1, 1) := by decide +kernel
theorem dX0_winner_128 : decode cX0_winner 128 = .ok (.iaload, 1) := by decide +kernel
theorem dX0_winner_129 : decode cX0_winner 129 = .ok (.if_icmp .lt 7, 3) := by decide +kernel
theorem dX0_winner_132 : decode cX0_winner 132 = .ok (.iconst 1, 1) := by decide +kernel
theorem dX0_winner_133 : decode cX0_winner 133 = .ok (.goto 26, 3) := by decide +kernel
theorem dX0_winner_136 : decode cX0_winner 136 = .ok (.iconst 0, 1) := by decide +kernel
theorem dX0_winner_137 : decode cX0_winner 137 = .ok (.goto 22, 3) := by decide +kernel
theorem dX0_winner_140 : decode cX0_winner 140 = .ok (.iload 5, 2) := by decide +kernel
theorem dX0_winner_142 : decode cX0_winner 142 = .ok (.aload_n 0, 1) := by decide +kernel
theorem dX0_winner_143 : decode cX0_winner 143 = .ok (.getfield 22, 3) := by decide +kernel
theorem dX0_winner_146 : decode cX0_winner 146 = .ok (.getfield 81, 3) := by decide +kernel
theorem dX0_winner_149 : decode cX0_winner 149 = .ok (.iload_n 1, 1) := by decide +kernel
theorem dX0_winner_150 : decode cX0_winner 150 = .ok (.iaload, 1) := by decide +kernel
theorem dX0_winner_151 : decode cX0_winner 151 = .ok (.if_icmp .gt 7, 3) := by decide +kernel
theorem dX0_winner_154 : decode cX0_winner 154 = .ok (.iconst 1, 1) := by decide +kernel
theorem dX0_winner_155 : decode cX0_winner 155 = .ok (.goto 4, 3) := by decide +kernel
theorem dX0_winner_158 : decode cX0_winner 158 = .ok (.iconst 0, 1) := by decide +kernel
theorem dX0_winner_159 : decode cX0_winner 159 = .ok (.istore 7, 2) := by decide +kernel
theorem dX0_winner_161 : decode cX0_winner 161 = .ok (.iload 7, 2) := by decide +kernel
theorem dX0_winner_163 : decode cX0_winner 163 = .ok (.ifCond .eq 6, 3) := by decide +kernel
theorem dX0_winner_166 : decode cX0_winner 166 = .ok (.iload 4, 2) := by decide +kernel
theorem dX0_winner_168 : decode cX0_winner 168 = .ok (.ireturn, 1) := by decide +kernel
theorem dX0_winner_169 : decode cX0_winner 169 = .ok (.iinc 3 1, 3) := by decide +kernel
theorem dX0_winner_172 : decode cX0_winner 172 = .ok (.goto (-150), 3) := by decide +kernel
theorem dX0_winner_175 : decode cX0_winner 175 = .ok (.bipush (-2), 2) := by decide +kernel
theorem dX0_winner_177 : decode cX0_winner 177 = .ok (.ireturn, 1) := by decide +kernel
theorem dX0_owedAt_0 : decode cX0_owedAt 0 = .ok (.iconst 0, 1) := by decide +kernel
theorem dX0_owedAt_1 : decode cX0_owedAt 1 = .ok (.istore_n 2, 1) := by decide +kernel
theorem dX0_owedAt_2 : decode cX0_owedAt 2 = .ok (.iconst 0, 1) := by decide +kernel
theorem dX0_owedAt_3 : decode cX0_owedAt 3 = .ok (.istore_n 3, 1) := by decide +kernel
theorem dX0_owedAt_4 : decode cX0_owedAt 4 = .ok (.iload_n 3, 1) := by decide +kernel
theorem dX0_owedAt_5 : decode cX0_owedAt 5 = .ok (.aload_n 0, 1) := by decide +kernel
theorem dX0_owedAt_6 : decode cX0_owedAt 6 = .ok (.getfield 22, 3) := by decide +kernel
theorem dX0_owedAt_9 : decode cX0_owedAt 9 = .ok (.getfield 26, 3) := by decide +kernel
theorem dX0_owedAt_12 : decode cX0_owedAt 12 = .ok (.getfield 49, 3) := by decide +kernel
theorem dX0_owedAt_15 : decode cX0_owedAt 15 = .ok (.iconst 5, 1) := by decide +kernel
theorem dX0_owedAt_16 : decode cX0_owedAt 16 = .ok (.iaload, 1) := by decide +kernel
theorem dX0_owedAt_17 : decode cX0_owedAt 17 = .ok (.if_icmp .ge 72, 3) := by decide +kernel
theorem dX0_owedAt_20 : decode cX0_owedAt 20 = .ok (.aload_n 0, 1) := by decide +kernel
theorem dX0_owedAt_21 : decode cX0_owedAt 21 = .ok (.getfield 22, 3) := by decide +kernel
theorem dX0_owedAt_24 : decode cX0_owedAt 24 = .ok (.getfield 26, 3) := by decide +kernel
theorem dX0_owedAt_27 : decode cX0_owedAt 27 = .ok (.getfield 66, 3) := by decide +kernel
theorem dX0_owedAt_30 : decode cX0_owedAt 30 = .ok (.iload_n 3, 1) := by decide +kernel
theorem dX0_owedAt_31 : decode cX0_owedAt 31 = .ok (.iaload, 1) := by decide +kernel
theorem dX0_owedAt_32 : decode cX0_owedAt 32 = .ok (.iload_n 1, 1) := by decide +kernel
theorem dX0_owedAt_33 : decode cX0_owedAt 33 = .ok (.if_icmp .ne 50, 3) := by decide +kernel
theorem dX0_owedAt_36 : decode cX0_owedAt 36 = .ok (.aload_n 0, 1) := by decide +kernel
theorem dX0_owedAt_37 : decode cX0_owedAt 37 = .ok (.getfield 22, 3) := by decide +kernel
theorem dX0_owedAt_40 : decode cX0_owedAt 40 = .ok (.getfield 52, 3) := by decide +kernel
theorem dX0_owedAt_43 : decode cX0_owedAt 43 = .ok (.iload_n 3, 1) := by decide +kernel
theorem dX0_owedAt_44 : decode cX0_owedAt 44 = .ok (.baload, 1) := by decide +kernel
theorem dX0_owedAt_45 : decode cX0_owedAt 45 = .ok (.ifCond .eq 38, 3) := by decide +kernel
theorem dX0_owedAt_48 : decode cX0_owedAt 48 = .ok (.aload_n 0, 1) := by decide +kernel
theorem dX0_owedAt_49 : decode cX0_owedAt 49 = .ok (.iload_n 3, 1) := by decide +kernel
theorem dX0_owedAt_50 : decode cX0_owedAt 50 = .ok (.invokevirtual 56, 3) := by decide +kernel
theorem dX0_owedAt_53 : decode cX0_owedAt 53 = .ok (.ifCond .eq 30, 3) := by decide +kernel
theorem dX0_owedAt_56 : decode cX0_owedAt 56 = .ok (.aload_n 0, 1) := by decide +kernel
theorem dX0_owedAt_57 : decode cX0_owedAt 57 = .ok (.iload_n 3, 1) := by decide +kernel
theorem dX0_owedAt_58 : decode cX0_owedAt 58 = .ok (.invokevirtual 99, 3) := by decide +kernel
theorem dX0_owedAt_61 : decode cX0_owedAt 61 = .ok (.bipush (-2), 2) := by decide +kernel
theorem dX0_owedAt_63 : decode cX0_owedAt 63 = .ok (.if_icmp .ne 20, 3) := by decide +kernel
theorem dX0_owedAt_66 : decode cX0_owedAt 66 = .ok (.iload_n 2, 1) := by decide +kernel
theorem dX0_owedAt_67 : decode cX0_owedAt 67 = .ok (.aload_n 0, 1) := by decide +kernel
theorem dX0_owedAt_68 : decode cX0_owedAt 68 = .ok (.getfield 22, 3) := by decide +kernel
theorem dX0_owedAt_71 : decode cX0_owedAt 71 = .ok (.getfield 60, 3) := by decide +kernel
theorem dX0_owedAt_74 : decode cX0_owedAt 74 = .ok (.iload_n 3, 1) := by decide +kernel
theorem dX0_owedAt_75 : decode cX0_owedAt 75 = .ok (.iaload, 1) := by decide +kernel
theorem dX0_owedAt_76 : decode cX0_owedAt 76 = .ok (.aload_n 0, 1) := by decide +kernel
theorem dX0_owedAt_77 : decode cX0_owedAt 77 = .ok (.getfield 42, 3) := by decide +kernel
theorem dX0_owedAt_80 : decode cX0_owedAt 80 = .ok (.imul, 1) := by decide +kernel
theorem dX0_owedAt_81 : decode cX0_owedAt 81 = .ok (.iadd, 1) := by decide +kernel
theorem dX0_owedAt_82 : decode cX0_owedAt 82 = .ok (.istore_n 2, 1) := by decide +kernel
theorem dX0_owedAt_83 : decode cX0_owedAt 83 = .ok (.iinc 3 1, 3) := by decide +kernel
theorem dX0_owedAt_86 : decode cX0_owedAt 86 = .ok (.goto (-82), 3) := by decide +kernel
theorem dX0_owedAt_89 : decode cX0_owedAt 89 = .ok (.iload_n 2, 1) := by decide +kernel
theorem dX0_owedAt_90 : decode cX0_owedAt 90 = .ok (.ireturn, 1) := by decide +kernel
theorem dX1_init_0 : decode cX1_init 0 = .ok (.aload_n 0, 1) := by decide +kernel
theorem dX1_init_1 : decode cX1_init 1 = .ok (.invokespecial 3, 3) := by decide +kernel
theorem dX1_init_4 : decode cX1_init 4 = .ok (.aload_n 0, 1) := by decide +kernel
theorem dX1_init_5 : decode cX1_init 5 = .ok (.new 9, 3) := by decide +kernel
theorem dX1_init_8 : decode cX1_init 8 = .ok (.dup, 1) := by decide +kernel
theorem dX1_init_9 : decode cX1_init 9 = .ok (.invokespecial 11, 3) := by decide +kernel
theorem dX1_init_12 : decode cX1_init 12 = .ok (.putfield 12, 3) := by decide +kernel
theorem dX1_init_15 : decode cX1_init 15 = .ok (.aload_n 0, 1) := by decide +kernel
theorem dX1_init_16 : decode cX1_init 16 = .ok (.aload_n 1, 1) := by decide +kernel
theorem dX1_init_17 : decode cX1_init 17 = .ok (.putfield 18, 3) := by decide +kernel
theorem dX1_init_20 : decode cX1_init 20 = .ok (.aload_n 0, 1) := by decide +kernel
theorem dX1_init_21 : decode cX1_init 21 = .ok (.new 22, 3) := by decide +kernel
theorem dX1_init_24 : decode cX1_init 24 = .ok (.dup, 1) := by decide +kernel
theorem dX1_init_25 : decode cX1_init 25 = .ok (.aload_n 1, 1) := by decide +kernel
theorem dX1_init_26 : decode cX1_init 26 = .ok (.invokespecial 24, 3) := by decide +kernel
theorem dX1_init_29 : decode cX1_init 29 = .ok (.putfield 27, 3) := by decide +kernel
theorem dX1_init_32 : decode cX1_init 32 = .ok (.aload_n 0, 1) := by decide +kernel
theorem dX1_init_33 : decode cX1_init 33 = .ok (.new 31, 3) := by decide +kernel
theorem dX1_init_36 : decode cX1_init 36 = .ok (.dup, 1) := by decide +kernel
theorem dX1_init_37 : decode cX1_init 37 = .ok (.aload_n 0, 1) := by decide +kernel
theorem dX1_init_38 : decode cX1_init 38 = .ok (.getfield 27, 3) := by decide +kernel
theorem dX1_init_41 : decode cX1_init 41 = .ok (.invokespecial 33, 3) := by decide +kernel
theorem dX1_init_44 : decode cX1_init 44 = .ok (.putfield 36, 3) := by decide +kernel
theorem dX1_init_47 : decode cX1_init 47 = .ok (.return_, 1) := by decide +kernel
theorem dX1_open_0 : decode cX1_open 0 = .ok (.aload_n 0, 1) := by decide +kernel
theorem dX1_open_1 : decode cX1_open 1 = .ok (.aload_n 1, 1) := by decide +kernel
theorem dX1_open_2 : decode cX1_open 2 = .ok (.putfield 18, 3) := by decide +kernel
theorem dX1_open_5 : decode cX1_open 5 = .ok (.aload_n 0, 1) := by decide +kernel
theorem dX1_open_6 : decode cX1_open 6 = .ok (.getfield 27, 3) := by decide +kernel
theorem dX1_open_9 : decode cX1_open 9 = .ok (.aload_n 1, 1) := by decide +kernel
theorem dX1_open_10 : decode cX1_open 10 = .ok (.iload_n 2, 1) := by decide +kernel
theorem dX1_open_11 : decode cX1_open 11 = .ok (.invokevirtual 40, 3) := by decide +kernel
theorem dX1_open_14 : decode cX1_open 14 = .ok (.return_, 1) := by decide +kernel
theorem dX1_reachFrom_0 : decode cX1_reachFrom 0 = .ok (.aload_n 0, 1) := by decide +kernel
theorem dX1_reachFrom_1 : decode cX1_reachFrom 1 = .ok (.getfield 27, 3) := by decide +kernel
theorem dX1_reachFrom_4 : decode cX1_reachFrom 4 = .ok (.iload_n 2, 1) := by decide +kernel
theorem dX1_reachFrom_5 : decode cX1_reachFrom 5 = .ok (.invokevirtual 44, 3) := by decide +kernel
theorem dX1_reachFrom_8 : decode cX1_reachFrom 8 = .ok (.aload_n 0, 1) := by decide +kernel
theorem dX1_reachFrom_9 : decode cX1_reachFrom 9 = .ok (.getfield 36, 3) := by decide +kernel
theorem dX1_reachFrom_12 : decode cX1_reachFrom 12 = .ok (.getfield 48, 3) := by decide +kernel
theorem dX1_reachFrom_15 : decode cX1_reachFrom 15 = .ok (.aload_n 0, 1) := by decide +kernel
theorem dX1_reachFrom_16 : decode cX1_reachFrom 16 = .ok (.getfield 27, 3) := by decide +kernel
theorem dX1_reachFrom_19 : decode cX1_reachFrom 19 = .ok (.iload_n 1, 1) := by decide +kernel
theorem dX1_reachFrom_20 : decode cX1_reachFrom 20 = .ok (.invokevirtual 52, 3) := by decide +kernel
theorem dX1_reachFrom_23 : decode cX1_reachFrom 23 = .ok (.aload_n 0, 1) := by decide +kernel
theorem dX1_reachFrom_24 : decode cX1_reachFrom 24 = .ok (.getfield 36, 3) := by decide +kernel
theorem dX1_reachFrom_27 : decode cX1_reachFrom 27 = .ok (.getfield 48, 3) := by decide +kernel
theorem dX1_reachFrom_30 : decode cX1_reachFrom 30 = .ok (.areturn, 1) := by decide +kernel
theorem dX1_hearOwner_0 : decode cX1_hearOwner 0 = .ok (.aload_n 0, 1) := by decide +kernel
theorem dX1_hearOwner_1 : decode cX1_hearOwner 1 = .ok (.getfield 18, 3) := by decide +kernel
theorem dX1_hearOwner_4 : decode cX1_hearOwner 4 = .ok (.iload_n 1, 1) := by decide +kernel
theorem dX1_hearOwner_5 : decode cX1_hearOwner 5 = .ok (.iconst 0, 1) := by decide +kernel
theorem dX1_hearOwner_6 : decode cX1_hearOwner 6 = .ok (.invokevirtual 58, 3) := by decide +kernel
theorem dX1_hearOwner_9 : decode cX1_hearOwner 9 = .ok (.istore_n 2, 1) := by decide +kernel
theorem dX1_hearOwner_10 : decode cX1_hearOwner 10 = .ok (.aload_n 0, 1) := by decide +kernel
theorem dX1_hearOwner_11 : decode cX1_hearOwner 11 = .ok (.getfield 36, 3) := by decide +kernel
theorem dX1_hearOwner_14 : decode cX1_hearOwner 14 = .ok (.iload_n 1, 1) := by decide +kernel
theorem dX1_hearOwner_15 : decode cX1_hearOwner 15 = .ok (.aload_n 0, 1) := by decide +kernel
theorem dX1_hearOwner_16 : decode cX1_hearOwner 16 = .ok (.getfield 18, 3) := by decide +kernel
theorem dX1_hearOwner_19 : decode cX1_hearOwner 19 = .ok (.getfield 64, 3) := by decide +kernel
theorem dX1_hearOwner_22 : decode cX1_hearOwner 22 = .ok (.iload_n 2, 1) := by decide +kernel
theorem dX1_hearOwner_23 : decode cX1_hearOwner 23 = .ok (.iaload, 1) := by decide +kernel
theorem dX1_hearOwner_24 : decode cX1_hearOwner 24 = .ok (.aload_n 0, 1) := by decide +kernel
theorem dX1_hearOwner_25 : decode cX1_hearOwner 25 = .ok (.getfield 18, 3) := by decide +kernel
theorem dX1_hearOwner_28 : decode cX1_hearOwner 28 = .ok (.getfield 68, 3) := by decide +kernel
theorem dX1_hearOwner_31 : decode cX1_hearOwner 31 = .ok (.iload_n 2, 1) := by decide +kernel
theorem dX1_hearOwner_32 : decode cX1_hearOwner 32 = .ok (.iaload, 1) := by decide +kernel
theorem dX1_hearOwner_33 : decode cX1_hearOwner 33 = .ok (.invokevirtual 71, 3) := by decide +kernel
theorem dX1_hearOwner_36 : decode cX1_hearOwner 36 = .ok (.return_, 1) := by decide +kernel
theorem dX1_owedAt_0 : decode cX1_owedAt 0 = .ok (.aload_n 0, 1) := by decide +kernel
theorem dX1_owedAt_1 : decode cX1_owedAt 1 = .ok (.getfield 27, 3) := by decide +kernel
theorem dX1_owedAt_4 : decode cX1_owedAt 4 = .ok (.iload_n 3, 1) := by decide +kernel
theorem dX1_owedAt_5 : decode cX1_owedAt 5 = .ok (.invokevirtual 44, 3) := by decide +kernel
theorem dX1_owedAt_8 : decode cX1_owedAt 8 = .ok (.aload_n 0, 1) := by decide +kernel
theorem dX1_owedAt_9 : decode cX1_owedAt 9 = .ok (.iload_n 1, 1) := by decide +kernel
theorem dX1_owedAt_10 : decode cX1_owedAt 10 = .ok (.invokevirtual 75, 3) := by decide +kernel
theorem dX1_owedAt_13 : decode cX1_owedAt 13 = .ok (.aload_n 0, 1) := by decide +kernel
theorem dX1_owedAt_14 : decode cX1_owedAt 14 = .ok (.getfield 36, 3) := by decide +kernel
theorem dX1_owedAt_17 : decode cX1_owedAt 17 = .ok (.iload_n 2, 1) := by decide +kernel
theorem dX1_owedAt_18 : decode cX1_owedAt 18 = .ok (.invokevirtual 78, 3) := by decide +kernel
theorem dX1_owedAt_21 : decode cX1_owedAt 21 = .ok (.ireturn, 1) := by decide +kernel
theorem dX1_winner_0 : decode cX1_winner 0 = .ok (.aload_n 0, 1) := by decide +kernel
theorem dX1_winner_1 : decode cX1_winner 1 = .ok (.getfield 27, 3) := by decide +kernel
theorem dX1_winner_4 : decode cX1_winner 4 = .ok (.iload_n 3, 1) := by decide +kernel
theorem dX1_winner_5 : decode cX1_winner 5 = .ok (.invokevirtual 44, 3) := by decide +kernel
theorem dX1_winner_8 : decode cX1_winner 8 = .ok (.aload_n 0, 1) := by decide +kernel
theorem dX1_winner_9 : decode cX1_winner 9 = .ok (.iload_n 1, 1) := by decide +kernel
theorem dX1_winner_10 : decode cX1_winner 10 = .ok (.invokevirtual 75, 3) := by decide +kernel
theorem dX1_winner_13 : decode cX1_winner 13 = .ok (.aload_n 0, 1) := by decide +kernel
theorem dX1_winner_14 : decode cX1_winner 14 = .ok (.getfield 36, 3) := by decide +kernel
theorem dX1_winner_17 : decode cX1_winner 17 = .ok (.iload_n 2, 1) := by decide +kernel
theorem dX1_winner_18 : decode cX1_winner 18 = .ok (.invokevirtual 82, 3) := by decide +kernel
theorem dX1_winner_21 : decode cX1_winner 21 = .ok (.ireturn, 1) := by decide +kernel
theorem dX1_extreme_0 : decode cX1_extreme 0 = .ok (.aload_n 0, 1) := by decide +kernel
theorem dX1_extreme_1 : decode cX1_extreme 1 = .ok (.iload_n 1, 1) := by decide +kernel
theorem dX1_extreme_2 : decode cX1_extreme 2 = .ok (.iload_n 2, 1) := by decide +kernel
theorem dX1_extreme_3 : decode cX1_extreme 3 = .ok (.iload_n 3, 1) := by decide +kernel
theorem dX1_extreme_4 : decode cX1_extreme 4 = .ok (.invokevirtual 85, 3) := by decide +kernel
theorem dX1_extreme_7 : decode cX1_extreme 7 = .ok (.istore 5, 2) := by decide +kernel
theorem dX1_extreme_9 : decode cX1_extreme 9 = .ok (.iconst 1, 1) := by decide +kernel
theorem dX1_extreme_10 : decode cX1_extreme 10 = .ok (.istore 6, 2) := by decide +kernel
theorem dX1_extreme_12 : decode cX1_extreme 12 = .ok (.iload 6, 2) := by decide +kernel
theorem dX1_extreme_14 : decode cX1_extreme 14 = .ok (.sipush 2000, 3) := by decide +kernel
theorem dX1_extreme_17 : decode cX1_extreme 17 = .ok (.if_icmp .ge 58, 3) := by decide +kernel
theorem dX1_extreme_20 : decode cX1_extreme 20 = .ok (.aload_n 0, 1) := by decide +kernel
theorem dX1_extreme_21 : decode cX1_extreme 21 = .ok (.getfield 27, 3) := by decide +kernel
theorem dX1_extreme_24 : decode cX1_extreme 24 = .ok (.invokevirtual 88, 3) := by decide +kernel
theorem dX1_extreme_27 : decode cX1_extreme 27 = .ok (.ifCond .eq 48, 3) := by decide +kernel
theorem dX1_extreme_30 : decode cX1_extreme 30 = .ok (.aload_n 0, 1) := by decide +kernel
theorem dX1_extreme_31 : decode cX1_extreme 31 = .ok (.iload_n 1, 1) := by decide +kernel
theorem dX1_extreme_32 : decode cX1_extreme 32 = .ok (.invokevirtual 75, 3) := by decide +kernel
theorem dX1_extreme_35 : decode cX1_extreme 35 = .ok (.aload_n 0, 1) := by decide +kernel
theorem dX1_extreme_36 : decode cX1_extreme 36 = .ok (.getfield 36, 3) := by decide +kernel
theorem dX1_extreme_39 : decode cX1_extreme 39 = .ok (.iload_n 2, 1) := by decide +kernel
theorem dX1_extreme_40 : decode cX1_extreme 40 = .ok (.invokevirtual 78, 3) := by decide +kernel
theorem dX1_extreme_43 : decode cX1_extreme 43 = .ok (.istore 7, 2) := by decide +kernel
theorem dX1_extreme_45 : decode cX1_extreme 45 = .ok (.iload 4, 2) := by decide +kernel
theorem dX1_extreme_47 : decode cX1_extreme 47 = .ok (.ifCond .eq 13, 3) := by decide +kernel
theorem dX1_extreme_50 : decode cX1_extreme 50 = .ok (.iload 5, 2) := by decide +kernel
theorem dX1_extreme_52 : decode cX1_extreme 52 = .ok (.iload 7, 2) := by decide +kernel
theorem dX1_extreme_54 : decode cX1_extreme 54 = .ok (.invokestatic 92, 3) := by decide +kernel
theorem dX1_extreme_57 : decode cX1_extreme 57 = .ok (.goto 10, 3) := by decide +kernel
theorem dX1_extreme_60 : decode cX1_extreme 60 = .ok (.iload 5, 2) := by decide +kernel
theorem dX1_extreme_62 : decode cX1_extreme 62 = .ok (.iload 7, 2) := by decide +kernel
theorem dX1_extreme_64 : decode cX1_extreme 64 = .ok (.invokestatic 97, 3) := by decide +kernel
theorem dX1_extreme_67 : decode cX1_extreme 67 = .ok (.istore 5, 2) := by decide +kernel
theorem dX1_extreme_69 : decode cX1_extreme 69 = .ok (.iinc 6 1, 3) := by decide +kernel
theorem dX1_extreme_72 : decode cX1_extreme 72 = .ok (.goto (-60), 3) := by decide +kernel
theorem dX1_extreme_75 : decode cX1_extreme 75 = .ok (.iload 5, 2) := by decide +kernel
theorem dX1_extreme_77 : decode cX1_extreme 77 = .ok (.ireturn, 1) := by decide +kernel
theorem dX1_owedOnWay_0 : decode cX1_owedOnWay 0 = .ok (.aload_n 0, 1) := by decide +kernel
theorem dX1_owedOnWay_1 : decode cX1_owedOnWay 1 = .ok (.getfield 27, 3) := by decide +kernel
theorem dX1_owedOnWay_4 : decode cX1_owedOnWay 4 = .ok (.aload_n 0, 1) := by decide +kernel
theorem dX1_owedOnWay_5 : decode cX1_owedOnWay 5 = .ok (.getfield 18, 3) := by decide +kernel
theorem dX1_owedOnWay_8 : decode cX1_owedOnWay 8 = .ok (.iload_n 1, 1) := by decide +kernel
theorem dX1_owedOnWay_9 : decode cX1_owedOnWay 9 = .ok (.bipush 6, 2) := by decide +kernel
theorem dX1_owedOnWay_11 : decode cX1_owedOnWay 11 = .ok (.invokevirtual 58, 3) := by decide +kernel
theorem dX1_owedOnWay_14 : decode cX1_owedOnWay 14 = .ok (.invokevirtual 44, 3) := by decide +kernel
theorem dX1_owedOnWay_17 : decode cX1_owedOnWay 17 = .ok (.aload_n 0, 1) := by decide +kernel
theorem dX1_owedOnWay_18 : decode cX1_owedOnWay 18 = .ok (.getfield 36, 3) := by decide +kernel
theorem dX1_owedOnWay_21 : decode cX1_owedOnWay 21 = .ok (.iload_n 1, 1) := by decide +kernel
theorem dX1_owedOnWay_22 : decode cX1_owedOnWay 22 = .ok (.iload_n 2, 1) := by decide +kernel
theorem dX1_owedOnWay_23 : decode cX1_owedOnWay 23 = .ok (.iload_n 3, 1) := by decide +kernel
theorem dX1_owedOnWay_24 : decode cX1_owedOnWay 24 = .ok (.invokevirtual 71, 3) := by decide +kernel
theorem dX1_owedOnWay_27 : decode cX1_owedOnWay 27 = .ok (.aload_n 0, 1) := by decide +kernel
theorem dX1_owedOnWay_28 : decode cX1_owedOnWay 28 = .ok (.getfield 12, 3) := by decide +kernel
theorem dX1_owedOnWay_31 : decode cX1_owedOnWay 31 = .ok (.aload_n 0, 1) := by decide +kernel
theorem dX1_owedOnWay_32 : decode cX1_owedOnWay 32 = .ok (.getfield 18, 3) := by decide +kernel
theorem dX1_owedOnWay_35 : decode cX1_owedOnWay 35 = .ok (.aload_n 0, 1) := by decide +kernel
theorem dX1_owedOnWay_36 : decode cX1_owedOnWay 36 = .ok (.getfield 36, 3) := by decide +kernel
theorem dX1_owedOnWay_39 : decode cX1_owedOnWay 39 = .ok (.aload_n 0, 1) := by decide +kernel
theorem dX1_owedOnWay_40 : decode cX1_owedOnWay 40 = .ok (.getfield 18, 3) := by decide +kernel
theorem dX1_owedOnWay_43 : decode cX1_owedOnWay 43 = .ok (.iload_n 1, 1) := by decide +kernel
theorem dX1_owedOnWay_44 : decode cX1_owedOnWay 44 = .ok (.iconst 5, 1) := by decide +kernel
theorem dX1_owedOnWay_45 : decode cX1_owedOnWay 45 = .ok (.invokevirtual 58, 3) := by decide +kernel
theorem dX1_owedOnWay_48 : decode cX1_owedOnWay 48 = .ok (.invokevirtual 100, 3) := by decide +kernel
theorem dX1_owedOnWay_51 : decode cX1_owedOnWay 51 = .ok (.aload_n 0, 1) := by decide +kernel
theorem dX1_owedOnWay_52 : decode cX1_owedOnWay 52 = .ok (.getfield 12, 3) := by decide +kernel
theorem dX1_owedOnWay_55 : decode cX1_owedOnWay 55 = .ok (.getfield 104, 3) := by decide +kernel
theorem dX1_owedOnWay_58 : decode cX1_owedOnWay 58 = .ok (.aload_n 0, 1) := by decide +kernel
theorem dX1_owedOnWay_59 : decode cX1_owedOnWay 59 = .ok (.getfield 18, 3) := by decide +kernel
theorem dX1_owedOnWay_62 : decode cX1_owedOnWay 62 = .ok (.iload_n 1, 1) := by decide +kernel
theorem dX1_owedOnWay_63 : decode cX1_owedOnWay 63 = .ok (.iconst 4, 1) := by decide +kernel
theorem dX1_owedOnWay_64 : decode cX1_owedOnWay 64 = .ok (.invokevirtual 58, 3) := by decide +kernel
theorem dX1_owedOnWay_67 : decode cX1_owedOnWay 67 = .ok (.iaload, 1) := by decide +kernel
theorem dX1_owedOnWay_68 : decode cX1_owedOnWay 68 = .ok (.istore 4, 2) := by decide +kernel
theorem dX1_owedOnWay_70 : decode cX1_owedOnWay 70 = .ok (.iload 4, 2) := by decide +kernel
theorem dX1_owedOnWay_72 : decode cX1_owedOnWay 72 = .ok (.ldc 107, 2) := by decide +kernel
theorem dX1_owedOnWay_74 : decode cX1_owedOnWay 74 = .ok (.if_icmp .lt 7, 3) := by decide +kernel
theorem dX1_owedOnWay_77 : decode cX1_owedOnWay 77 = .ok (.iconst (-1), 1) := by decide +kernel
theorem dX1_owedOnWay_78 : decode cX1_owedOnWay 78 = .ok (.goto 9, 3) := by decide +kernel
theorem dX1_owedOnWay_81 : decode cX1_owedOnWay 81 = .ok (.iload 4, 2) := by decide +kernel
theorem dX1_owedOnWay_83 : decode cX1_owedOnWay 83 = .ok (.sipush 1000, 3) := by decide +kernel
theorem dX1_owedOnWay_86 : decode cX1_owedOnWay 86 = .ok (.idiv, 1) := by decide +kernel
theorem dX1_owedOnWay_87 : decode cX1_owedOnWay 87 = .ok (.ireturn, 1) := by decide +kernel
theorem dX1_owedByOwner_0 : decode cX1_owedByOwner 0 = .ok (.aload_n 0, 1) := by decide +kernel
theorem dX1_owedByOwner_1 : decode cX1_owedByOwner 1 = .ok (.getfield 18, 3) := by decide +kernel
theorem dX1_owedByOwner_4 : decode cX1_owedByOwner 4 = .ok (.iload_n 1, 1) := by decide +kernel
theorem dX1_owedByOwner_5 : decode cX1_owedByOwner 5 = .ok (.iconst 0, 1) := by decide +kernel
theorem dX1_owedByOwner_6 : decode cX1_owedByOwner 6 = .ok (.invokevirtual 58, 3) := by decide +kernel
theorem dX1_owedByOwner_9 : decode cX1_owedByOwner 9 = .ok (.istore_n 2, 1) := by decide +kernel
theorem dX1_owedByOwner_10 : decode cX1_owedByOwner 10 = .ok (.aload_n 0, 1) := by decide +kernel
theorem dX1_owedByOwner_11 : decode cX1_owedByOwner 11 = .ok (.iload_n 1, 1) := by decide +kernel
theorem dX1_owedByOwner_12 : decode cX1_owedByOwner 12 = .ok (.aload_n 0, 1) := by decide +kernel
theorem dX1_owedByOwner_13 : decode cX1_owedByOwner 13 = .ok (.getfield 18, 3) := by decide +kernel
theorem dX1_owedByOwner_16 : decode cX1_owedByOwner 16 = .ok (.getfield 64, 3) := by decide +kernel
theorem dX1_owedByOwner_19 : decode cX1_owedByOwner 19 = .ok (.iload_n 2, 1) := by decide +kernel
theorem dX1_owedByOwner_20 : decode cX1_owedByOwner 20 = .ok (.iaload, 1) := by decide +kernel
theorem dX1_owedByOwner_21 : decode cX1_owedByOwner 21 = .ok (.aload_n 0, 1) := by decide +kernel
theorem dX1_owedByOwner_22 : decode cX1_owedByOwner 22 = .ok (.getfield 18, 3) := by decide +kernel
theorem dX1_owedByOwner_25 : decode cX1_owedByOwner 25 = .ok (.getfield 68, 3) := by decide +kernel
theorem dX1_owedByOwner_28 : decode cX1_owedByOwner 28 = .ok (.iload_n 2, 1) := by decide +kernel
theorem dX1_owedByOwner_29 : decode cX1_owedByOwner 29 = .ok (.iaload, 1) := by decide +kernel
theorem dX1_owedByOwner_30 : decode cX1_owedByOwner 30 = .ok (.invokevirtual 108, 3) := by decide +kernel
theorem dX1_owedByOwner_33 : decode cX1_owedByOwner 33 = .ok (.ireturn, 1) := by decide +kernel
theorem dX1_cheapestMan_0 : decode cX1_cheapestMan 0 = .ok (.aload_n 0, 1) := by decide +kernel
theorem dX1_cheapestMan_1 : decode cX1_cheapestMan 1 = .ok (.getfield 18, 3) := by decide +kernel
theorem dX1_cheapestMan_4 : decode cX1_cheapestMan 4 = .ok (.iload_n 1, 1) := by decide +kernel
theorem dX1_cheapestMan_5 : decode cX1_cheapestMan 5 = .ok (.iconst 0, 1) := by decide +kernel
theorem dX1_cheapestMan_6 : decode cX1_cheapestMan 6 = .ok (.invokevirtual 58, 3) := by decide +kernel
theorem dX1_cheapestMan_9 : decode cX1_cheapestMan 9 = .ok (.istore_n 2, 1) := by decide +kernel
theorem dX1_cheapestMan_10 : decode cX1_cheapestMan 10 = .ok (.aload_n 0, 1) := by decide +kernel
theorem dX1_cheapestMan_11 : decode cX1_cheapestMan 11 = .ok (.iload_n 1, 1) := by decide +kernel
theorem dX1_cheapestMan_12 : decode cX1_cheapestMan 12 = .ok (.invokevirtual 111, 3) := by decide +kernel
theorem dX1_cheapestMan_15 : decode cX1_cheapestMan 15 = .ok (.istore_n 3, 1) := by decide +kernel
theorem dX1_cheapestMan_16 : decode cX1_cheapestMan 16 = .ok (.iload_n 3, 1) := by decide +kernel
theorem dX1_cheapestMan_17 : decode cX1_cheapestMan 17 = .ok (.ifCond .ge 5, 3) := by decide +kernel
theorem dX1_cheapestMan_20 : decode cX1_cheapestMan 20 = .ok (.iconst (-1), 1) := by decide +kernel
theorem dX1_cheapestMan_21 : decode cX1_cheapestMan 21 = .ok (.ireturn, 1) := by decide +kernel
theorem dX1_cheapestMan_22 : decode cX1_cheapestMan 22 = .ok (.iconst 0, 1) := by decide +kernel
theorem dX1_cheapestMan_23 : decode cX1_cheapestMan 23 = .ok (.istore 4, 2) := by decide +kernel
theorem dX1_cheapestMan_25 : decode cX1_cheapestMan 25 = .ok (.iload 4, 2) := by decide +kernel
theorem dX1_cheapestMan_27 : decode cX1_cheapestMan 27 = .ok (.aload_n 0, 1) := by decide +kernel
theorem dX1_cheapestMan_28 : decode cX1_cheapestMan 28 = .ok (.getfield 18, 3) := by decide +kernel
theorem dX1_cheapestMan_31 : decode cX1_cheapestMan 31 = .ok (.getfield 114, 3) := by decide +kernel
theorem dX1_cheapestMan_34 : decode cX1_cheapestMan 34 = .ok (.iconst 2, 1) := by decide +kernel
theorem dX1_cheapestMan_35 : decode cX1_cheapestMan 35 = .ok (.iaload, 1) := by decide +kernel
theorem dX1_cheapestMan_36 : decode cX1_cheapestMan 36 = .ok (.if_icmp .ge 48, 3) := by decide +kernel
theorem dX1_cheapestMan_39 : decode cX1_cheapestMan 39 = .ok (.aload_n 0, 1) := by decide +kernel
theorem dX1_cheapestMan_40 : decode cX1_cheapestMan 40 = .ok (.iload_n 1, 1) := by decide +kernel
theorem dX1_cheapestMan_41 : decode cX1_cheapestMan 41 = .ok (.aload_n 0, 1) := by decide +kernel
theorem dX1_cheapestMan_42 : decode cX1_cheapestMan 42 = .ok (.getfield 18, 3) := by decide +kernel
theorem dX1_cheapestMan_45 : decode cX1_cheapestMan 45 = .ok (.getfield 64, 3) := by decide +kernel
theorem dX1_cheapestMan_48 : decode cX1_cheapestMan 48 = .ok (.iload 4, 2) := by decide +kernel
theorem dX1_cheapestMan_50 : decode cX1_cheapestMan 50 = .ok (.iaload, 1) := by decide +kernel
theorem dX1_cheapestMan_51 : decode cX1_cheapestMan 51 = .ok (.aload_n 0, 1) := by decide +kernel
theorem dX1_cheapestMan_52 : decode cX1_cheapestMan 52 = .ok (.getfield 18, 3) := by decide +kernel
theorem dX1_cheapestMan_55 : decode cX1_cheapestMan 55 = .ok (.getfield 68, 3) := by decide +kernel
theorem dX1_cheapestMan_58 : decode cX1_cheapestMan 58 = .ok (.iload 4, 2) := by decide +kernel
theorem dX1_cheapestMan_60 : decode cX1_cheapestMan 60 = .ok (.iaload, 1) := by decide +kernel
theorem dX1_cheapestMan_61 : decode cX1_cheapestMan 61 = .ok (.invokevirtual 108, 3) := by decide +kernel
theorem dX1_cheapestMan_64 : decode cX1_cheapestMan 64 = .ok (.istore 5, 2) := by decide +kernel
theorem dX1_cheapestMan_66 : decode cX1_cheapestMan 66 = .ok (.iload 5, 2) := by decide +kernel
theorem dX1_cheapestMan_68 : decode cX1_cheapestMan 68 = .ok (.iload_n 3, 1) := by decide +kernel
theorem dX1_cheapestMan_69 : decode cX1_cheapestMan 69 = .ok (.if_icmp .ge 9, 3) := by decide +kernel
theorem dX1_cheapestMan_72 : decode cX1_cheapestMan 72 = .ok (.iload 5, 2) := by decide +kernel
theorem dX1_cheapestMan_74 : decode cX1_cheapestMan 74 = .ok (.istore_n 3, 1) := by decide +kernel
theorem dX1_cheapestMan_75 : decode cX1_cheapestMan 75 = .ok (.iload 4, 2) := by decide +kernel
theorem dX1_cheapestMan_77 : decode cX1_cheapestMan 77 = .ok (.istore_n 2, 1) := by decide +kernel
theorem dX1_cheapestMan_78 : decode cX1_cheapestMan 78 = .ok (.iinc 4 1, 3) := by decide +kernel
theorem dX1_cheapestMan_81 : decode cX1_cheapestMan 81 = .ok (.goto (-56), 3) := by decide +kernel
theorem dX1_cheapestMan_84 : decode cX1_cheapestMan 84 = .ok (.iload_n 2, 1) := by decide +kernel
theorem dX1_cheapestMan_85 : decode cX1_cheapestMan 85 = .ok (.ireturn, 1) := by decide +kernel
theorem dX1_allCoin_0 : decode cX1_allCoin 0 = .ok (.iconst 0, 1) := by decide +kernel
theorem dX1_allCoin_1 : decode cX1_allCoin 1 = .ok (.istore_n 1, 1) := by decide +kernel
theorem dX1_allCoin_2 : decode cX1_allCoin 2 = .ok (.iconst 0, 1) := by decide +kernel
theorem dX1_allCoin_3 : decode cX1_allCoin 3 = .ok (.istore_n 2, 1) := by decide +kernel
theorem dX1_allCoin_4 : decode cX1_allCoin 4 = .ok (.iload_n 2, 1) := by decide +kernel
theorem dX1_allCoin_5 : decode cX1_allCoin 5 = .ok (.aload_n 0, 1) := by decide +kernel
theorem dX1_allCoin_6 : decode cX1_allCoin 6 = .ok (.getfield 18, 3) := by decide +kernel
theorem dX1_allCoin_9 : decode cX1_allCoin 9 = .ok (.getfield 114, 3) := by decide +kernel
theorem dX1_allCoin_12 : decode cX1_allCoin 12 = .ok (.bipush 11, 2) := by decide +kernel
theorem dX1_allCoin_14 : decode cX1_allCoin 14 = .ok (.iaload, 1) := by decide +kernel
theorem dX1_allCoin_15 : decode cX1_allCoin 15 = .ok (.if_icmp .ge 49, 3) := by decide +kernel
theorem dX1_allCoin_18 : decode cX1_allCoin 18 = .ok (.aload_n 0, 1) := by decide +kernel
theorem dX1_allCoin_19 : decode cX1_allCoin 19 = .ok (.getfield 18, 3) := by decide +kernel
theorem dX1_allCoin_22 : decode cX1_allCoin 22 = .ok (.iload_n 2, 1) := by decide +kernel
theorem dX1_allCoin_23 : decode cX1_allCoin 23 = .ok (.iconst 0, 1) := by decide +kernel
theorem dX1_allCoin_24 : decode cX1_allCoin 24 = .ok (.invokevirtual 58, 3) := by decide +kernel
theorem dX1_allCoin_27 : decode cX1_allCoin 27 = .ok (.istore_n 3, 1) := by decide +kernel
theorem dX1_allCoin_28 : decode cX1_allCoin 28 = .ok (.iload_n 1, 1) := by decide +kernel
theorem dX1_allCoin_29 : decode cX1_allCoin 29 = .ok (.iconst 0, 1) := by decide +kernel
theorem dX1_allCoin_30 : decode cX1_allCoin 30 = .ok (.aload_n 0, 1) := by decide +kernel
theorem dX1_allCoin_31 : decode cX1_allCoin 31 = .ok (.iload_n 2, 1) := by decide +kernel
theorem dX1_allCoin_32 : decode cX1_allCoin 32 = .ok (.aload_n 0, 1) := by decide +kernel
theorem dX1_allCoin_33 : decode cX1_allCoin 33 = .ok (.getfield 18, 3) := by decide +kernel
theorem dX1_allCoin_36 : decode cX1_allCoin 36 = .ok (.getfield 64, 3) := by decide +kernel
theorem dX1_allCoin_39 : decode cX1_allCoin 39 = .ok (.iload_n 3, 1) := by decide +kernel
theorem dX1_allCoin_40 : decode cX1_allCoin 40 = .ok (.iaload, 1) := by decide +kernel
theorem dX1_allCoin_41 : decode cX1_allCoin 41 = .ok (.aload_n 0, 1) := by decide +kernel
theorem dX1_allCoin_42 : decode cX1_allCoin 42 = .ok (.getfield 18, 3) := by decide +kernel
theorem dX1_allCoin_45 : decode cX1_allCoin 45 = .ok (.getfield 68, 3) := by decide +kernel
theorem dX1_allCoin_48 : decode cX1_allCoin 48 = .ok (.iload_n 3, 1) := by decide +kernel
theorem dX1_allCoin_49 : decode cX1_allCoin 49 = .ok (.iaload, 1) := by decide +kernel
theorem dX1_allCoin_50 : decode cX1_allCoin 50 = .ok (.invokevirtual 108, 3) := by decide +kernel
theorem dX1_allCoin_53 : decode cX1_allCoin 53 = .ok (.invokestatic 92, 3) := by decide +kernel
theorem dX1_allCoin_56 : decode cX1_allCoin 56 = .ok (.iadd, 1) := by decide +kernel
theorem dX1_allCoin_57 : decode cX1_allCoin 57 = .ok (.istore_n 1, 1) := by decide +kernel
theorem dX1_allCoin_58 : decode cX1_allCoin 58 = .ok (.iinc 2 1, 3) := by decide +kernel
theorem dX1_allCoin_61 : decode cX1_allCoin 61 = .ok (.goto (-57), 3) := by decide +kernel
theorem dX1_allCoin_64 : decode cX1_allCoin 64 = .ok (.iload_n 1, 1) := by decide +kernel
theorem dX1_allCoin_65 : decode cX1_allCoin 65 = .ok (.ireturn, 1) := by decide +kernel
theorem dX1_moved_0 : decode cX1_moved 0 = .ok (.aload_n 0, 1) := by decide +kernel
theorem dX1_moved_1 : decode cX1_moved 1 = .ok (.getfield 18, 3) := by decide +kernel
theorem dX1_moved_4 : decode cX1_moved 4 = .ok (.getfield 117, 3) := by decide +kernel
theorem dX1_moved_7 : decode cX1_moved 7 = .ok (.iload_n 1, 1) := by decide +kernel
theorem dX1_moved_8 : decode cX1_moved 8 = .ok (.iaload, 1) := by decide +kernel
theorem dX1_moved_9 : decode cX1_moved 9 = .ok (.istore_n 2, 1) := by decide +kernel
theorem dX1_moved_10 : decode cX1_moved 10 = .ok (.aload_n 0, 1) := by decide +kernel
theorem dX1_moved_11 : decode cX1_moved 11 = .ok (.invokevirtual 120, 3) := by decide +kernel
theorem dX1_moved_14 : decode cX1_moved 14 = .ok (.istore_n 3, 1) := by decide +kernel
theorem dX1_moved_15 : decode cX1_moved 15 = .ok (.iload_n 3, 1) := by decide +kernel
theorem dX1_moved_16 : decode cX1_moved 16 = .ok (.istore 4, 2) := by decide +kernel
theorem dX1_moved_18 : decode cX1_moved 18 = .ok (.iload_n 2, 1) := by decide +kernel
theorem dX1_moved_19 : decode cX1_moved 19 = .ok (.iconst 1, 1) := by decide +kernel
theorem dX1_moved_20 : decode cX1_moved 20 = .ok (.iadd, 1) := by decide +kernel
theorem dX1_moved_21 : decode cX1_moved 21 = .ok (.istore 5, 2) := by decide +kernel
theorem dX1_moved_23 : decode cX1_moved 23 = .ok (.iload 5, 2) := by decide +kernel
theorem dX1_moved_25 : decode cX1_moved 25 = .ok (.aload_n 0, 1) := by decide +kernel
theorem dX1_moved_26 : decode cX1_moved 26 = .ok (.getfield 18, 3) := by decide +kernel
theorem dX1_moved_29 : decode cX1_moved 29 = .ok (.getfield 124, 3) := by decide +kernel
theorem dX1_moved_32 : decode cX1_moved 32 = .ok (.iload_n 1, 1) := by decide +kernel
theorem dX1_moved_33 : decode cX1_moved 33 = .ok (.iaload, 1) := by decide +kernel
theorem dX1_moved_34 : decode cX1_moved 34 = .ok (.if_icmp .gt 42, 3) := by decide +kernel
theorem dX1_moved_37 : decode cX1_moved 37 = .ok (.aload_n 0, 1) := by decide +kernel
theorem dX1_moved_38 : decode cX1_moved 38 = .ok (.getfield 27, 3) := by decide +kernel
theorem dX1_moved_41 : decode cX1_moved 41 = .ok (.getfield 127, 3) := by decide +kernel
theorem dX1_moved_44 : decode cX1_moved 44 = .ok (.iload_n 1, 1) := by decide +kernel
theorem dX1_moved_45 : decode cX1_moved 45 = .ok (.iload 5, 2) := by decide +kernel
theorem dX1_moved_47 : decode cX1_moved 47 = .ok (.iastore, 1) := by decide +kernel
theorem dX1_moved_48 : decode cX1_moved 48 = .ok (.aload_n 0, 1) := by decide +kernel
theorem dX1_moved_49 : decode cX1_moved 49 = .ok (.invokevirtual 120, 3) := by decide +kernel
theorem dX1_moved_52 : decode cX1_moved 52 = .ok (.istore 6, 2) := by decide +kernel
theorem dX1_moved_54 : decode cX1_moved 54 = .ok (.iload_n 3, 1) := by decide +kernel
theorem dX1_moved_55 : decode cX1_moved 55 = .ok (.iload 6, 2) := by decide +kernel
theorem dX1_moved_57 : decode cX1_moved 57 = .ok (.invokestatic 97, 3) := by decide +kernel
theorem dX1_moved_60 : decode cX1_moved 60 = .ok (.istore_n 3, 1) := by decide +kernel
theorem dX1_moved_61 : decode cX1_moved 61 = .ok (.iload 4, 2) := by decide +kernel
theorem dX1_moved_63 : decode cX1_moved 63 = .ok (.iload 6, 2) := by decide +kernel
theorem dX1_moved_65 : decode cX1_moved 65 = .ok (.invokestatic 92, 3) := by decide +kernel
theorem dX1_moved_68 : decode cX1_moved 68 = .ok (.istore 4, 2) := by decide +kernel
theorem dX1_moved_70 : decode cX1_moved 70 = .ok (.iinc 5 1, 3) := by decide +kernel
theorem dX1_moved_73 : decode cX1_moved 73 = .ok (.goto (-50), 3) := by decide +kernel
theorem dX1_moved_76 : decode cX1_moved 76 = .ok (.aload_n 0, 1) := by decide +kernel
theorem dX1_moved_77 : decode cX1_moved 77 = .ok (.getfield 27, 3) := by decide +kernel
theorem dX1_moved_80 : decode cX1_moved 80 = .ok (.getfield 127, 3) := by decide +kernel
theorem dX1_moved_83 : decode cX1_moved 83 = .ok (.iload_n 1, 1) := by decide +kernel
theorem dX1_moved_84 : decode cX1_moved 84 = .ok (.iload_n 2, 1) := by decide +kernel
theorem dX1_moved_85 : decode cX1_moved 85 = .ok (.iastore, 1) := by decide +kernel
theorem dX1_moved_86 : decode cX1_moved 86 = .ok (.iload 4, 2) := by decide +kernel
theorem dX1_moved_88 : decode cX1_moved 88 = .ok (.iload_n 3, 1) := by decide +kernel
theorem dX1_moved_89 : decode cX1_moved 89 = .ok (.isub, 1) := by decide +kernel
theorem dX1_moved_90 : decode cX1_moved 90 = .ok (.ireturn, 1) := by decide +kernel
theorem dX1_greatestMover_0 : decode cX1_greatestMover 0 = .ok (.iconst (-1), 1) := by decide +kernel
theorem dX1_greatestMover_1 : decode cX1_greatestMover 1 = .ok (.istore_n 1, 1) := by decide +kernel
theorem dX1_greatestMover_2 : decode cX1_greatestMover 2 = .ok (.iconst (-1), 1) := by decide +kernel
theorem dX1_greatestMover_3 : decode cX1_greatestMover 3 = .ok (.istore_n 2, 1) := by decide +kernel
theorem dX1_greatestMover_4 : decode cX1_greatestMover 4 = .ok (.iconst 0, 1) := by decide +kernel
theorem dX1_greatestMover_5 : decode cX1_greatestMover 5 = .ok (.istore_n 3, 1) := by decide +kernel
theorem dX1_greatestMover_6 : decode cX1_greatestMover 6 = .ok (.iload_n 3, 1) := by decide +kernel
theorem dX1_greatestMover_7 : decode cX1_greatestMover 7 = .ok (.bipush 16, 2) := by decide +kernel
theorem dX1_greatestMover_9 : decode cX1_greatestMover 9 = .ok (.if_icmp .ge 48, 3) := by decide +kernel
theorem dX1_greatestMover_12 : decode cX1_greatestMover 12 = .ok (.aload_n 0, 1) := by decide +kernel
theorem dX1_greatestMover_13 : decode cX1_greatestMover 13 = .ok (.getfield 18, 3) := by decide +kernel
theorem dX1_greatestMover_16 : decode cX1_greatestMover 16 = .ok (.getfield 124, 3) := by decide +kernel
theorem dX1_greatestMover_19 : decode cX1_greatestMover 19 = .ok (.iload_n 3, 1) := by decide +kernel
theorem dX1_greatestMover_20 : decode cX1_greatestMover 20 = .ok (.iaload, 1) := by decide +kernel
theorem dX1_greatestMover_21 : decode cX1_greatestMover 21 = .ok (.aload_n 0, 1) := by decide +kernel
theorem dX1_greatestMover_22 : decode cX1_greatestMover 22 = .ok (.getfield 18, 3) := by decide +kernel
theorem dX1_greatestMover_25 : decode cX1_greatestMover 25 = .ok (.getfield 117, 3) := by decide +kernel
theorem dX1_greatestMover_28 : decode cX1_greatestMover 28 = .ok (.iload_n 3, 1) := by decide +kernel
theorem dX1_greatestMover_29 : decode cX1_greatestMover 29 = .ok (.iaload, 1) := by decide +kernel
theorem dX1_greatestMover_30 : decode cX1_greatestMover 30 = .ok (.if_icmp .le 21, 3) := by decide +kernel
theorem dX1_greatestMover_33 : decode cX1_greatestMover 33 = .ok (.aload_n 0, 1) := by decide +kernel
theorem dX1_greatestMover_34 : decode cX1_greatestMover 34 = .ok (.iload_n 3, 1) := by decide +kernel
theorem dX1_greatestMover_35 : decode cX1_greatestMover 35 = .ok (.invokevirtual 130, 3) := by decide +kernel
theorem dX1_greatestMover_38 : decode cX1_greatestMover 38 = .ok (.istore 4, 2) := by decide +kernel
theorem dX1_greatestMover_40 : decode cX1_greatestMover 40 = .ok (.iload 4, 2) := by decide +kernel
theorem dX1_greatestMover_42 : decode cX1_greatestMover 42 = .ok (.iload_n 2, 1) := by decide +kernel
theorem dX1_greatestMover_43 : decode cX1_greatestMover 43 = .ok (.if_icmp .le 8, 3) := by decide +kernel
theorem dX1_greatestMover_46 : decode cX1_greatestMover 46 = .ok (.iload 4, 2) := by decide +kernel
theorem dX1_greatestMover_48 : decode cX1_greatestMover 48 = .ok (.istore_n 2, 1) := by decide +kernel
theorem dX1_greatestMover_49 : decode cX1_greatestMover 49 = .ok (.iload_n 3, 1) := by decide +kernel
theorem dX1_greatestMover_50 : decode cX1_greatestMover 50 = .ok (.istore_n 1, 1) := by decide +kernel
theorem dX1_greatestMover_51 : decode cX1_greatestMover 51 = .ok (.iinc 3 1, 3) := by decide +kernel
theorem dX1_greatestMover_54 : decode cX1_greatestMover 54 = .ok (.goto (-48), 3) := by decide +kernel
theorem dX1_greatestMover_57 : decode cX1_greatestMover 57 = .ok (.iload_n 1, 1) := by decide +kernel
theorem dX1_greatestMover_58 : decode cX1_greatestMover 58 = .ok (.ireturn, 1) := by decide +kernel
theorem dX2_init_0 : decode cX2_init 0 = .ok (.aload_n 0, 1) := by decide +kernel
theorem dX2_init_1 : decode cX2_init 1 = .ok (.invokespecial 3, 3) := by decide +kernel
theorem dX2_init_4 : decode cX2_init 4 = .ok (.aload_n 0, 1) := by decide +kernel
theorem dX2_init_5 : decode cX2_init 5 = .ok (.bipush 51, 2) := by decide +kernel
theorem dX2_init_7 : decode cX2_init 7 = .ok (.newarray .long, 2) := by decide +kernel
theorem dX2_init_9 : decode cX2_init 9 = .ok (.putfield 9, 3) := by decide +kernel
theorem dX2_init_12 : decode cX2_init 12 = .ok (.aload_n 0, 1) := by decide +kernel
theorem dX2_init_13 : decode cX2_init 13 = .ok (.bipush 51, 2) := by decide +kernel
theorem dX2_init_15 : decode cX2_init 15 = .ok (.newarray .int, 2) := by decide +kernel
theorem dX2_init_17 : decode cX2_init 17 = .ok (.putfield 15, 3) := by decide +kernel
theorem dX2_init_20 : decode cX2_init 20 = .ok (.aload_n 0, 1) := by decide +kernel
theorem dX2_init_21 : decode cX2_init 21 = .ok (.bipush 51, 2) := by decide +kernel
theorem dX2_init_23 : decode cX2_init 23 = .ok (.newarray .int, 2) := by decide +kernel
theorem dX2_init_25 : decode cX2_init 25 = .ok (.putfield 19, 3) := by decide +kernel
theorem dX2_init_28 : decode cX2_init 28 = .ok (.return_, 1) := by decide +kernel
theorem dX2_clear_0 : decode cX2_clear 0 = .ok (.aload_n 0, 1) := by decide +kernel
theorem dX2_clear_1 : decode cX2_clear 1 = .ok (.iconst 0, 1) := by decide +kernel
theorem dX2_clear_2 : decode cX2_clear 2 = .ok (.putfield 22, 3) := by decide +kernel
theorem dX2_clear_5 : decode cX2_clear 5 = .ok (.return_, 1) := by decide +kernel
theorem dX2_add_0 : decode cX2_add 0 = .ok (.aload_n 0, 1) := by decide +kernel
theorem dX2_add_1 : decode cX2_add 1 = .ok (.getfield 22, 3) := by decide +kernel
theorem dX2_add_4 : decode cX2_add 4 = .ok (.bipush 51, 2) := by decide +kernel
theorem dX2_add_6 : decode cX2_add 6 = .ok (.if_icmp .ge 44, 3) := by decide +kernel
theorem dX2_add_9 : decode cX2_add 9 = .ok (.aload_n 0, 1) := by decide +kernel
theorem dX2_add_10 : decode cX2_add 10 = .ok (.getfield 9, 3) := by decide +kernel
theorem dX2_add_13 : decode cX2_add 13 = .ok (.aload_n 0, 1) := by decide +kernel
theorem dX2_add_14 : decode cX2_add 14 = .ok (.getfield 22, 3) := by decide +kernel
theorem dX2_add_17 : decode cX2_add 17 = .ok (.lload_n 1, 1) := by decide +kernel
theorem dX2_add_18 : decode cX2_add 18 = .ok (.lastore, 1) := by decide +kernel
theorem dX2_add_19 : decode cX2_add 19 = .ok (.aload_n 0, 1) := by decide +kernel
theorem dX2_add_20 : decode cX2_add 20 = .ok (.getfield 15, 3) := by decide +kernel
theorem dX2_add_23 : decode cX2_add 23 = .ok (.aload_n 0, 1) := by decide +kernel
theorem dX2_add_24 : decode cX2_add 24 = .ok (.getfield 22, 3) := by decide +kernel
theorem dX2_add_27 : decode cX2_add 27 = .ok (.iload_n 3, 1) := by decide +kernel
theorem dX2_add_28 : decode cX2_add 28 = .ok (.iastore, 1) := by decide +kernel
theorem dX2_add_29 : decode cX2_add 29 = .ok (.aload_n 0, 1) := by decide +kernel
theorem dX2_add_30 : decode cX2_add 30 = .ok (.getfield 19, 3) := by decide +kernel
theorem dX2_add_33 : decode cX2_add 33 = .ok (.aload_n 0, 1) := by decide +kernel
theorem dX2_add_34 : decode cX2_add 34 = .ok (.getfield 22, 3) := by decide +kernel
theorem dX2_add_37 : decode cX2_add 37 = .ok (.iload 4, 2) := by decide +kernel
theorem dX2_add_39 : decode cX2_add 39 = .ok (.iastore, 1) := by decide +kernel
theorem dX2_add_40 : decode cX2_add 40 = .ok (.aload_n 0, 1) := by decide +kernel
theorem dX2_add_41 : decode cX2_add 41 = .ok (.dup, 1) := by decide +kernel
theorem dX2_add_42 : decode cX2_add 42 = .ok (.getfield 22, 3) := by decide +kernel
theorem dX2_add_45 : decode cX2_add 45 = .ok (.iconst 1, 1) := by decide +kernel
theorem dX2_add_46 : decode cX2_add 46 = .ok (.iadd, 1) := by decide +kernel
theorem dX2_add_47 : decode cX2_add 47 = .ok (.putfield 22, 3) := by decide +kernel
theorem dX2_add_50 : decode cX2_add 50 = .ok (.return_, 1) := by decide +kernel
theorem dX2_numberOf_0 : decode cX2_numberOf 0 = .ok (.aload_n 0, 1) := by decide +kernel
theorem dX2_numberOf_1 : decode cX2_numberOf 1 = .ok (.lload_n 1, 1) := by decide +kernel
theorem dX2_numberOf_2 : decode cX2_numberOf 2 = .ok (.invokevirtual 26, 3) := by decide +kernel
theorem dX2_numberOf_5 : decode cX2_numberOf 5 = .ok (.istore 5, 2) := by decide +kernel
theorem dX2_numberOf_7 : decode cX2_numberOf 7 = .ok (.iload 5, 2) := by decide +kernel
theorem dX2_numberOf_9 : decode cX2_numberOf 9 = .ok (.ifCond .lt 36, 3) := by decide +kernel
theorem dX2_numberOf_12 : decode cX2_numberOf 12 = .ok (.aload_n 0, 1) := by decide +kernel
theorem dX2_numberOf_13 : decode cX2_numberOf 13 = .ok (.getfield 15, 3) := by decide +kernel
theorem dX2_numberOf_16 : decode cX2_numberOf 16 = .ok (.iload 5, 2) := by decide +kernel
theorem dX2_numberOf_18 : decode cX2_numberOf 18 = .ok (.iaload, 1) := by decide +kernel
theorem dX2_numberOf_19 : decode cX2_numberOf 19 = .ok (.iload_n 3, 1) := by decide +kernel
theorem dX2_numberOf_20 : decode cX2_numberOf 20 = .ok (.if_icmp .lt 25, 3) := by decide +kernel
theorem dX2_numberOf_23 : decode cX2_numberOf 23 = .ok (.aload_n 0, 1) := by decide +kernel
theorem dX2_numberOf_24 : decode cX2_numberOf 24 = .ok (.getfield 15, 3) := by decide +kernel
theorem dX2_numberOf_27 : decode cX2_numberOf 27 = .ok (.iload 5, 2) := by decide +kernel
theorem dX2_numberOf_29 : decode cX2_numberOf 29 = .ok (.iaload, 1) := by decide +kernel
theorem dX2_numberOf_30 : decode cX2_numberOf 30 = .ok (.iload 4, 2) := by decide +kernel
theorem dX2_numberOf_32 : decode cX2_numberOf 32 = .ok (.if_icmp .gt 13, 3) := by decide +kernel
theorem dX2_numberOf_35 : decode cX2_numberOf 35 = .ok (.aload_n 0, 1) := by decide +kernel
theorem dX2_numberOf_36 : decode cX2_numberOf 36 = .ok (.getfield 19, 3) := by decide +kernel
theorem dX2_numberOf_39 : decode cX2_numberOf 39 = .ok (.iload 5, 2) := by decide +kernel
theorem dX2_numberOf_41 : decode cX2_numberOf 41 = .ok (.iaload, 1) := by decide +kernel
theorem dX2_numberOf_42 : decode cX2_numberOf 42 = .ok (.goto 4, 3) := by decide +kernel
theorem dX2_numberOf_45 : decode cX2_numberOf 45 = .ok (.iconst (-1), 1) := by decide +kernel
theorem dX2_numberOf_46 : decode cX2_numberOf 46 = .ok (.ireturn, 1) := by decide +kernel
theorem dX2_indexOf_0 : decode cX2_indexOf 0 = .ok (.iconst 0, 1) := by decide +kernel
theorem dX2_indexOf_1 : decode cX2_indexOf 1 = .ok (.istore_n 3, 1) := by decide +kernel
theorem dX2_indexOf_2 : decode cX2_indexOf 2 = .ok (.iload_n 3, 1) := by decide +kernel
theorem dX2_indexOf_3 : decode cX2_indexOf 3 = .ok (.aload_n 0, 1) := by decide +kernel
theorem dX2_indexOf_4 : decode cX2_indexOf 4 = .ok (.getfield 22, 3) := by decide +kernel
theorem dX2_indexOf_7 : decode cX2_indexOf 7 = .ok (.if_icmp .ge 22, 3) := by decide +kernel
theorem dX2_indexOf_10 : decode cX2_indexOf 10 = .ok (.aload_n 0, 1) := by decide +kernel
theorem dX2_indexOf_11 : decode cX2_indexOf 11 = .ok (.getfield 9, 3) := by decide +kernel
theorem dX2_indexOf_14 : decode cX2_indexOf 14 = .ok (.iload_n 3, 1) := by decide +kernel
theorem dX2_indexOf_15 : decode cX2_indexOf 15 = .ok (.laload, 1) := by decide +kernel
theorem dX2_indexOf_16 : decode cX2_indexOf 16 = .ok (.lload_n 1, 1) := by decide +kernel
theorem dX2_indexOf_17 : decode cX2_indexOf 17 = .ok (.lcmp, 1) := by decide +kernel
theorem dX2_indexOf_18 : decode cX2_indexOf 18 = .ok (.ifCond .ne 5, 3) := by decide +kernel
theorem dX2_indexOf_21 : decode cX2_indexOf 21 = .ok (.iload_n 3, 1) := by decide +kernel
theorem dX2_indexOf_22 : decode cX2_indexOf 22 = .ok (.ireturn, 1) := by decide +kernel
theorem dX2_indexOf_23 : decode cX2_indexOf 23 = .ok (.iinc 3 1, 3) := by decide +kernel
theorem dX2_indexOf_26 : decode cX2_indexOf 26 = .ok (.goto (-24), 3) := by decide +kernel
theorem dX2_indexOf_29 : decode cX2_indexOf 29 = .ok (.iconst (-1), 1) := by decide +kernel
theorem dX2_indexOf_30 : decode cX2_indexOf 30 = .ok (.ireturn, 1) := by decide +kernel
theorem dX3_init_0 : decode cX3_init 0 = .ok (.aload_n 0, 1) := by decide +kernel
theorem dX3_init_1 : decode cX3_init 1 = .ok (.invokespecial 3, 3) := by decide +kernel
theorem dX3_init_4 : decode cX3_init 4 = .ok (.aload_n 0, 1) := by decide +kernel
theorem dX3_init_5 : decode cX3_init 5 = .ok (.bipush 8, 2) := by decide +kernel
theorem dX3_init_7 : decode cX3_init 7 = .ok (.newarray .int, 2) := by decide +kernel
theorem dX3_init_9 : decode cX3_init 9 = .ok (.putfield 9, 3) := by decide +kernel
theorem dX3_init_12 : decode cX3_init 12 = .ok (.aload_n 0, 1) := by decide +kernel
theorem dX3_init_13 : decode cX3_init 13 = .ok (.bipush 8, 2) := by decide +kernel
theorem dX3_init_15 : decode cX3_init 15 = .ok (.newarray .int, 2) := by decide +kernel
theorem dX3_init_17 : decode cX3_init 17 = .ok (.putfield 15, 3) := by decide +kernel
theorem dX3_init_20 : decode cX3_init 20 = .ok (.return_, 1) := by decide +kernel
theorem dX3_from_0 : decode cX3_from 0 = .ok (.aload_n 1, 1) := by decide +kernel
theorem dX3_from_1 : decode cX3_from 1 = .ok (.getfield 18, 3) := by decide +kernel
theorem dX3_from_4 : decode cX3_from 4 = .ok (.astore_n 3, 1) := by decide +kernel
theorem dX3_from_5 : decode cX3_from 5 = .ok (.aload_n 0, 1) := by decide +kernel
theorem dX3_from_6 : decode cX3_from 6 = .ok (.getfield 15, 3) := by decide +kernel
theorem dX3_from_9 : decode cX3_from 9 = .ok (.bipush (-2), 2) := by decide +kernel
theorem dX3_from_11 : decode cX3_from 11 = .ok (.invokestatic 24, 3) := by decide +kernel
theorem dX3_from_14 : decode cX3_from 14 = .ok (.aload_n 0, 1) := by decide +kernel
theorem dX3_from_15 : decode cX3_from 15 = .ok (.getfield 15, 3) := by decide +kernel
theorem dX3_from_18 : decode cX3_from 18 = .ok (.iload_n 2, 1) := by decide +kernel
theorem dX3_from_19 : decode cX3_from 19 = .ok (.iconst (-1), 1) := by decide +kernel
theorem dX3_from_20 : decode cX3_from 20 = .ok (.iastore, 1) := by decide +kernel
theorem dX3_from_21 : decode cX3_from 21 = .ok (.aload_n 0, 1) := by decide +kernel
theorem dX3_from_22 : decode cX3_from 22 = .ok (.getfield 9, 3) := by decide +kernel
theorem dX3_from_25 : decode cX3_from 25 = .ok (.iconst 0, 1) := by decide +kernel
theorem dX3_from_26 : decode cX3_from 26 = .ok (.iload_n 2, 1) := by decide +kernel
theorem dX3_from_27 : decode cX3_from 27 = .ok (.iastore, 1) := by decide +kernel
theorem dX3_from_28 : decode cX3_from 28 = .ok (.aload_n 0, 1) := by decide +kernel
theorem dX3_from_29 : decode cX3_from 29 = .ok (.iconst 1, 1) := by decide +kernel
theorem dX3_from_30 : decode cX3_from 30 = .ok (.putfield 30, 3) := by decide +kernel
theorem dX3_from_33 : decode cX3_from 33 = .ok (.iconst 0, 1) := by decide +kernel
theorem dX3_from_34 : decode cX3_from 34 = .ok (.istore 4, 2) := by decide +kernel
theorem dX3_from_36 : decode cX3_from 36 = .ok (.iload 4, 2) := by decide +kernel
theorem dX3_from_38 : decode cX3_from 38 = .ok (.aload_n 0, 1) := by decide +kernel
theorem dX3_from_39 : decode cX3_from 39 = .ok (.getfield 30, 3) := by decide +kernel
theorem dX3_from_42 : decode cX3_from 42 = .ok (.if_icmp .ge 163, 3) := by decide +kernel
theorem dX3_from_45 : decode cX3_from 45 = .ok (.iload 4, 2) := by decide +kernel
theorem dX3_from_47 : decode cX3_from 47 = .ok (.bipush 8, 2) := by decide +kernel
theorem dX3_from_49 : decode cX3_from 49 = .ok (.if_icmp .ge 156, 3) := by decide +kernel
theorem dX3_from_52 : decode cX3_from 52 = .ok (.iconst 0, 1) := by decide +kernel
theorem dX3_from_53 : decode cX3_from 53 = .ok (.istore 5, 2) := by decide +kernel
theorem dX3_from_55 : decode cX3_from 55 = .ok (.iload 5, 2) := by decide +kernel
theorem dX3_from_57 : decode cX3_from 57 = .ok (.aload_n 3, 1) := by decide +kernel
theorem dX3_from_58 : decode cX3_from 58 = .ok (.getfield 34, 3) := by decide +kernel
theorem dX3_from_61 : decode cX3_from 61 = .ok (.bipush 7, 2) := by decide +kernel
theorem dX3_from_63 : decode cX3_from 63 = .ok (.iaload, 1) := by decide +kernel
theorem dX3_from_64 : decode cX3_from 64 = .ok (.if_icmp .ge 135, 3) := by decide +kernel
theorem dX3_from_67 : decode cX3_from 67 = .ok (.bipush 12, 2) := by decide +kernel
theorem dX3_from_69 : decode cX3_from 69 = .ok (.iload 5, 2) := by decide +kernel
theorem dX3_from_71 : decode cX3_from 71 = .ok (.iadd, 1) := by decide +kernel
theorem dX3_from_72 : decode cX3_from 72 = .ok (.istore 6, 2) := by decide +kernel
theorem dX3_from_74 : decode cX3_from 74 = .ok (.aload_n 3, 1) := by decide +kernel
theorem dX3_from_75 : decode cX3_from 75 = .ok (.getfield 39, 3) := by decide +kernel
theorem dX3_from_78 : decode cX3_from 78 = .ok (.iload 6, 2) := by decide +kernel
theorem dX3_from_80 : decode cX3_from 80 = .ok (.iaload, 1) := by decide +kernel
theorem dX3_from_81 : decode cX3_from 81 = .ok (.istore 7, 2) := by decide +kernel
theorem dX3_from_83 : decode cX3_from 83 = .ok (.aload_n 1, 1) := by decide +kernel
theorem dX3_from_84 : decode cX3_from 84 = .ok (.getfield 42, 3) := by decide +kernel
theorem dX3_from_87 : decode cX3_from 87 = .ok (.iload 6, 2) := by decide +kernel
theorem dX3_from_89 : decode cX3_from 89 = .ok (.baload, 1) := by decide +kernel
theorem dX3_from_90 : decode cX3_from 90 = .ok (.ifCond .eq 24, 3) := by decide +kernel
theorem dX3_from_93 : decode cX3_from 93 = .ok (.aload_n 3, 1) := by decide +kernel
theorem dX3_from_94 : decode cX3_from 94 = .ok (.getfield 46, 3) := by decide +kernel
theorem dX3_from_97 : decode cX3_from 97 = .ok (.iload 6, 2) := by decide +kernel
theorem dX3_from_99 : decode cX3_from 99 = .ok (.iaload, 1) := by decide +kernel
theorem dX3_from_100 : decode cX3_from 100 = .ok (.aload_n 0, 1) := by decide +kernel
theorem dX3_from_101 : decode cX3_from 101 = .ok (.getfield 9, 3) := by decide +kernel
theorem dX3_from_104 : decode cX3_from 104 = .ok (.iload 4, 2) := by decide +kernel
theorem dX3_from_106 : decode cX3_from 106 = .ok (.iaload, 1) := by decide +kernel
theorem dX3_from_107 : decode cX3_from 107 = .ok (.if_icmp .ne 7, 3) := by decide +kernel
theorem dX3_from_110 : decode cX3_from 110 = .ok (.iconst 1, 1) := by decide +kernel
theorem dX3_from_111 : decode cX3_from 111 = .ok (.goto 4, 3) := by decide +kernel
theorem dX3_from_114 : decode cX3_from 114 = .ok (.iconst 0, 1) := by decide +kernel
theorem dX3_from_115 : decode cX3_from 115 = .ok (.istore 8, 2) := by decide +kernel
theorem dX3_from_117 : decode cX3_from 117 = .ok (.iload 8, 2) := by decide +kernel
theorem dX3_from_119 : decode cX3_from 119 = .ok (.ifCond .eq 74, 3) := by decide +kernel
theorem dX3_from_122 : decode cX3_from 122 = .ok (.aload_n 0, 1) := by decide +kernel
theorem dX3_from_123 : decode cX3_from 123 = .ok (.getfield 15, 3) := by decide +kernel
theorem dX3_from_126 : decode cX3_from 126 = .ok (.iload 7, 2) := by decide +kernel
theorem dX3_from_128 : decode cX3_from 128 = .ok (.iaload, 1) := by decide +kernel
theorem dX3_from_129 : decode cX3_from 129 = .ok (.bipush (-2), 2) := by decide +kernel
theorem dX3_from_131 : decode cX3_from 131 = .ok (.if_icmp .ne 62, 3) := by decide +kernel
theorem dX3_from_134 : decode cX3_from 134 = .ok (.aload_n 0, 1) := by decide +kernel
theorem dX3_from_135 : decode cX3_from 135 = .ok (.getfield 30, 3) := by decide +kernel
theorem dX3_from_138 : decode cX3_from 138 = .ok (.bipush 8, 2) := by decide +kernel
theorem dX3_from_140 : decode cX3_from 140 = .ok (.if_icmp .ge 53, 3) := by decide +kernel
theorem dX3_from_143 : decode cX3_from 143 = .ok (.aload_n 0, 1) := by decide +kernel
theorem dX3_from_144 : decode cX3_from 144 = .ok (.getfield 15, 3) := by decide +kernel
theorem dX3_from_147 : decode cX3_from 147 = .ok (.iload 7, 2) := by decide +kernel
theorem dX3_from_149 : decode cX3_from 149 = .ok (.iload 4, 2) := by decide +kernel
theorem dX3_from_151 : decode cX3_from 151 = .ok (.ifCond .ne 8, 3) := by decide +kernel
theorem dX3_from_154 : decode cX3_from 154 = .ok (.iload 6, 2) := by decide +kernel
theorem dX3_from_156 : decode cX3_from 156 = .ok (.goto 15, 3) := by decide +kernel
theorem dX3_from_159 : decode cX3_from 159 = .ok (.aload_n 0, 1) := by decide +kernel
theorem dX3_from_160 : decode cX3_from 160 = .ok (.getfield 15, 3) := by decide +kernel
theorem dX3_from_163 : decode cX3_from 163 = .ok (.aload_n 0, 1) := by decide +kernel
theorem dX3_from_164 : decode cX3_from 164 = .ok (.getfield 9, 3) := by decide +kernel
theorem dX3_from_167 : decode cX3_from 167 = .ok (.iload 4, 2) := by decide +kernel
theorem dX3_from_169 : decode cX3_from 169 = .ok (.iaload, 1) := by decide +kernel
theorem dX3_from_170 : decode cX3_from 170 = .ok (.iaload, 1) := by decide +kernel
theorem dX3_from_171 : decode cX3_from 171 = .ok (.iastore, 1) := by decide +kernel
theorem dX3_from_172 : decode cX3_from 172 = .ok (.aload_n 0, 1) := by decide +kernel
theorem dX3_from_173 : decode cX3_from 173 = .ok (.getfield 9, 3) := by decide +kernel
theorem dX3_from_176 : decode cX3_from 176 = .ok (.aload_n 0, 1) := by decide +kernel
theorem dX3_from_177 : decode cX3_from 177 = .ok (.getfield 30, 3) := by decide +kernel
theorem dX3_from_180 : decode cX3_from 180 = .ok (.iload 7, 2) := by decide +kernel
theorem dX3_from_182 : decode cX3_from 182 = .ok (.iastore, 1) := by decide +kernel
theorem dX3_from_183 : decode cX3_from 183 = .ok (.aload_n 0, 1) := by decide +kernel
theorem dX3_from_184 : decode cX3_from 184 = .ok (.dup, 1) := by decide +kernel
theorem dX3_from_185 : decode cX3_from 185 = .ok (.getfield 30, 3) := by decide +kernel
theorem dX3_from_188 : decode cX3_from 188 = .ok (.iconst 1, 1) := by decide +kernel
theorem dX3_from_189 : decode cX3_from 189 = .ok (.iadd, 1) := by decide +kernel
theorem dX3_from_190 : decode cX3_from 190 = .ok (.putfield 30, 3) := by decide +kernel
theorem dX3_from_193 : decode cX3_from 193 = .ok (.iinc 5 1, 3) := by decide +kernel
theorem dX3_from_196 : decode cX3_from 196 = .ok (.goto (-141), 3) := by decide +kernel
theorem dX3_from_199 : decode cX3_from 199 = .ok (.iinc 4 1, 3) := by decide +kernel
theorem dX3_from_202 : decode cX3_from 202 = .ok (.goto (-166), 3) := by decide +kernel
theorem dX3_from_205 : decode cX3_from 205 = .ok (.return_, 1) := by decide +kernel
theorem dX3_has_0 : decode cX3_has 0 = .ok (.aload_n 0, 1) := by decide +kernel
theorem dX3_has_1 : decode cX3_has 1 = .ok (.getfield 15, 3) := by decide +kernel
theorem dX3_has_4 : decode cX3_has 4 = .ok (.iload_n 1, 1) := by decide +kernel
theorem dX3_has_5 : decode cX3_has 5 = .ok (.iaload, 1) := by decide +kernel
theorem dX3_has_6 : decode cX3_has 6 = .ok (.bipush (-2), 2) := by decide +kernel
theorem dX3_has_8 : decode cX3_has 8 = .ok (.if_icmp .eq 7, 3) := by decide +kernel
theorem dX3_has_11 : decode cX3_has 11 = .ok (.iconst 1, 1) := by decide +kernel
theorem dX3_has_12 : decode cX3_has 12 = .ok (.goto 4, 3) := by decide +kernel
theorem dX3_has_15 : decode cX3_has 15 = .ok (.iconst 0, 1) := by decide +kernel
theorem dX3_has_16 : decode cX3_has 16 = .ok (.ireturn, 1) := by decide +kernel
theorem dX3_leadsBack_0 : decode cX3_leadsBack 0 = .ok (.aload_n 1, 1) := by decide +kernel
theorem dX3_leadsBack_1 : decode cX3_leadsBack 1 = .ok (.getfield 18, 3) := by decide +kernel
theorem dX3_leadsBack_4 : decode cX3_leadsBack 4 = .ok (.astore_n 3, 1) := by decide +kernel
theorem dX3_leadsBack_5 : decode cX3_leadsBack 5 = .ok (.iconst 0, 1) := by decide +kernel
theorem dX3_leadsBack_6 : decode cX3_leadsBack 6 = .ok (.istore 4, 2) := by decide +kernel
theorem dX3_leadsBack_8 : decode cX3_leadsBack 8 = .ok (.iload 4, 2) := by decide +kernel
theorem dX3_leadsBack_10 : decode cX3_leadsBack 10 = .ok (.aload_n 3, 1) := by decide +kernel
theorem dX3_leadsBack_11 : decode cX3_leadsBack 11 = .ok (.getfield 34, 3) := by decide +kernel
theorem dX3_leadsBack_14 : decode cX3_leadsBack 14 = .ok (.bipush 7, 2) := by decide +kernel
theorem dX3_leadsBack_16 : decode cX3_leadsBack 16 = .ok (.iaload, 1) := by decide +kernel
theorem dX3_leadsBack_17 : decode cX3_leadsBack 17 = .ok (.if_icmp .ge 53, 3) := by decide +kernel
theorem dX3_leadsBack_20 : decode cX3_leadsBack 20 = .ok (.bipush 12, 2) := by decide +kernel
theorem dX3_leadsBack_22 : decode cX3_leadsBack 22 = .ok (.iload 4, 2) := by decide +kernel
theorem dX3_leadsBack_24 : decode cX3_leadsBack 24 = .ok (.iadd, 1) := by decide +kernel
theorem dX3_leadsBack_25 : decode cX3_leadsBack 25 = .ok (.istore 5, 2) := by decide +kernel
theorem dX3_leadsBack_27 : decode cX3_leadsBack 27 = .ok (.aload_n 1, 1) := by decide +kernel
theorem dX3_leadsBack_28 : decode cX3_leadsBack 28 = .ok (.getfield 42, 3) := by decide +kernel
theorem dX3_leadsBack_31 : decode cX3_leadsBack 31 = .ok (.iload 5, 2) := by decide +kernel
theorem dX3_leadsBack_33 : decode cX3_leadsBack 33 = .ok (.baload, 1) := by decide +kernel
theorem dX3_leadsBack_34 : decode cX3_leadsBack 34 = .ok (.ifCond .eq 30, 3) := by decide +kernel
theorem dX3_leadsBack_37 : decode cX3_leadsBack 37 = .ok (.aload_n 3, 1) := by decide +kernel
theorem dX3_leadsBack_38 : decode cX3_leadsBack 38 = .ok (.getfield 39, 3) := by decide +kernel
theorem dX3_leadsBack_41 : decode cX3_leadsBack 41 = .ok (.iload 5, 2) := by decide +kernel
theorem dX3_leadsBack_43 : decode cX3_leadsBack 43 = .ok (.iaload, 1) := by decide +kernel
theorem dX3_leadsBack_44 : decode cX3_leadsBack 44 = .ok (.iload_n 2, 1) := by decide +kernel
theorem dX3_leadsBack_45 : decode cX3_leadsBack 45 = .ok (.if_icmp .ne 19, 3) := by decide +kernel
theorem dX3_leadsBack_48 : decode cX3_leadsBack 48 = .ok (.aload_n 0, 1) := by decide +kernel
theorem dX3_leadsBack_49 : decode cX3_leadsBack 49 = .ok (.aload_n 3, 1) := by decide +kernel
theorem dX3_leadsBack_50 : decode cX3_leadsBack 50 = .ok (.getfield 46, 3) := by decide +kernel
theorem dX3_leadsBack_53 : decode cX3_leadsBack 53 = .ok (.iload 5, 2) := by decide +kernel
theorem dX3_leadsBack_55 : decode cX3_leadsBack 55 = .ok (.iaload, 1) := by decide +kernel
theorem dX3_leadsBack_56 : decode cX3_leadsBack 56 = .ok (.invokevirtual 49, 3) := by decide +kernel
theorem dX3_leadsBack_59 : decode cX3_leadsBack 59 = .ok (.ifCond .eq 5, 3) := by decide +kernel
theorem dX3_leadsBack_62 : decode cX3_leadsBack 62 = .ok (.iconst 1, 1) := by decide +kernel
theorem dX3_leadsBack_63 : decode cX3_leadsBack 63 = .ok (.ireturn, 1) := by decide +kernel
theorem dX3_leadsBack_64 : decode cX3_leadsBack 64 = .ok (.iinc 4 1, 3) := by decide +kernel
theorem dX3_leadsBack_67 : decode cX3_leadsBack 67 = .ok (.goto (-59), 3) := by decide +kernel
theorem dX3_leadsBack_70 : decode cX3_leadsBack 70 = .ok (.iconst 0, 1) := by decide +kernel
theorem dX3_leadsBack_71 : decode cX3_leadsBack 71 = .ok (.ireturn, 1) := by decide +kernel
theorem dX4_init_0 : decode cX4_init 0 = .ok (.aload_n 0, 1) := by decide +kernel
theorem dX4_init_1 : decode cX4_init 1 = .ok (.invokespecial 3, 3) := by decide +kernel
theorem dX4_init_4 : decode cX4_init 4 = .ok (.aload_n 0, 1) := by decide +kernel
theorem dX4_init_5 : decode cX4_init 5 = .ok (.new 9, 3) := by decide +kernel
theorem dX4_init_8 : decode cX4_init 8 = .ok (.dup, 1) := by decide +kernel
theorem dX4_init_9 : decode cX4_init 9 = .ok (.invokespecial 11, 3) := by decide +kernel
theorem dX4_init_12 : decode cX4_init 12 = .ok (.putfield 12, 3) := by decide +kernel
theorem dX4_init_15 : decode cX4_init 15 = .ok (.aload_n 0, 1) := by decide +kernel
theorem dX4_init_16 : decode cX4_init 16 = .ok (.bipush 8, 2) := by decide +kernel
theorem dX4_init_18 : decode cX4_init 18 = .ok (.newarray .int, 2) := by decide +kernel
theorem dX4_init_20 : decode cX4_init 20 = .ok (.putfield 18, 3) := by decide +kernel
theorem dX4_init_23 : decode cX4_init 23 = .ok (.aload_n 0, 1) := by decide +kernel
theorem dX4_init_24 : decode cX4_init 24 = .ok (.iconst (-1), 1) := by decide +kernel
theorem dX4_init_25 : decode cX4_init 25 = .ok (.putfield 22, 3) := by decide +kernel
theorem dX4_init_28 : decode cX4_init 28 = .ok (.aload_n 0, 1) := by decide +kernel
theorem dX4_init_29 : decode cX4_init 29 = .ok (.new 26, 3) := by decide +kernel
theorem dX4_init_32 : decode cX4_init 32 = .ok (.dup, 1) := by decide +kernel
theorem dX4_init_33 : decode cX4_init 33 = .ok (.aload_n 1, 1) := by decide +kernel
theorem dX4_init_34 : decode cX4_init 34 = .ok (.invokespecial 28, 3) := by decide +kernel
theorem dX4_init_37 : decode cX4_init 37 = .ok (.putfield 31, 3) := by decide +kernel
theorem dX4_init_40 : decode cX4_init 40 = .ok (.aload_n 0, 1) := by decide +kernel
theorem dX4_init_41 : decode cX4_init 41 = .ok (.aload_n 2, 1) := by decide +kernel
theorem dX4_init_42 : decode cX4_init 42 = .ok (.putfield 35, 3) := by decide +kernel
theorem dX4_init_45 : decode cX4_init 45 = .ok (.return_, 1) := by decide +kernel
theorem dX4_read_0 : decode cX4_read 0 = .ok (.aload_n 0, 1) := by decide +kernel
theorem dX4_read_1 : decode cX4_read 1 = .ok (.aload_n 1, 1) := by decide +kernel
theorem dX4_read_2 : decode cX4_read 2 = .ok (.putfield 35, 3) := by decide +kernel
theorem dX4_read_5 : decode cX4_read 5 = .ok (.aload_n 0, 1) := by decide +kernel
theorem dX4_read_6 : decode cX4_read 6 = .ok (.getfield 35, 3) := by decide +kernel
theorem dX4_read_9 : decode cX4_read 9 = .ok (.invokevirtual 39, 3) := by decide +kernel
theorem dX4_read_12 : decode cX4_read 12 = .ok (.aload_n 0, 1) := by decide +kernel
theorem dX4_read_13 : decode cX4_read 13 = .ok (.getfield 12, 3) := by decide +kernel
theorem dX4_read_16 : decode cX4_read 16 = .ok (.invokevirtual 44, 3) := by decide +kernel
theorem dX4_read_19 : decode cX4_read 19 = .ok (.aload_n 0, 1) := by decide +kernel
theorem dX4_read_20 : decode cX4_read 20 = .ok (.iconst 0, 1) := by decide +kernel
theorem dX4_read_21 : decode cX4_read 21 = .ok (.putfield 45, 3) := by decide +kernel
theorem dX4_read_24 : decode cX4_read 24 = .ok (.aload_n 0, 1) := by decide +kernel
theorem dX4_read_25 : decode cX4_read 25 = .ok (.iconst (-1), 1) := by decide +kernel
theorem dX4_read_26 : decode cX4_read 26 = .ok (.putfield 22, 3) := by decide +kernel
theorem dX4_read_29 : decode cX4_read 29 = .ok (.aload_n 0, 1) := by decide +kernel
theorem dX4_read_30 : decode cX4_read 30 = .ok (.getfield 31, 3) := by decide +kernel
theorem dX4_read_33 : decode cX4_read 33 = .ok (.iload_n 2, 1) := by decide +kernel
theorem dX4_read_34 : decode cX4_read 34 = .ok (.invokevirtual 48, 3) := by decide +kernel
theorem dX4_read_37 : decode cX4_read 37 = .ok (.aload_n 0, 1) := by decide +kernel
theorem dX4_read_38 : decode cX4_read 38 = .ok (.invokevirtual 52, 3) := by decide +kernel
theorem dX4_read_41 : decode cX4_read 41 = .ok (.istore_n 3, 1) := by decide +kernel
theorem dX4_read_42 : decode cX4_read 42 = .ok (.iconst 1, 1) := by decide +kernel
theorem dX4_read_43 : decode cX4_read 43 = .ok (.istore 4, 2) := by decide +kernel
theorem dX4_read_45 : decode cX4_read 45 = .ok (.iload 4, 2) := by decide +kernel
theorem dX4_read_47 : decode cX4_read 47 = .ok (.sipush 900, 3) := by decide +kernel
theorem dX4_read_50 : decode cX4_read 50 = .ok (.if_icmp .ge 43, 3) := by decide +kernel
theorem dX4_read_53 : decode cX4_read 53 = .ok (.iload_n 3, 1) := by decide +kernel
theorem dX4_read_54 : decode cX4_read 54 = .ok (.ifCond .eq 39, 3) := by decide +kernel
theorem dX4_read_57 : decode cX4_read 57 = .ok (.aload_n 0, 1) := by decide +kernel
theorem dX4_read_58 : decode cX4_read 58 = .ok (.getfield 31, 3) := by decide +kernel
theorem dX4_read_61 : decode cX4_read 61 = .ok (.getfield 56, 3) := by decide +kernel
theorem dX4_read_64 : decode cX4_read 64 = .ok (.ifCond .eq 29, 3) := by decide +kernel
theorem dX4_read_67 : decode cX4_read 67 = .ok (.aload_n 0, 1) := by decide +kernel
theorem dX4_read_68 : decode cX4_read 68 = .ok (.invokevirtual 59, 3) := by decide +kernel
theorem dX4_read_71 : decode cX4_read 71 = .ok (.ifCond .eq 14, 3) := by decide +kernel
theorem dX4_read_74 : decode cX4_read 74 = .ok (.aload_n 0, 1) := by decide +kernel
theorem dX4_read_75 : decode cX4_read 75 = .ok (.invokevirtual 52, 3) := by decide +kernel
theorem dX4_read_78 : decode cX4_read 78 = .ok (.ifCond .eq 7, 3) := by decide +kernel
theorem dX4_read_81 : decode cX4_read 81 = .ok (.iconst 1, 1) := by decide +kernel
theorem dX4_read_82 : decode cX4_read 82 = .ok (.goto 4, 3) := by decide +kernel
theorem dX4_read_85 : decode cX4_read 85 = .ok (.iconst 0, 1) := by decide +kernel
theorem dX4_read_86 : decode cX4_read 86 = .ok (.istore_n 3, 1) := by decide +kernel
theorem dX4_read_87 : decode cX4_read 87 = .ok (.iinc 4 1, 3) := by decide +kernel
theorem dX4_read_90 : decode cX4_read 90 = .ok (.goto (-45), 3) := by decide +kernel
theorem dX4_read_93 : decode cX4_read 93 = .ok (.iload_n 3, 1) := by decide +kernel
theorem dX4_read_94 : decode cX4_read 94 = .ok (.ifCond .eq 36, 3) := by decide +kernel
theorem dX4_read_97 : decode cX4_read 97 = .ok (.aload_n 0, 1) := by decide +kernel
theorem dX4_read_98 : decode cX4_read 98 = .ok (.getfield 35, 3) := by decide +kernel
theorem dX4_read_101 : decode cX4_read 101 = .ok (.getfield 62, 3) := by decide +kernel
theorem dX4_read_104 : decode cX4_read 104 = .ok (.iconst 0, 1) := by decide +kernel
theorem dX4_read_105 : decode cX4_read 105 = .ok (.iaload, 1) := by decide +kernel
theorem dX4_read_106 : decode cX4_read 106 = .ok (.iconst 2, 1) := by decide +kernel
theorem dX4_read_107 : decode cX4_read 107 = .ok (.if_icmp .lt 16, 3) := by decide +kernel
theorem dX4_read_110 : decode cX4_read 110 = .ok (.aload_n 0, 1) := by decide +kernel
theorem dX4_read_111 : decode cX4_read 111 = .ok (.getfield 35, 3) := by decide +kernel
theorem dX4_read_114 : decode cX4_read 114 = .ok (.getfield 62, 3) := by decide +kernel
theorem dX4_read_117 : decode cX4_read 117 = .ok (.bipush 10, 2) := by decide +kernel
theorem dX4_read_119 : decode cX4_read 119 = .ok (.iaload, 1) := by decide +kernel
theorem dX4_read_120 : decode cX4_read 120 = .ok (.ifCond .ne 10, 3) := by decide +kernel
theorem dX4_read_123 : decode cX4_read 123 = .ok (.aload_n 0, 1) := by decide +kernel
theorem dX4_read_124 : decode cX4_read 124 = .ok (.bipush 6, 2) := by decide +kernel
theorem dX4_read_126 : decode cX4_read 126 = .ok (.invokevirtual 65, 3) := by decide +kernel
theorem dX4_read_129 : decode cX4_read 129 = .ok (.istore_n 3, 1) := by decide +kernel
theorem dX4_read_130 : decode cX4_read 130 = .ok (.iload_n 3, 1) := by decide +kernel
theorem dX4_read_131 : decode cX4_read 131 = .ok (.ireturn, 1) := by decide +kernel
theorem dX4_failHere_0 : decode cX4_failHere 0 = .ok (.aload_n 0, 1) := by decide +kernel
theorem dX4_failHere_1 : decode cX4_failHere 1 = .ok (.iload_n 1, 1) := by decide +kernel
theorem dX4_failHere_2 : decode cX4_failHere 2 = .ok (.aload_n 0, 1) := by decide +kernel
theorem dX4_failHere_3 : decode cX4_failHere 3 = .ok (.getfield 31, 3) := by decide +kernel
theorem dX4_failHere_6 : decode cX4_failHere 6 = .ok (.getfield 69, 3) := by decide +kernel
theorem dX4_failHere_9 : decode cX4_failHere 9 = .ok (.invokevirtual 72, 3) := by decide +kernel
theorem dX4_failHere_12 : decode cX4_failHere 12 = .ok (.ireturn, 1) := by decide +kernel
theorem dX4_failAt_0 : decode cX4_failAt 0 = .ok (.aload_n 0, 1) := by decide +kernel
theorem dX4_failAt_1 : decode cX4_failAt 1 = .ok (.iload_n 1, 1) := by decide +kernel
theorem dX4_failAt_2 : decode cX4_failAt 2 = .ok (.putfield 45, 3) := by decide +kernel
theorem dX4_failAt_5 : decode cX4_failAt 5 = .ok (.aload_n 0, 1) := by decide +kernel
theorem dX4_failAt_6 : decode cX4_failAt 6 = .ok (.iload_n 2, 1) := by decide +kernel
theorem dX4_failAt_7 : decode cX4_failAt 7 = .ok (.putfield 22, 3) := by decide +kernel
theorem dX4_failAt_10 : decode cX4_failAt 10 = .ok (.iconst 0, 1) := by decide +kernel
theorem dX4_failAt_11 : decode cX4_failAt 11 = .ok (.ireturn, 1) := by decide +kernel
theorem dX4_parting_0 : decode cX4_parting 0 = .ok (.aload_n 0, 1) := by decide +kernel
theorem dX4_parting_1 : decode cX4_parting 1 = .ok (.getfield 31, 3) := by decide +kernel
theorem dX4_parting_4 : decode cX4_parting 4 = .ok (.getfield 56, 3) := by decide +kernel
theorem dX4_parting_7 : decode cX4_parting 7 = .ok (.iconst 3, 1) := by decide +kernel
theorem dX4_parting_8 : decode cX4_parting 8 = .ok (.if_icmp .eq 9, 3) := by decide +kernel
theorem dX4_parting_11 : decode cX4_parting 11 = .ok (.aload_n 0, 1) := by decide +kernel
theorem dX4_parting_12 : decode cX4_parting 12 = .ok (.iconst 1, 1) := by decide +kernel
theorem dX4_parting_13 : decode cX4_parting 13 = .ok (.invokevirtual 65, 3) := by decide +kernel
theorem dX4_parting_16 : decode cX4_parting 16 = .ok (.ireturn, 1) := by decide +kernel
theorem dX4_parting_17 : decode cX4_parting 17 = .ok (.aload_n 0, 1) := by decide +kernel
theorem dX4_parting_18 : decode cX4_parting 18 = .ok (.getfield 31, 3) := by decide +kernel
theorem dX4_parting_21 : decode cX4_parting 21 = .ok (.invokevirtual 76, 3) := by decide +kernel
theorem dX4_parting_24 : decode cX4_parting 24 = .ok (.iconst 1, 1) := by decide +kernel
theorem dX4_parting_25 : decode cX4_parting 25 = .ok (.ireturn, 1) := by decide +kernel
theorem dX4_readLine_0 : decode cX4_readLine 0 = .ok (.aload_n 0, 1) := by decide +kernel
theorem dX4_readLine_1 : decode cX4_readLine 1 = .ok (.getfield 31, 3) := by decide +kernel
theorem dX4_readLine_4 : decode cX4_readLine 4 = .ok (.ldc 79, 2) := by decide +kernel
theorem dX4_readLine_6 : decode cX4_readLine 6 = .ok (.invokevirtual 81, 3) := by decide +kernel
theorem dX4_readLine_9 : decode cX4_readLine 9 = .ok (.istore_n 1, 1) := by decide +kernel
theorem dX4_readLine_10 : decode cX4_readLine 10 = .ok (.iload_n 1, 1) := by decide +kernel
theorem dX4_readLine_11 : decode cX4_readLine 11 = .ok (.ifCond .lt 11, 3) := by decide +kernel
theorem dX4_readLine_14 : decode cX4_readLine 14 = .ok (.iload_n 1, 1) := by decide +kernel
theorem dX4_readLine_15 : decode cX4_readLine 15 = .ok (.getstatic 85, 3) := by decide +kernel
theorem dX4_readLine_18 : decode cX4_readLine 18 = .ok (.arraylength, 1) := by decide +kernel
theorem dX4_readLine_19 : decode cX4_readLine 19 = .ok (.if_icmp .lt 9, 3) := by decide +kernel
theorem dX4_readLine_22 : decode cX4_readLine 22 = .ok (.aload_n 0, 1) := by decide +kernel
theorem dX4_readLine_23 : decode cX4_readLine 23 = .ok (.iconst 1, 1) := by decide +kernel
theorem dX4_readLine_24 : decode cX4_readLine 24 = .ok (.invokevirtual 65, 3) := by decide +kernel
theorem dX4_readLine_27 : decode cX4_readLine 27 = .ok (.ireturn, 1) := by decide +kernel
theorem dX4_readLine_28 : decode cX4_readLine 28 = .ok (.aload_n 0, 1) := by decide +kernel
theorem dX4_readLine_29 : decode cX4_readLine 29 = .ok (.getfield 35, 3) := by decide +kernel
theorem dX4_readLine_32 : decode cX4_readLine 32 = .ok (.getfield 62, 3) := by decide +kernel
theorem dX4_readLine_35 : decode cX4_readLine 35 = .ok (.iload_n 1, 1) := by decide +kernel
theorem dX4_readLine_36 : decode cX4_readLine 36 = .ok (.iaload, 1) := by decide +kernel
theorem dX4_readLine_37 : decode cX4_readLine 37 = .ok (.istore_n 2, 1) := by decide +kernel
theorem dX4_readLine_38 : decode cX4_readLine 38 = .ok (.iload_n 2, 1) := by decide +kernel
theorem dX4_readLine_39 : decode cX4_readLine 39 = .ok (.getstatic 85, 3) := by decide +kernel
theorem dX4_readLine_42 : decode cX4_readLine 42 = .ok (.iload_n 1, 1) := by decide +kernel
theorem dX4_readLine_43 : decode cX4_readLine 43 = .ok (.iaload, 1) := by decide +kernel
theorem dX4_readLine_44 : decode cX4_readLine 44 = .ok (.if_icmp .lt 9, 3) := by decide +kernel
theorem dX4_readLine_47 : decode cX4_readLine 47 = .ok (.aload_n 0, 1) := by decide +kernel
theorem dX4_readLine_48 : decode cX4_readLine 48 = .ok (.iconst 5, 1) := by decide +kernel
theorem dX4_readLine_49 : decode cX4_readLine 49 = .ok (.invokevirtual 65, 3) := by decide +kernel
theorem dX4_readLine_52 : decode cX4_readLine 52 = .ok (.ireturn, 1) := by decide +kernel
theorem dX4_readLine_53 : decode cX4_readLine 53 = .ok (.aload_n 0, 1) := by decide +kernel
theorem dX4_readLine_54 : decode cX4_readLine 54 = .ok (.getfield 31, 3) := by decide +kernel
theorem dX4_readLine_57 : decode cX4_readLine 57 = .ok (.invokevirtual 76, 3) := by decide +kernel
theorem dX4_readLine_60 : decode cX4_readLine 60 = .ok (.aload_n 0, 1) := by decide +kernel
theorem dX4_readLine_61 : decode cX4_readLine 61 = .ok (.iconst 0, 1) := by decide +kernel
theorem dX4_readLine_62 : decode cX4_readLine 62 = .ok (.putfield 88, 3) := by decide +kernel
theorem dX4_readLine_65 : decode cX4_readLine 65 = .ok (.iload_n 1, 1) := by decide +kernel
theorem dX4_readLine_66 : decode cX4_readLine 66 = .ok (.iconst 5, 1) := by decide +kernel
theorem dX4_readLine_67 : decode cX4_readLine 67 = .ok (.if_icmp .ge 12, 3) := by decide +kernel
theorem dX4_readLine_70 : decode cX4_readLine 70 = .ok (.aload_n 0, 1) := by decide +kernel
theorem dX4_readLine_71 : decode cX4_readLine 71 = .ok (.iload_n 1, 1) := by decide +kernel
theorem dX4_readLine_72 : decode cX4_readLine 72 = .ok (.iload_n 2, 1) := by decide +kernel
theorem dX4_readLine_73 : decode cX4_readLine 73 = .ok (.invokevirtual 91, 3) := by decide +kernel
theorem dX4_readLine_76 : decode cX4_readLine 76 = .ok (.goto 9, 3) := by decide +kernel
theorem dX4_readLine_79 : decode cX4_readLine 79 = .ok (.aload_n 0, 1) := by decide +kernel
theorem dX4_readLine_80 : decode cX4_readLine 80 = .ok (.iload_n 1, 1) := by decide +kernel
theorem dX4_readLine_81 : decode cX4_readLine 81 = .ok (.iload_n 2, 1) := by decide +kernel
theorem dX4_readLine_82 : decode cX4_readLine 82 = .ok (.invokevirtual 94, 3) := by decide +kernel
theorem dX4_readLine_85 : decode cX4_readLine 85 = .ok (.istore_n 3, 1) := by decide +kernel
theorem dX4_readLine_86 : decode cX4_readLine 86 = .ok (.iload_n 3, 1) := by decide +kernel
theorem dX4_readLine_87 : decode cX4_readLine 87 = .ok (.ifCond .eq 16, 3) := by decide +kernel
theorem dX4_readLine_90 : decode cX4_readLine 90 = .ok (.aload_n 0, 1) := by decide +kernel
theorem dX4_readLine_91 : decode cX4_readLine 91 = .ok (.getfield 35, 3) := by decide +kernel
theorem dX4_readLine_94 : decode cX4_readLine 94 = .ok (.getfield 62, 3) := by decide +kernel
theorem dX4_readLine_97 : decode cX4_readLine 97 = .ok (.iload_n 1, 1) := by decide +kernel
theorem dX4_readLine_98 : decode cX4_readLine 98 = .ok (.dup2, 1) := by decide +kernel
theorem dX4_readLine_99 : decode cX4_readLine 99 = .ok (.iaload, 1) := by decide +kernel
theorem dX4_readLine_100 : decode cX4_readLine 100 = .ok (.iconst 1, 1) := by decide +kernel
theorem dX4_readLine_101 : decode cX4_readLine 101 = .ok (.iadd, 1) := by decide +kernel
theorem dX4_readLine_102 : decode cX4_readLine 102 = .ok (.iastore, 1) := by decide +kernel
theorem dX4_readLine_103 : decode cX4_readLine 103 = .ok (.iload_n 3, 1) := by decide +kernel
theorem dX4_readLine_104 : decode cX4_readLine 104 = .ok (.ireturn, 1) := by decide +kernel
theorem dX4_landLine_0 : decode cX4_landLine 0 = .ok (.iload_n 1, 1) := by decide +kernel
theorem dX4_landLine_1 : decode cX4_landLine 1 = .ok (.tableswitch 240 2 4 #[27, 88, 155], 27) := by decide +kernel
theorem dX4_landLine_28 : decode cX4_landLine 28 = .ok (.aload_n 0, 1) := by decide +kernel
theorem dX4_landLine_29 : decode cX4_landLine 29 = .ok (.iconst 2, 1) := by decide +kernel
theorem dX4_landLine_30 : decode cX4_landLine 30 = .ok (.iload_n 2, 1) := by decide +kernel
theorem dX4_landLine_31 : decode cX4_landLine 31 = .ok (.invokevirtual 97, 3) := by decide +kernel
theorem dX4_landLine_34 : decode cX4_landLine 34 = .ok (.ifCond .eq 53, 3) := by decide +kernel
theorem dX4_landLine_37 : decode cX4_landLine 37 = .ok (.aload_n 0, 1) := by decide +kernel
theorem dX4_landLine_38 : decode cX4_landLine 38 = .ok (.ldc 100, 2) := by decide +kernel
theorem dX4_landLine_40 : decode cX4_landLine 40 = .ok (.invokevirtual 102, 3) := by decide +kernel
theorem dX4_landLine_43 : decode cX4_landLine 43 = .ok (.ifCond .eq 44, 3) := by decide +kernel
theorem dX4_landLine_46 : decode cX4_landLine 46 = .ok (.aload_n 0, 1) := by decide +kernel
theorem dX4_landLine_47 : decode cX4_landLine 47 = .ok (.iconst 0, 1) := by decide +kernel
theorem dX4_landLine_48 : decode cX4_landLine 48 = .ok (.iconst 0, 1) := by decide +kernel
theorem dX4_landLine_49 : decode cX4_landLine 49 = .ok (.invokevirtual 106, 3) := by decide +kernel
theorem dX4_landLine_52 : decode cX4_landLine 52 = .ok (.ifCond .eq 35, 3) := by decide +kernel
theorem dX4_landLine_55 : decode cX4_landLine 55 = .ok (.aload_n 0, 1) := by decide +kernel
theorem dX4_landLine_56 : decode cX4_landLine 56 = .ok (.ldc 109, 2) := by decide +kernel
theorem dX4_landLine_58 : decode cX4_landLine 58 = .ok (.invokevirtual 102, 3) := by decide +kernel
theorem dX4_landLine_61 : decode cX4_landLine 61 = .ok (.ifCond .eq 26, 3) := by decide +kernel
theorem dX4_landLine_64 : decode cX4_landLine 64 = .ok (.aload_n 0, 1) := by decide +kernel
theorem dX4_landLine_65 : decode cX4_landLine 65 = .ok (.iconst 0, 1) := by decide +kernel
theorem dX4_landLine_66 : decode cX4_landLine 66 = .ok (.sipush 999, 3) := by decide +kernel
theorem dX4_landLine_69 : decode cX4_landLine 69 = .ok (.invokevirtual 111, 3) := by decide +kernel
theorem dX4_landLine_72 : decode cX4_landLine 72 = .ok (.ifCond .eq 15, 3) := by decide +kernel
theorem dX4_landLine_75 : decode cX4_landLine 75 = .ok (.aload_n 0, 1) := by decide +kernel
theorem dX4_landLine_76 : decode cX4_landLine 76 = .ok (.iload_n 2, 1) := by decide +kernel
theorem dX4_landLine_77 : decode cX4_landLine 77 = .ok (.invokevirtual 114, 3) := by decide +kernel
theorem dX4_landLine_80 : decode cX4_landLine 80 = .ok (.ifCond .eq 7, 3) := by decide +kernel
theorem dX4_landLine_83 : decode cX4_landLine 83 = .ok (.iconst 1, 1) := by decide +kernel
theorem dX4_landLine_84 : decode cX4_landLine 84 = .ok (.goto 4, 3) := by decide +kernel
theorem dX4_landLine_87 : decode cX4_landLine 87 = .ok (.iconst 0, 1) := by decide +kernel
theorem dX4_landLine_88 : decode cX4_landLine 88 = .ok (.ireturn, 1) := by decide +kernel
theorem dX4_landLine_89 : decode cX4_landLine 89 = .ok (.aload_n 0, 1) := by decide +kernel
theorem dX4_landLine_90 : decode cX4_landLine 90 = .ok (.iconst 0, 1) := by decide +kernel
theorem dX4_landLine_91 : decode cX4_landLine 91 = .ok (.iconst 0, 1) := by decide +kernel
theorem dX4_landLine_92 : decode cX4_landLine 92 = .ok (.invokevirtual 106, 3) := by decide +kernel
theorem dX4_landLine_95 : decode cX4_landLine 95 = .ok (.ifCond .eq 59, 3) := by decide +kernel
theorem dX4_landLine_98 : decode cX4_landLine 98 = .ok (.aload_n 0, 1) := by decide +kernel
theorem dX4_landLine_99 : decode cX4_landLine 99 = .ok (.ldc 117, 2) := by decide +kernel
theorem dX4_landLine_101 : decode cX4_landLine 101 = .ok (.invokevirtual 102, 3) := by decide +kernel
theorem dX4_landLine_104 : decode cX4_landLine 104 = .ok (.ifCond .eq 50, 3) := by decide +kernel
theorem dX4_landLine_107 : decode cX4_landLine 107 = .ok (.aload_n 0, 1) := by decide +kernel
theorem dX4_landLine_108 : decode cX4_landLine 108 = .ok (.iconst 0, 1) := by decide +kernel
theorem dX4_landLine_109 : decode cX4_landLine 109 = .ok (.iconst 0, 1) := by decide +kernel
theorem dX4_landLine_110 : decode cX4_landLine 110 = .ok (.invokevirtual 106, 3) := by decide +kernel
theorem dX4_landLine_113 : decode cX4_landLine 113 = .ok (.ifCond .eq 41, 3) := by decide +kernel
theorem dX4_landLine_116 : decode cX4_landLine 116 = .ok (.aload_n 0, 1) := by decide +kernel
theorem dX4_landLine_117 : decode cX4_landLine 117 = .ok (.invokevirtual 119, 3) := by decide +kernel
theorem dX4_landLine_120 : decode cX4_landLine 120 = .ok (.ifCond .eq 34, 3) := by decide +kernel
theorem dX4_landLine_123 : decode cX4_landLine 123 = .ok (.aload_n 0, 1) := by decide +kernel
theorem dX4_landLine_124 : decode cX4_landLine 124 = .ok (.ldc 122, 2) := by decide +kernel
theorem dX4_landLine_126 : decode cX4_landLine 126 = .ok (.invokevirtual 102, 3) := by decide +kernel
theorem dX4_landLine_129 : decode cX4_landLine 129 = .ok (.ifCond .eq 25, 3) := by decide +kernel
theorem dX4_landLine_132 : decode cX4_landLine 132 = .ok (.aload_n 0, 1) := by decide +kernel
theorem dX4_landLine_133 : decode cX4_landLine 133 = .ok (.iconst 1, 1) := by decide +kernel
theorem dX4_landLine_134 : decode cX4_landLine 134 = .ok (.bipush 99, 2) := by decide +kernel
theorem dX4_landLine_136 : decode cX4_landLine 136 = .ok (.invokevirtual 111, 3) := by decide +kernel
theorem dX4_landLine_139 : decode cX4_landLine 139 = .ok (.ifCond .eq 15, 3) := by decide +kernel
theorem dX4_landLine_142 : decode cX4_landLine 142 = .ok (.aload_n 0, 1) := by decide +kernel
theorem dX4_landLine_143 : decode cX4_landLine 143 = .ok (.iconst (-1), 1) := by decide +kernel
theorem dX4_landLine_144 : decode cX4_landLine 144 = .ok (.invokevirtual 124, 3) := by decide +kernel
theorem dX4_landLine_147 : decode cX4_landLine 147 = .ok (.ifCond .eq 7, 3) := by decide +kernel
theorem dX4_landLine_150 : decode cX4_landLine 150 = .ok (.iconst 1, 1) := by decide +kernel
theorem dX4_landLine_151 : decode cX4_landLine 151 = .ok (.goto 4, 3) := by decide +kernel
theorem dX4_landLine_154 : decode cX4_landLine 154 = .ok (.iconst 0, 1) := by decide +kernel
theorem dX4_landLine_155 : decode cX4_landLine 155 = .ok (.ireturn, 1) := by decide +kernel
theorem dX4_landLine_156 : decode cX4_landLine 156 = .ok (.aload_n 0, 1) := by decide +kernel
theorem dX4_landLine_157 : decode cX4_landLine 157 = .ok (.iconst 4, 1) := by decide +kernel
theorem dX4_landLine_158 : decode cX4_landLine 158 = .ok (.iload_n 2, 1) := by decide +kernel
theorem dX4_landLine_159 : decode cX4_landLine 159 = .ok (.invokevirtual 97, 3) := by decide +kernel
theorem dX4_landLine_162 : decode cX4_landLine 162 = .ok (.ifCond .eq 77, 3) := by decide +kernel
theorem dX4_landLine_165 : decode cX4_landLine 165 = .ok (.aload_n 0, 1) := by decide +kernel
theorem dX4_landLine_166 : decode cX4_landLine 166 = .ok (.ldc 127, 2) := by decide +kernel
theorem dX4_landLine_168 : decode cX4_landLine 168 = .ok (.invokevirtual 102, 3) := by decide +kernel
theorem dX4_landLine_171 : decode cX4_landLine 171 = .ok (.ifCond .eq 68, 3) := by decide +kernel
theorem dX4_landLine_174 : decode cX4_landLine 174 = .ok (.aload_n 0, 1) := by decide +kernel
theorem dX4_landLine_175 : decode cX4_landLine 175 = .ok (.iconst 0, 1) := by decide +kernel
theorem dX4_landLine_176 : decode cX4_landLine 176 = .ok (.iconst 0, 1) := by decide +kernel
theorem dX4_landLine_177 : decode cX4_landLine 177 = .ok (.invokevirtual 106, 3) := by decide +kernel
theorem dX4_landLine_180 : decode cX4_landLine 180 = .ok (.ifCond .eq 59, 3) := by decide +kernel
theorem dX4_landLine_183 : decode cX4_landLine 183 = .ok (.aload_n 0, 1) := by decide +kernel
theorem dX4_landLine_184 : decode cX4_landLine 184 = .ok (.ldc 117, 2) := by decide +kernel
theorem dX4_landLine_186 : decode cX4_landLine 186 = .ok (.invokevirtual 102, 3) := by decide +kernel
theorem dX4_landLine_189 : decode cX4_landLine 189 = .ok (.ifCond .eq 50, 3) := by decide +kernel
theorem dX4_landLine_192 : decode cX4_landLine 192 = .ok (.aload_n 0, 1) := by decide +kernel
theorem dX4_landLine_193 : decode cX4_landLine 193 = .ok (.iconst 0, 1) := by decide +kernel
theorem dX4_landLine_194 : decode cX4_landLine 194 = .ok (.iconst 0, 1) := by decide +kernel
theorem dX4_landLine_195 : decode cX4_landLine 195 = .ok (.invokevirtual 106, 3) := by decide +kernel
theorem dX4_landLine_198 : decode cX4_landLine 198 = .ok (.ifCond .eq 41, 3) := by decide +kernel
theorem dX4_landLine_201 : decode cX4_landLine 201 = .ok (.aload_n 0, 1) := by decide +kernel
theorem dX4_landLine_202 : decode cX4_landLine 202 = .ok (.invokevirtual 119, 3) := by decide +kernel
theorem dX4_landLine_205 : decode cX4_landLine 205 = .ok (.ifCond .eq 34, 3) := by decide +kernel
theorem dX4_landLine_208 : decode cX4_landLine 208 = .ok (.aload_n 0, 1) := by decide +kernel
theorem dX4_landLine_209 : decode cX4_landLine 209 = .ok (.ldc 122, 2) := by decide +kernel
theorem dX4_landLine_211 : decode cX4_landLine 211 = .ok (.invokevirtual 102, 3) := by decide +kernel
theorem dX4_landLine_214 : decode cX4_landLine 214 = .ok (.ifCond .eq 25, 3) := by decide +kernel
theorem dX4_landLine_217 : decode cX4_landLine 217 = .ok (.aload_n 0, 1) := by decide +kernel
theorem dX4_landLine_218 : decode cX4_landLine 218 = .ok (.iconst 1, 1) := by decide +kernel
theorem dX4_landLine_219 : decode cX4_landLine 219 = .ok (.bipush 99, 2) := by decide +kernel
theorem dX4_landLine_221 : decode cX4_landLine 221 = .ok (.invokevirtual 111, 3) := by decide +kernel
theorem dX4_landLine_224 : decode cX4_landLine 224 = .ok (.ifCond .eq 15, 3) := by decide +kernel
theorem dX4_landLine_227 : decode cX4_landLine 227 = .ok (.aload_n 0, 1) := by decide +kernel
theorem dX4_landLine_228 : decode cX4_landLine 228 = .ok (.iload_n 2, 1) := by decide +kernel
theorem dX4_landLine_229 : decode cX4_landLine 229 = .ok (.invokevirtual 124, 3) := by decide +kernel
theorem dX4_landLine_232 : decode cX4_landLine 232 = .ok (.ifCond .eq 7, 3) := by decide +kernel
theorem dX4_landLine_235 : decode cX4_landLine 235 = .ok (.iconst 1, 1) := by decide +kernel
theorem dX4_landLine_236 : decode cX4_landLine 236 = .ok (.goto 4, 3) := by decide +kernel
theorem dX4_landLine_239 : decode cX4_landLine 239 = .ok (.iconst 0, 1) := by decide +kernel
theorem dX4_landLine_240 : decode cX4_landLine 240 = .ok (.ireturn, 1) := by decide +kernel
theorem dX4_landLine_241 : decode cX4_landLine 241 = .ok (.aload_n 0, 1) := by decide +kernel
theorem dX4_landLine_242 : decode cX4_landLine 242 = .ok (.iload_n 1, 1) := by decide +kernel
theorem dX4_landLine_243 : decode cX4_landLine 243 = .ok (.iload_n 2, 1) := by decide +kernel
theorem dX4_landLine_244 : decode cX4_landLine 244 = .ok (.invokevirtual 97, 3) := by decide +kernel
theorem dX4_landLine_247 : decode cX4_landLine 247 = .ok (.ireturn, 1) := by decide +kernel
theorem dX4_paperLine_0 : decode cX4_paperLine 0 = .ok (.iload_n 1, 1) := by decide +kernel
theorem dX4_paperLine_1 : decode cX4_paperLine 1 = .ok (.tableswitch 450 5 10 #[39, 131, 220, 308, 361, 390], 39) := by decide +kernel
theorem dX4_paperLine_40 : decode cX4_paperLine 40 = .ok (.aload_n 0, 1) := by decide +kernel
theorem dX4_paperLine_41 : decode cX4_paperLine 41 = .ok (.iconst 5, 1) := by decide +kernel
theorem dX4_paperLine_42 : decode cX4_paperLine 42 = .ok (.iload_n 2, 1) := by decide +kernel
theorem dX4_paperLine_43 : decode cX4_paperLine 43 = .ok (.invokevirtual 97, 3) := by decide +kernel
theorem dX4_paperLine_46 : decode cX4_paperLine 46 = .ok (.ifCond .eq 84, 3) := by decide +kernel
theorem dX4_paperLine_49 : decode cX4_paperLine 49 = .ok (.aload_n 0, 1) := by decide +kernel
theorem dX4_paperLine_50 : decode cX4_paperLine 50 = .ok (.ldc 129, 2) := by decide +kernel
theorem dX4_paperLine_52 : decode cX4_paperLine 52 = .ok (.invokevirtual 102, 3) := by decide +kernel
theorem dX4_paperLine_55 : decode cX4_paperLine 55 = .ok (.ifCond .eq 75, 3) := by decide +kernel
theorem dX4_paperLine_58 : decode cX4_paperLine 58 = .ok (.aload_n 0, 1) := by decide +kernel
theorem dX4_paperLine_59 : decode cX4_paperLine 59 = .ok (.iconst 4, 1) := by decide +kernel
theorem dX4_paperLine_60 : decode cX4_paperLine 60 = .ok (.iconst 4, 1) := by decide +kernel
theorem dX4_paperLine_61 : decode cX4_paperLine 61 = .ok (.invokevirtual 106, 3) := by decide +kernel
theorem dX4_paperLine_64 : decode cX4_paperLine 64 = .ok (.ifCond .eq 66, 3) := by decide +kernel
theorem dX4_paperLine_67 : decode cX4_paperLine 67 = .ok (.aload_n 0, 1) := by decide +kernel
theorem dX4_paperLine_68 : decode cX4_paperLine 68 = .ok (.ldc 131, 2) := by decide +kernel
theorem dX4_paperLine_70 : decode cX4_paperLine 70 = .ok (.invokevirtual 102, 3) := by decide +kernel
theorem dX4_paperLine_73 : decode cX4_paperLine 73 = .ok (.ifCond .eq 57, 3) := by decide +kernel
theorem dX4_paperLine_76 : decode cX4_paperLine 76 = .ok (.aload_n 0, 1) := by decide +kernel
theorem dX4_paperLine_77 : decode cX4_paperLine 77 = .ok (.invokevirtual 133, 3) := by decide +kernel
theorem dX4_paperLine_80 : decode cX4_paperLine 80 = .ok (.ifCond .ne 12, 3) := by decide +kernel
theorem dX4_paperLine_83 : decode cX4_paperLine 83 = .ok (.aload_n 0, 1) := by decide +kernel
theorem dX4_paperLine_84 : decode cX4_paperLine 84 = .ok (.iconst 1, 1) := by decide +kernel
theorem dX4_paperLine_85 : decode cX4_paperLine 85 = .ok (.iconst 1, 1) := by decide +kernel
theorem dX4_paperLine_86 : decode cX4_paperLine 86 = .ok (.invokevirtual 106, 3) := by decide +kernel
theorem dX4_paperLine_89 : decode cX4_paperLine 89 = .ok (.ifCond .eq 41, 3) := by decide +kernel
theorem dX4_paperLine_92 : decode cX4_paperLine 92 = .ok (.aload_n 0, 1) := by decide +kernel
theorem dX4_paperLine_93 : decode cX4_paperLine 93 = .ok (.ldc 136, 2) := by decide +kernel
theorem dX4_paperLine_95 : decode cX4_paperLine 95 = .ok (.invokevirtual 102, 3) := by decide +kernel
theorem dX4_paperLine_98 : decode cX4_paperLine 98 = .ok (.ifCond .eq 32, 3) := by decide +kernel
theorem dX4_paperLine_101 : decode cX4_paperLine 101 = .ok (.aload_n 0, 1) := by decide +kernel
theorem dX4_paperLine_102 : decode cX4_paperLine 102 = .ok (.iconst 1, 1) := by decide +kernel
theorem dX4_paperLine_103 : decode cX4_paperLine 103 = .ok (.bipush 99, 2) := by decide +kernel
theorem dX4_paperLine_105 : decode cX4_paperLine 105 = .ok (.invokevirtual 111, 3) := by decide +kernel
theorem dX4_paperLine_108 : decode cX4_paperLine 108 = .ok (.ifCond .eq 22, 3) := by decide +kernel
theorem dX4_paperLine_111 : decode cX4_paperLine 111 = .ok (.aload_n 0, 1) := by decide +kernel
theorem dX4_paperLine_112 : decode cX4_paperLine 112 = .ok (.invokevirtual 138, 3) := by decide +kernel
theorem dX4_paperLine_115 : decode cX4_paperLine 115 = .ok (.ifCond .eq 15, 3) := by decide +kernel
theorem dX4_paperLine_118 : decode cX4_paperLine 118 = .ok (.aload_n 0, 1) := by decide +kernel
theorem dX4_paperLine_119 : decode cX4_paperLine 119 = .ok (.iload_n 2, 1) := by decide +kernel
theorem dX4_paperLine_120 : decode cX4_paperLine 120 = .ok (.invokevirtual 141, 3) := by decide +kernel
theorem dX4_paperLine_123 : decode cX4_paperLine 123 = .ok (.ifCond .eq 7, 3) := by decide +kernel
theorem dX4_paperLine_126 : decode cX4_paperLine 126 = .ok (.iconst 1, 1) := by decide +kernel
theorem dX4_paperLine_127 : decode cX4_paperLine 127 = .ok (.goto 4, 3) := by decide +kernel
theorem dX4_paperLine_130 : decode cX4_paperLine 130 = .ok (.iconst 0, 1) := by decide +kernel
theorem dX4_paperLine_131 : decode cX4_paperLine 131 = .ok (.ireturn, 1) := by decide +kernel
theorem dX4_paperLine_132 : decode cX4_paperLine 132 = .ok (.aload_n 0, 1) := by decide +kernel
theorem dX4_paperLine_133 : decode cX4_paperLine 133 = .ok (.bipush 6, 2) := by decide +kernel
theorem dX4_paperLine_135 : decode cX4_paperLine 135 = .ok (.bipush 6, 2) := by decide +kernel
theorem dX4_paperLine_137 : decode cX4_paperLine 137 = .ok (.iload_n 2, 1) := by decide +kernel
theorem dX4_paperLine_138 : decode cX4_paperLine 138 = .ok (.iadd, 1) := by decide +kernel
theorem dX4_paperLine_139 : decode cX4_paperLine 139 = .ok (.invokevirtual 97, 3) := by decide +kernel
theorem dX4_paperLine_142 : decode cX4_paperLine 142 = .ok (.ifCond .eq 77, 3) := by decide +kernel
theorem dX4_paperLine_145 : decode cX4_paperLine 145 = .ok (.aload_n 0, 1) := by decide +kernel
theorem dX4_paperLine_146 : decode cX4_paperLine 146 = .ok (.ldc 144, 2) := by decide +kernel
theorem dX4_paperLine_148 : decode cX4_paperLine 148 = .ok (.invokevirtual 102, 3) := by decide +kernel
theorem dX4_paperLine_151 : decode cX4_paperLine 151 = .ok (.ifCond .eq 68, 3) := by decide +kernel
theorem dX4_paperLine_154 : decode cX4_paperLine 154 = .ok (.aload_n 0, 1) := by decide +kernel
theorem dX4_paperLine_155 : decode cX4_paperLine 155 = .ok (.iconst 0, 1) := by decide +kernel
theorem dX4_paperLine_156 : decode cX4_paperLine 156 = .ok (.iconst 0, 1) := by decide +kernel
theorem dX4_paperLine_157 : decode cX4_paperLine 157 = .ok (.invokevirtual 106, 3) := by decide +kernel
theorem dX4_paperLine_160 : decode cX4_paperLine 160 = .ok (.ifCond .eq 59, 3) := by decide +kernel
theorem dX4_paperLine_163 : decode cX4_paperLine 163 = .ok (.aload_n 0, 1) := by decide +kernel
theorem dX4_paperLine_164 : decode cX4_paperLine 164 = .ok (.ldc 131, 2) := by decide +kernel
theorem dX4_paperLine_166 : decode cX4_paperLine 166 = .ok (.invokevirtual 102, 3) := by decide +kernel
theorem dX4_paperLine_169 : decode cX4_paperLine 169 = .ok (.ifCond .eq 50, 3) := by decide +kernel
theorem dX4_paperLine_172 : decode cX4_paperLine 172 = .ok (.aload_n 0, 1) := by decide +kernel
theorem dX4_paperLine_173 : decode cX4_paperLine 173 = .ok (.invokevirtual 133, 3) := by decide +kernel
theorem dX4_paperLine_176 : decode cX4_paperLine 176 = .ok (.ifCond .ne 12, 3) := by decide +kernel
theorem dX4_paperLine_179 : decode cX4_paperLine 179 = .ok (.aload_n 0, 1) := by decide +kernel
theorem dX4_paperLine_180 : decode cX4_paperLine 180 = .ok (.iconst 1, 1) := by decide +kernel
theorem dX4_paperLine_181 : decode cX4_paperLine 181 = .ok (.iconst 1, 1) := by decide +kernel
theorem dX4_paperLine_182 : decode cX4_paperLine 182 = .ok (.invokevirtual 106, 3) := by decide +kernel
theorem dX4_paperLine_185 : decode cX4_paperLine 185 = .ok (.ifCond .eq 34, 3) := by decide +kernel
theorem dX4_paperLine_188 : decode cX4_paperLine 188 = .ok (.aload_n 0, 1) := by decide +kernel
theorem dX4_paperLine_189 : decode cX4_paperLine 189 = .ok (.ldc 146, 2) := by decide +kernel
theorem dX4_paperLine_191 : decode cX4_paperLine 191 = .ok (.invokevirtual 148, 3) := by decide +kernel
theorem dX4_paperLine_194 : decode cX4_paperLine 194 = .ok (.ifCond .eq 25, 3) := by decide +kernel
theorem dX4_paperLine_197 : decode cX4_paperLine 197 = .ok (.aload_n 0, 1) := by decide +kernel
theorem dX4_paperLine_198 : decode cX4_paperLine 198 = .ok (.invokevirtual 138, 3) := by decide +kernel
theorem dX4_paperLine_201 : decode cX4_paperLine 201 = .ok (.ifCond .eq 18, 3) := by decide +kernel
theorem dX4_paperLine_204 : decode cX4_paperLine 204 = .ok (.aload_n 0, 1) := by decide +kernel
theorem dX4_paperLine_205 : decode cX4_paperLine 205 = .ok (.bipush 6, 2) := by decide +kernel
theorem dX4_paperLine_207 : decode cX4_paperLine 207 = .ok (.iload_n 2, 1) := by decide +kernel
theorem dX4_paperLine_208 : decode cX4_paperLine 208 = .ok (.iadd, 1) := by decide +kernel
theorem dX4_paperLine_209 : decode cX4_paperLine 209 = .ok (.invokevirtual 141, 3) := by decide +kernel
theorem dX4_paperLine_212 : decode cX4_paperLine 212 = .ok (.ifCond .eq 7, 3) := by decide +kernel
theorem dX4_paperLine_215 : decode cX4_paperLine 215 = .ok (.iconst 1, 1) := by decide +kernel
theorem dX4_paperLine_216 : decode cX4_paperLine 216 = .ok (.goto 4, 3) := by decide +kernel
theorem dX4_paperLine_219 : decode cX4_paperLine 219 = .ok (.iconst 0, 1) := by decide +kernel
theorem dX4_paperLine_220 : decode cX4_paperLine 220 = .ok (.ireturn, 1) := by decide +kernel
theorem dX4_paperLine_221 : decode cX4_paperLine 221 = .ok (.aload_n 0, 1) := by decide +kernel
theorem dX4_paperLine_222 : decode cX4_paperLine 222 = .ok (.bipush 7, 2) := by decide +kernel
theorem dX4_paperLine_224 : decode cX4_paperLine 224 = .ok (.bipush 12, 2) := by decide +kernel
theorem dX4_paperLine_226 : decode cX4_paperLine 226 = .ok (.iload_n 2, 1) := by decide +kernel
theorem dX4_paperLine_227 : decode cX4_paperLine 227 = .ok (.iadd, 1) := by decide +kernel
theorem dX4_paperLine_228 : decode cX4_paperLine 228 = .ok (.invokevirtual 97, 3) := by decide +kernel
theorem dX4_paperLine_231 : decode cX4_paperLine 231 = .ok (.ifCond .eq 76, 3) := by decide +kernel
theorem dX4_paperLine_234 : decode cX4_paperLine 234 = .ok (.aload_n 0, 1) := by decide +kernel
theorem dX4_paperLine_235 : decode cX4_paperLine 235 = .ok (.ldc 144, 2) := by decide +kernel
theorem dX4_paperLine_237 : decode cX4_paperLine 237 = .ok (.invokevirtual 102, 3) := by decide +kernel
theorem dX4_paperLine_240 : decode cX4_paperLine 240 = .ok (.ifCond .eq 67, 3) := by decide +kernel
theorem dX4_paperLine_243 : decode cX4_paperLine 243 = .ok (.aload_n 0, 1) := by decide +kernel
theorem dX4_paperLine_244 : decode cX4_paperLine 244 = .ok (.iconst 0, 1) := by decide +kernel
theorem dX4_paperLine_245 : decode cX4_paperLine 245 = .ok (.iconst 0, 1) := by decide +kernel
theorem dX4_paperLine_246 : decode cX4_paperLine 246 = .ok (.invokevirtual 106, 3) := by decide +kernel
theorem dX4_paperLine_249 : decode cX4_paperLine 249 = .ok (.ifCond .eq 58, 3) := by decide +kernel
theorem dX4_paperLine_252 : decode cX4_paperLine 252 = .ok (.aload_n 0, 1) := by decide +kernel
theorem dX4_paperLine_253 : decode cX4_paperLine 253 = .ok (.ldc 151, 2) := by decide +kernel
theorem dX4_paperLine_255 : decode cX4_paperLine 255 = .ok (.invokevirtual 102, 3) := by decide +kernel
theorem dX4_paperLine_258 : decode cX4_paperLine 258 = .ok (.ifCond .eq 49, 3) := by decide +kernel
theorem dX4_paperLine_261 : decode cX4_paperLine 261 = .ok (.aload_n 0, 1) := by decide +kernel
theorem dX4_paperLine_262 : decode cX4_paperLine 262 = .ok (.iconst 0, 1) := by decide +kernel
theorem dX4_paperLine_263 : decode cX4_paperLine 263 = .ok (.iconst 0, 1) := by decide +kernel
theorem dX4_paperLine_264 : decode cX4_paperLine 264 = .ok (.invokevirtual 106, 3) := by decide +kernel
theorem dX4_paperLine_267 : decode cX4_paperLine 267 = .ok (.ifCond .eq 40, 3) := by decide +kernel
theorem dX4_paperLine_270 : decode cX4_paperLine 270 = .ok (.aload_n 0, 1) := by decide +kernel
theorem dX4_paperLine_271 : decode cX4_paperLine 271 = .ok (.invokevirtual 119, 3) := by decide +kernel
theorem dX4_paperLine_274 : decode cX4_paperLine 274 = .ok (.ifCond .eq 33, 3) := by decide +kernel
theorem dX4_paperLine_277 : decode cX4_paperLine 277 = .ok (.aload_n 0, 1) := by decide +kernel
theorem dX4_paperLine_278 : decode cX4_paperLine 278 = .ok (.iconst 0, 1) := by decide +kernel
theorem dX4_paperLine_279 : decode cX4_paperLine 279 = .ok (.invokevirtual 153, 3) := by decide +kernel
theorem dX4_paperLine_282 : decode cX4_paperLine 282 = .ok (.ifCond .eq 25, 3) := by decide +kernel
theorem dX4_paperLine_285 : decode cX4_paperLine 285 = .ok (.aload_n 0, 1) := by decide +kernel
theorem dX4_paperLine_286 : decode cX4_paperLine 286 = .ok (.invokevirtual 138, 3) := by decide +kernel
theorem dX4_paperLine_289 : decode cX4_paperLine 289 = .ok (.ifCond .eq 18, 3) := by decide +kernel
theorem dX4_paperLine_292 : decode cX4_paperLine 292 = .ok (.aload_n 0, 1) := by decide +kernel
theorem dX4_paperLine_293 : decode cX4_paperLine 293 = .ok (.bipush 12, 2) := by decide +kernel
theorem dX4_paperLine_295 : decode cX4_paperLine 295 = .ok (.iload_n 2, 1) := by decide +kernel
theorem dX4_paperLine_296 : decode cX4_paperLine 296 = .ok (.iadd, 1) := by decide +kernel
theorem dX4_paperLine_297 : decode cX4_paperLine 297 = .ok (.invokevirtual 141, 3) := by decide +kernel
theorem dX4_paperLine_300 : decode cX4_paperLine 300 = .ok (.ifCond .eq 7, 3) := by decide +kernel
theorem dX4_paperLine_303 : decode cX4_paperLine 303 = .ok (.iconst 1, 1) := by decide +kernel
theorem dX4_paperLine_304 : decode cX4_paperLine 304 = .ok (.goto 4, 3) := by decide +kernel
theorem dX4_paperLine_307 : decode cX4_paperLine 307 = .ok (.iconst 0, 1) := by decide +kernel
theorem dX4_paperLine_308 : decode cX4_paperLine 308 = .ok (.ireturn, 1) := by decide +kernel
theorem dX4_paperLine_309 : decode cX4_paperLine 309 = .ok (.aload_n 0, 1) := by decide +kernel
theorem dX4_paperLine_310 : decode cX4_paperLine 310 = .ok (.iconst 5, 1) := by decide +kernel
theorem dX4_paperLine_311 : decode cX4_paperLine 311 = .ok (.bipush 6, 2) := by decide +kernel
theorem dX4_paperLine_313 : decode cX4_paperLine 313 = .ok (.invokevirtual 106, 3) := by decide +kernel
theorem dX4_paperLine_316 : decode cX4_paperLine 316 = .ok (.ifCond .eq 44, 3) := by decide +kernel
theorem dX4_paperLine_319 : decode cX4_paperLine 319 = .ok (.aload_n 0, 1) := by decide +kernel
theorem dX4_paperLine_320 : decode cX4_paperLine 320 = .ok (.ldc 156, 2) := by decide +kernel
theorem dX4_paperLine_322 : decode cX4_paperLine 322 = .ok (.invokevirtual 148, 3) := by decide +kernel
theorem dX4_paperLine_325 : decode cX4_paperLine 325 = .ok (.ifCond .eq 35, 3) := by decide +kernel
theorem dX4_paperLine_328 : decode cX4_paperLine 328 = .ok (.aload_n 0, 1) := by decide +kernel
theorem dX4_paperLine_329 : decode cX4_paperLine 329 = .ok (.ldc 158, 2) := by decide +kernel
theorem dX4_paperLine_331 : decode cX4_paperLine 331 = .ok (.invokevirtual 102, 3) := by decide +kernel
theorem dX4_paperLine_334 : decode cX4_paperLine 334 = .ok (.ifCond .eq 26, 3) := by decide +kernel
theorem dX4_paperLine_337 : decode cX4_paperLine 337 = .ok (.aload_n 0, 1) := by decide +kernel
theorem dX4_paperLine_338 : decode cX4_paperLine 338 = .ok (.iconst 0, 1) := by decide +kernel
theorem dX4_paperLine_339 : decode cX4_paperLine 339 = .ok (.sipush 999, 3) := by decide +kernel
theorem dX4_paperLine_342 : decode cX4_paperLine 342 = .ok (.invokevirtual 111, 3) := by decide +kernel
theorem dX4_paperLine_345 : decode cX4_paperLine 345 = .ok (.ifCond .eq 15, 3) := by decide +kernel
theorem dX4_paperLine_348 : decode cX4_paperLine 348 = .ok (.aload_n 0, 1) := by decide +kernel
theorem dX4_paperLine_349 : decode cX4_paperLine 349 = .ok (.iload_n 2, 1) := by decide +kernel
theorem dX4_paperLine_350 : decode cX4_paperLine 350 = .ok (.invokevirtual 160, 3) := by decide +kernel
theorem dX4_paperLine_353 : decode cX4_paperLine 353 = .ok (.ifCond .eq 7, 3) := by decide +kernel
theorem dX4_paperLine_356 : decode cX4_paperLine 356 = .ok (.iconst 1, 1) := by decide +kernel
theorem dX4_paperLine_357 : decode cX4_paperLine 357 = .ok (.goto 4, 3) := by decide +kernel
theorem dX4_paperLine_360 : decode cX4_paperLine 360 = .ok (.iconst 0, 1) := by decide +kernel
theorem dX4_paperLine_361 : decode cX4_paperLine 361 = .ok (.ireturn, 1) := by decide +kernel
theorem dX4_paperLine_362 : decode cX4_paperLine 362 = .ok (.aload_n 0, 1) := by decide +kernel
theorem dX4_paperLine_363 : decode cX4_paperLine 363 = .ok (.iconst 5, 1) := by decide +kernel
theorem dX4_paperLine_364 : decode cX4_paperLine 364 = .ok (.bipush 7, 2) := by decide +kernel
theorem dX4_paperLine_366 : decode cX4_paperLine 366 = .ok (.invokevirtual 106, 3) := by decide +kernel
theorem dX4_paperLine_369 : decode cX4_paperLine 369 = .ok (.ifCond .eq 20, 3) := by decide +kernel
theorem dX4_paperLine_372 : decode cX4_paperLine 372 = .ok (.aload_n 0, 1) := by decide +kernel
theorem dX4_paperLine_373 : decode cX4_paperLine 373 = .ok (.aload_n 0, 1) := by decide +kernel
theorem dX4_paperLine_374 : decode cX4_paperLine 374 = .ok (.getfield 18, 3) := by decide +kernel
theorem dX4_paperLine_377 : decode cX4_paperLine 377 = .ok (.iconst 0, 1) := by decide +kernel
theorem dX4_paperLine_378 : decode cX4_paperLine 378 = .ok (.iaload, 1) := by decide +kernel
theorem dX4_paperLine_379 : decode cX4_paperLine 379 = .ok (.invokevirtual 163, 3) := by decide +kernel
theorem dX4_paperLine_382 : decode cX4_paperLine 382 = .ok (.ifCond .eq 7, 3) := by decide +kernel
theorem dX4_paperLine_385 : decode cX4_paperLine 385 = .ok (.iconst 1, 1) := by decide +kernel
theorem dX4_paperLine_386 : decode cX4_paperLine 386 = .ok (.goto 4, 3) := by decide +kernel
theorem dX4_paperLine_389 : decode cX4_paperLine 389 = .ok (.iconst 0, 1) := by decide +kernel
theorem dX4_paperLine_390 : decode cX4_paperLine 390 = .ok (.ireturn, 1) := by decide +kernel
theorem dX4_paperLine_391 : decode cX4_paperLine 391 = .ok (.aload_n 0, 1) := by decide +kernel
theorem dX4_paperLine_392 : decode cX4_paperLine 392 = .ok (.bipush 10, 2) := by decide +kernel
theorem dX4_paperLine_394 : decode cX4_paperLine 394 = .ok (.iload_n 2, 1) := by decide +kernel
theorem dX4_paperLine_395 : decode cX4_paperLine 395 = .ok (.invokevirtual 97, 3) := by decide +kernel
theorem dX4_paperLine_398 : decode cX4_paperLine 398 = .ok (.ifCond .eq 51, 3) := by decide +kernel
theorem dX4_paperLine_401 : decode cX4_paperLine 401 = .ok (.aload_n 0, 1) := by decide +kernel
theorem dX4_paperLine_402 : decode cX4_paperLine 402 = .ok (.ldc 166, 2) := by decide +kernel
theorem dX4_paperLine_404 : decode cX4_paperLine 404 = .ok (.invokevirtual 148, 3) := by decide +kernel
theorem dX4_paperLine_407 : decode cX4_paperLine 407 = .ok (.ifCond .eq 42, 3) := by decide +kernel
theorem dX4_paperLine_410 : decode cX4_paperLine 410 = .ok (.aload_n 0, 1) := by decide +kernel
theorem dX4_paperLine_411 : decode cX4_paperLine 411 = .ok (.ldc 168, 2) := by decide +kernel
theorem dX4_paperLine_413 : decode cX4_paperLine 413 = .ok (.invokevirtual 148, 3) := by decide +kernel
theorem dX4_paperLine_416 : decode cX4_paperLine 416 = .ok (.ifCond .eq 33, 3) := by decide +kernel
theorem dX4_paperLine_419 : decode cX4_paperLine 419 = .ok (.aload_n 0, 1) := by decide +kernel
theorem dX4_paperLine_420 : decode cX4_paperLine 420 = .ok (.ldc 170, 2) := by decide +kernel
theorem dX4_paperLine_422 : decode cX4_paperLine 422 = .ok (.invokevirtual 148, 3) := by decide +kernel
theorem dX4_paperLine_425 : decode cX4_paperLine 425 = .ok (.ifCond .eq 24, 3) := by decide +kernel
theorem dX4_paperLine_428 : decode cX4_paperLine 428 = .ok (.aload_n 0, 1) := by decide +kernel
theorem dX4_paperLine_429 : decode cX4_paperLine 429 = .ok (.ldc 172, 2) := by decide +kernel
theorem dX4_paperLine_431 : decode cX4_paperLine 431 = .ok (.invokevirtual 148, 3) := by decide +kernel
theorem dX4_paperLine_434 : decode cX4_paperLine 434 = .ok (.ifCond .eq 15, 3) := by decide +kernel
theorem dX4_paperLine_437 : decode cX4_paperLine 437 = .ok (.aload_n 0, 1) := by decide +kernel
theorem dX4_paperLine_438 : decode cX4_paperLine 438 = .ok (.iload_n 2, 1) := by decide +kernel
theorem dX4_paperLine_439 : decode cX4_paperLine 439 = .ok (.invokevirtual 174, 3) := by decide +kernel
theorem dX4_paperLine_442 : decode cX4_paperLine 442 = .ok (.ifCond .eq 7, 3) := by decide +kernel
theorem dX4_paperLine_445 : decode cX4_paperLine 445 = .ok (.iconst 1, 1) := by decide +kernel
theorem dX4_paperLine_446 : decode cX4_paperLine 446 = .ok (.goto 4, 3) := by decide +kernel
theorem dX4_paperLine_449 : decode cX4_paperLine 449 = .ok (.iconst 0, 1) := by decide +kernel
theorem dX4_paperLine_450 : decode cX4_paperLine 450 = .ok (.ireturn, 1) := by decide +kernel
theorem dX4_paperLine_451 : decode cX4_paperLine 451 = .ok (.aload_n 0, 1) := by decide +kernel
theorem dX4_paperLine_452 : decode cX4_paperLine 452 = .ok (.bipush 11, 2) := by decide +kernel
theorem dX4_paperLine_454 : decode cX4_paperLine 454 = .ok (.iload_n 2, 1) := by decide +kernel
theorem dX4_paperLine_455 : decode cX4_paperLine 455 = .ok (.invokevirtual 97, 3) := by decide +kernel
theorem dX4_paperLine_458 : decode cX4_paperLine 458 = .ok (.ifCond .eq 142, 3) := by decide +kernel
theorem dX4_paperLine_461 : decode cX4_paperLine 461 = .ok (.aload_n 0, 1) := by decide +kernel
theorem dX4_paperLine_462 : decode cX4_paperLine 462 = .ok (.ldc 100, 2) := by decide +kernel
theorem dX4_paperLine_464 : decode cX4_paperLine 464 = .ok (.invokevirtual 102, 3) := by decide +kernel
theorem dX4_paperLine_467 : decode cX4_paperLine 467 = .ok (.ifCond .eq 133, 3) := by decide +kernel
theorem dX4_paperLine_470 : decode cX4_paperLine 470 = .ok (.aload_n 0, 1) := by decide +kernel
theorem dX4_paperLine_471 : decode cX4_paperLine 471 = .ok (.iconst 2, 1) := by decide +kernel
theorem dX4_paperLine_472 : decode cX4_paperLine 472 = .ok (.iconst 2, 1) := by decide +kernel
theorem dX4_paperLine_473 : decode cX4_paperLine 473 = .ok (.invokevirtual 106, 3) := by decide +kernel
theorem dX4_paperLine_476 : decode cX4_paperLine 476 = .ok (.ifCond .eq 124, 3) := by decide +kernel
theorem dX4_paperLine_479 : decode cX4_paperLine 479 = .ok (.aload_n 0, 1) := by decide +kernel
theorem dX4_paperLine_480 : decode cX4_paperLine 480 = .ok (.ldc 177, 2) := by decide +kernel
theorem dX4_paperLine_482 : decode cX4_paperLine 482 = .ok (.invokevirtual 102, 3) := by decide +kernel
theorem dX4_paperLine_485 : decode cX4_paperLine 485 = .ok (.ifCond .eq 115, 3) := by decide +kernel
theorem dX4_paperLine_488 : decode cX4_paperLine 488 = .ok (.aload_n 0, 1) := by decide +kernel
theorem dX4_paperLine_489 : decode cX4_paperLine 489 = .ok (.iconst 1, 1) := by decide +kernel
theorem dX4_paperLine_490 : decode cX4_paperLine 490 = .ok (.iconst 1, 1) := by decide +kernel
theorem dX4_paperLine_491 : decode cX4_paperLine 491 = .ok (.invokevirtual 106, 3) := by decide +kernel
theorem dX4_paperLine_494 : decode cX4_paperLine 494 = .ok (.ifCond .eq 106, 3) := by decide +kernel
theorem dX4_paperLine_497 : decode cX4_paperLine 497 = .ok (.aload_n 0, 1) := by decide +kernel
theorem dX4_paperLine_498 : decode cX4_paperLine 498 = .ok (.ldc 179, 2) := by decide +kernel
theorem dX4_paperLine_500 : decode cX4_paperLine 500 = .ok (.invokevirtual 148, 3) := by decide +kernel
theorem dX4_paperLine_503 : decode cX4_paperLine 503 = .ok (.ifCond .eq 97, 3) := by decide +kernel
theorem dX4_paperLine_506 : decode cX4_paperLine 506 = .ok (.aload_n 0, 1) := by decide +kernel
theorem dX4_paperLine_507 : decode cX4_paperLine 507 = .ok (.ldc 181, 2) := by decide +kernel
theorem dX4_paperLine_509 : decode cX4_paperLine 509 = .ok (.invokevirtual 102, 3) := by decide +kernel
theorem dX4_paperLine_512 : decode cX4_paperLine 512 = .ok (.ifCond .eq 88, 3) := by decide +kernel
theorem dX4_paperLine_515 : decode cX4_paperLine 515 = .ok (.aload_n 0, 1) := by decide +kernel
theorem dX4_paperLine_516 : decode cX4_paperLine 516 = .ok (.iconst 1, 1) := by decide +kernel
theorem dX4_paperLine_517 : decode cX4_paperLine 517 = .ok (.bipush 99, 2) := by decide +kernel
theorem dX4_paperLine_519 : decode cX4_paperLine 519 = .ok (.invokevirtual 111, 3) := by decide +kernel
theorem dX4_paperLine_522 : decode cX4_paperLine 522 = .ok (.ifCond .eq 78, 3) := by decide +kernel
theorem dX4_paperLine_525 : decode cX4_paperLine 525 = .ok (.aload_n 0, 1) := by decide +kernel
theorem dX4_paperLine_526 : decode cX4_paperLine 526 = .ok (.ldc 183, 2) := by decide +kernel
theorem dX4_paperLine_528 : decode cX4_paperLine 528 = .ok (.invokevirtual 102, 3) := by decide +kernel
theorem dX4_paperLine_531 : decode cX4_paperLine 531 = .ok (.ifCond .eq 69, 3) := by decide +kernel
theorem dX4_paperLine_534 : decode cX4_paperLine 534 = .ok (.aload_n 0, 1) := by decide +kernel
theorem dX4_paperLine_535 : decode cX4_paperLine 535 = .ok (.iconst 0, 1) := by decide +kernel
theorem dX4_paperLine_536 : decode cX4_paperLine 536 = .ok (.iconst 0, 1) := by decide +kernel
theorem dX4_paperLine_537 : decode cX4_paperLine 537 = .ok (.invokevirtual 106, 3) := by decide +kernel
theorem dX4_paperLine_540 : decode cX4_paperLine 540 = .ok (.ifCond .eq 60, 3) := by decide +kernel
theorem dX4_paperLine_543 : decode cX4_paperLine 543 = .ok (.aload_n 0, 1) := by decide +kernel
theorem dX4_paperLine_544 : decode cX4_paperLine 544 = .ok (.ldc 117, 2) := by decide +kernel
theorem dX4_paperLine_546 : decode cX4_paperLine 546 = .ok (.invokevirtual 102, 3) := by decide +kernel
theorem dX4_paperLine_549 : decode cX4_paperLine 549 = .ok (.ifCond .eq 51, 3) := by decide +kernel
theorem dX4_paperLine_552 : decode cX4_paperLine 552 = .ok (.aload_n 0, 1) := by decide +kernel
theorem dX4_paperLine_553 : decode cX4_paperLine 553 = .ok (.iconst 0, 1) := by decide +kernel
theorem dX4_paperLine_554 : decode cX4_paperLine 554 = .ok (.iconst 0, 1) := by decide +kernel
theorem dX4_paperLine_555 : decode cX4_paperLine 555 = .ok (.invokevirtual 106, 3) := by decide +kernel
theorem dX4_paperLine_558 : decode cX4_paperLine 558 = .ok (.ifCond .eq 42, 3) := by decide +kernel
theorem dX4_paperLine_561 : decode cX4_paperLine 561 = .ok (.aload_n 0, 1) := by decide +kernel
theorem dX4_paperLine_562 : decode cX4_paperLine 562 = .ok (.invokevirtual 119, 3) := by decide +kernel
theorem dX4_paperLine_565 : decode cX4_paperLine 565 = .ok (.ifCond .eq 35, 3) := by decide +kernel
theorem dX4_paperLine_568 : decode cX4_paperLine 568 = .ok (.aload_n 0, 1) := by decide +kernel
theorem dX4_paperLine_569 : decode cX4_paperLine 569 = .ok (.ldc 158, 2) := by decide +kernel
theorem dX4_paperLine_571 : decode cX4_paperLine 571 = .ok (.invokevirtual 102, 3) := by decide +kernel
theorem dX4_paperLine_574 : decode cX4_paperLine 574 = .ok (.ifCond .eq 26, 3) := by decide +kernel
theorem dX4_paperLine_577 : decode cX4_paperLine 577 = .ok (.aload_n 0, 1) := by decide +kernel
theorem dX4_paperLine_578 : decode cX4_paperLine 578 = .ok (.iconst 0, 1) := by decide +kernel
theorem dX4_paperLine_579 : decode cX4_paperLine 579 = .ok (.sipush 999, 3) := by decide +kernel
theorem dX4_paperLine_582 : decode cX4_paperLine 582 = .ok (.invokevirtual 111, 3) := by decide +kernel
theorem dX4_paperLine_585 : decode cX4_paperLine 585 = .ok (.ifCond .eq 15, 3) := by decide +kernel
theorem dX4_paperLine_588 : decode cX4_paperLine 588 = .ok (.aload_n 0, 1) := by decide +kernel
theorem dX4_paperLine_589 : decode cX4_paperLine 589 = .ok (.iload_n 2, 1) := by decide +kernel
theorem dX4_paperLine_590 : decode cX4_paperLine 590 = .ok (.invokevirtual 185, 3) := by decide +kernel
theorem dX4_paperLine_593 : decode cX4_paperLine 593 = .ok (.ifCond .eq 7, 3) := by decide +kernel
theorem dX4_paperLine_596 : decode cX4_paperLine 596 = .ok (.iconst 1, 1) := by decide +kernel
theorem dX4_paperLine_597 : decode cX4_paperLine 597 = .ok (.goto 4, 3) := by decide +kernel
theorem dX4_paperLine_600 : decode cX4_paperLine 600 = .ok (.iconst 0, 1) := by decide +kernel
theorem dX4_paperLine_601 : decode cX4_paperLine 601 = .ok (.ireturn, 1) := by decide +kernel
theorem dX4_keepMan_0 : decode cX4_keepMan 0 = .ok (.aload_n 0, 1) := by decide +kernel
theorem dX4_keepMan_1 : decode cX4_keepMan 1 = .ok (.getfield 35, 3) := by decide +kernel
theorem dX4_keepMan_4 : decode cX4_keepMan 4 = .ok (.getfield 188, 3) := by decide +kernel
theorem dX4_keepMan_7 : decode cX4_keepMan 7 = .ok (.iload_n 1, 1) := by decide +kernel
theorem dX4_keepMan_8 : decode cX4_keepMan 8 = .ok (.aload_n 0, 1) := by decide +kernel
theorem dX4_keepMan_9 : decode cX4_keepMan 9 = .ok (.getfield 18, 3) := by decide +kernel
theorem dX4_keepMan_12 : decode cX4_keepMan 12 = .ok (.iconst 0, 1) := by decide +kernel
theorem dX4_keepMan_13 : decode cX4_keepMan 13 = .ok (.iaload, 1) := by decide +kernel
theorem dX4_keepMan_14 : decode cX4_keepMan 14 = .ok (.iastore, 1) := by decide +kernel
theorem dX4_keepMan_15 : decode cX4_keepMan 15 = .ok (.aload_n 0, 1) := by decide +kernel
theorem dX4_keepMan_16 : decode cX4_keepMan 16 = .ok (.getfield 35, 3) := by decide +kernel
theorem dX4_keepMan_19 : decode cX4_keepMan 19 = .ok (.getfield 191, 3) := by decide +kernel
theorem dX4_keepMan_22 : decode cX4_keepMan 22 = .ok (.iload_n 1, 1) := by decide +kernel
theorem dX4_keepMan_23 : decode cX4_keepMan 23 = .ok (.aload_n 0, 1) := by decide +kernel
theorem dX4_keepMan_24 : decode cX4_keepMan 24 = .ok (.getfield 18, 3) := by decide +kernel
theorem dX4_keepMan_27 : decode cX4_keepMan 27 = .ok (.iconst 1, 1) := by decide +kernel
theorem dX4_keepMan_28 : decode cX4_keepMan 28 = .ok (.iaload, 1) := by decide +kernel
theorem dX4_keepMan_29 : decode cX4_keepMan 29 = .ok (.iastore, 1) := by decide +kernel
theorem dX4_keepMan_30 : decode cX4_keepMan 30 = .ok (.iconst 1, 1) := by decide +kernel
theorem dX4_keepMan_31 : decode cX4_keepMan 31 = .ok (.ireturn, 1) := by decide +kernel
theorem dX4_keepLink_0 : decode cX4_keepLink 0 = .ok (.aload_n 0, 1) := by decide +kernel
theorem dX4_keepLink_1 : decode cX4_keepLink 1 = .ok (.getfield 35, 3) := by decide +kernel
theorem dX4_keepLink_4 : decode cX4_keepLink 4 = .ok (.invokevirtual 194, 3) := by decide +kernel
theorem dX4_keepLink_7 : decode cX4_keepLink 7 = .ok (.istore_n 2, 1) := by decide +kernel
theorem dX4_keepLink_8 : decode cX4_keepLink 8 = .ok (.iload_n 2, 1) := by decide +kernel
theorem dX4_keepLink_9 : decode cX4_keepLink 9 = .ok (.bipush 20, 2) := by decide +kernel
theorem dX4_keepLink_11 : decode cX4_keepLink 11 = .ok (.if_icmp .ge 58, 3) := by decide +kernel
theorem dX4_keepLink_14 : decode cX4_keepLink 14 = .ok (.aload_n 0, 1) := by decide +kernel
theorem dX4_keepLink_15 : decode cX4_keepLink 15 = .ok (.getfield 35, 3) := by decide +kernel
theorem dX4_keepLink_18 : decode cX4_keepLink 18 = .ok (.getfield 198, 3) := by decide +kernel
theorem dX4_keepLink_21 : decode cX4_keepLink 21 = .ok (.iload_n 2, 1) := by decide +kernel
theorem dX4_keepLink_22 : decode cX4_keepLink 22 = .ok (.aload_n 0, 1) := by decide +kernel
theorem dX4_keepLink_23 : decode cX4_keepLink 23 = .ok (.getfield 18, 3) := by decide +kernel
theorem dX4_keepLink_26 : decode cX4_keepLink 26 = .ok (.iconst 0, 1) := by decide +kernel
theorem dX4_keepLink_27 : decode cX4_keepLink 27 = .ok (.iaload, 1) := by decide +kernel
theorem dX4_keepLink_28 : decode cX4_keepLink 28 = .ok (.iastore, 1) := by decide +kernel
theorem dX4_keepLink_29 : decode cX4_keepLink 29 = .ok (.aload_n 0, 1) := by decide +kernel
theorem dX4_keepLink_30 : decode cX4_keepLink 30 = .ok (.getfield 35, 3) := by decide +kernel
theorem dX4_keepLink_33 : decode cX4_keepLink 33 = .ok (.getfield 201, 3) := by decide +kernel
theorem dX4_keepLink_36 : decode cX4_keepLink 36 = .ok (.iload_n 2, 1) := by decide +kernel
theorem dX4_keepLink_37 : decode cX4_keepLink 37 = .ok (.aload_n 0, 1) := by decide +kernel
theorem dX4_keepLink_38 : decode cX4_keepLink 38 = .ok (.getfield 18, 3) := by decide +kernel
theorem dX4_keepLink_41 : decode cX4_keepLink 41 = .ok (.iconst 1, 1) := by decide +kernel
theorem dX4_keepLink_42 : decode cX4_keepLink 42 = .ok (.iaload, 1) := by decide +kernel
theorem dX4_keepLink_43 : decode cX4_keepLink 43 = .ok (.iastore, 1) := by decide +kernel
theorem dX4_keepLink_44 : decode cX4_keepLink 44 = .ok (.aload_n 0, 1) := by decide +kernel
theorem dX4_keepLink_45 : decode cX4_keepLink 45 = .ok (.getfield 35, 3) := by decide +kernel
theorem dX4_keepLink_48 : decode cX4_keepLink 48 = .ok (.getfield 204, 3) := by decide +kernel
theorem dX4_keepLink_51 : decode cX4_keepLink 51 = .ok (.iload_n 2, 1) := by decide +kernel
theorem dX4_keepLink_52 : decode cX4_keepLink 52 = .ok (.aload_n 0, 1) := by decide +kernel
theorem dX4_keepLink_53 : decode cX4_keepLink 53 = .ok (.getfield 18, 3) := by decide +kernel
theorem dX4_keepLink_56 : decode cX4_keepLink 56 = .ok (.iconst 2, 1) := by decide +kernel
theorem dX4_keepLink_57 : decode cX4_keepLink 57 = .ok (.iaload, 1) := by decide +kernel
theorem dX4_keepLink_58 : decode cX4_keepLink 58 = .ok (.iastore, 1) := by decide +kernel
theorem dX4_keepLink_59 : decode cX4_keepLink 59 = .ok (.aload_n 0, 1) := by decide +kernel
theorem dX4_keepLink_60 : decode cX4_keepLink 60 = .ok (.getfield 35, 3) := by decide +kernel
theorem dX4_keepLink_63 : decode cX4_keepLink 63 = .ok (.getfield 207, 3) := by decide +kernel
theorem dX4_keepLink_66 : decode cX4_keepLink 66 = .ok (.iload_n 2, 1) := by decide +kernel
theorem dX4_keepLink_67 : decode cX4_keepLink 67 = .ok (.iload_n 1, 1) := by decide +kernel
theorem dX4_keepLink_68 : decode cX4_keepLink 68 = .ok (.iastore, 1) := by decide +kernel
theorem dX4_keepLink_69 : decode cX4_keepLink 69 = .ok (.iconst 1, 1) := by decide +kernel
theorem dX4_keepLink_70 : decode cX4_keepLink 70 = .ok (.ireturn, 1) := by decide +kernel
theorem dX4_keepGrant_0 : decode cX4_keepGrant 0 = .ok (.aload_n 0, 1) := by decide +kernel
theorem dX4_keepGrant_1 : decode cX4_keepGrant 1 = .ok (.getfield 35, 3) := by decide +kernel
theorem dX4_keepGrant_4 : decode cX4_keepGrant 4 = .ok (.getfield 210, 3) := by decide +kernel
theorem dX4_keepGrant_7 : decode cX4_keepGrant 7 = .ok (.iload_n 1, 1) := by decide +kernel
theorem dX4_keepGrant_8 : decode cX4_keepGrant 8 = .ok (.aload_n 0, 1) := by decide +kernel
theorem dX4_keepGrant_9 : decode cX4_keepGrant 9 = .ok (.getfield 18, 3) := by decide +kernel
theorem dX4_keepGrant_12 : decode cX4_keepGrant 12 = .ok (.iconst 0, 1) := by decide +kernel
theorem dX4_keepGrant_13 : decode cX4_keepGrant 13 = .ok (.iaload, 1) := by decide +kernel
theorem dX4_keepGrant_14 : decode cX4_keepGrant 14 = .ok (.iastore, 1) := by decide +kernel
theorem dX4_keepGrant_15 : decode cX4_keepGrant 15 = .ok (.aload_n 0, 1) := by decide +kernel
theorem dX4_keepGrant_16 : decode cX4_keepGrant 16 = .ok (.getfield 35, 3) := by decide +kernel
theorem dX4_keepGrant_19 : decode cX4_keepGrant 19 = .ok (.getfield 213, 3) := by decide +kernel
theorem dX4_keepGrant_22 : decode cX4_keepGrant 22 = .ok (.iload_n 1, 1) := by decide +kernel
theorem dX4_keepGrant_23 : decode cX4_keepGrant 23 = .ok (.aload_n 0, 1) := by decide +kernel
theorem dX4_keepGrant_24 : decode cX4_keepGrant 24 = .ok (.getfield 18, 3) := by decide +kernel
theorem dX4_keepGrant_27 : decode cX4_keepGrant 27 = .ok (.iconst 1, 1) := by decide +kernel
theorem dX4_keepGrant_28 : decode cX4_keepGrant 28 = .ok (.iaload, 1) := by decide +kernel
theorem dX4_keepGrant_29 : decode cX4_keepGrant 29 = .ok (.iastore, 1) := by decide +kernel
theorem dX4_keepGrant_30 : decode cX4_keepGrant 30 = .ok (.aload_n 0, 1) := by decide +kernel
theorem dX4_keepGrant_31 : decode cX4_keepGrant 31 = .ok (.getfield 35, 3) := by decide +kernel
theorem dX4_keepGrant_34 : decode cX4_keepGrant 34 = .ok (.getfield 216, 3) := by decide +kernel
theorem dX4_keepGrant_37 : decode cX4_keepGrant 37 = .ok (.iload_n 1, 1) := by decide +kernel
theorem dX4_keepGrant_38 : decode cX4_keepGrant 38 = .ok (.aload_n 0, 1) := by decide +kernel
theorem dX4_keepGrant_39 : decode cX4_keepGrant 39 = .ok (.getfield 18, 3) := by decide +kernel
theorem dX4_keepGrant_42 : decode cX4_keepGrant 42 = .ok (.iconst 2, 1) := by decide +kernel
theorem dX4_keepGrant_43 : decode cX4_keepGrant 43 = .ok (.iaload, 1) := by decide +kernel
theorem dX4_keepGrant_44 : decode cX4_keepGrant 44 = .ok (.iastore, 1) := by decide +kernel
theorem dX4_keepGrant_45 : decode cX4_keepGrant 45 = .ok (.aload_n 0, 1) := by decide +kernel
theorem dX4_keepGrant_46 : decode cX4_keepGrant 46 = .ok (.getfield 35, 3) := by decide +kernel
theorem dX4_keepGrant_49 : decode cX4_keepGrant 49 = .ok (.getfield 219, 3) := by decide +kernel
theorem dX4_keepGrant_52 : decode cX4_keepGrant 52 = .ok (.iload_n 1, 1) := by decide +kernel
theorem dX4_keepGrant_53 : decode cX4_keepGrant 53 = .ok (.aload_n 0, 1) := by decide +kernel
theorem dX4_keepGrant_54 : decode cX4_keepGrant 54 = .ok (.getfield 18, 3) := by decide +kernel
theorem dX4_keepGrant_57 : decode cX4_keepGrant 57 = .ok (.iconst 3, 1) := by decide +kernel
theorem dX4_keepGrant_58 : decode cX4_keepGrant 58 = .ok (.iaload, 1) := by decide +kernel
theorem dX4_keepGrant_59 : decode cX4_keepGrant 59 = .ok (.iastore, 1) := by decide +kernel
theorem dX4_keepGrant_60 : decode cX4_keepGrant 60 = .ok (.aload_n 0, 1) := by decide +kernel
theorem dX4_keepGrant_61 : decode cX4_keepGrant 61 = .ok (.getfield 35, 3) := by decide +kernel
theorem dX4_keepGrant_64 : decode cX4_keepGrant 64 = .ok (.getfield 222, 3) := by decide +kernel
theorem dX4_keepGrant_67 : decode cX4_keepGrant 67 = .ok (.iload_n 1, 1) := by decide +kernel
theorem dX4_keepGrant_68 : decode cX4_keepGrant 68 = .ok (.aload_n 0, 1) := by decide +kernel
theorem dX4_keepGrant_69 : decode cX4_keepGrant 69 = .ok (.getfield 18, 3) := by decide +kernel
theorem dX4_keepGrant_72 : decode cX4_keepGrant 72 = .ok (.iconst 4, 1) := by decide +kernel
theorem dX4_keepGrant_73 : decode cX4_keepGrant 73 = .ok (.iaload, 1) := by decide +kernel
theorem dX4_keepGrant_74 : decode cX4_keepGrant 74 = .ok (.iastore, 1) := by decide +kernel
theorem dX4_keepGrant_75 : decode cX4_keepGrant 75 = .ok (.iconst 1, 1) := by decide +kernel
theorem dX4_keepGrant_76 : decode cX4_keepGrant 76 = .ok (.ireturn, 1) := by decide +kernel
theorem dX4_keepRenewal_0 : decode cX4_keepRenewal 0 = .ok (.aload_n 0, 1) := by decide +kernel
theorem dX4_keepRenewal_1 : decode cX4_keepRenewal 1 = .ok (.getfield 35, 3) := by decide +kernel
theorem dX4_keepRenewal_4 : decode cX4_keepRenewal 4 = .ok (.getfield 225, 3) := by decide +kernel
theorem dX4_keepRenewal_7 : decode cX4_keepRenewal 7 = .ok (.iload_n 1, 1) := by decide +kernel
theorem dX4_keepRenewal_8 : decode cX4_keepRenewal 8 = .ok (.aload_n 0, 1) := by decide +kernel
theorem dX4_keepRenewal_9 : decode cX4_keepRenewal 9 = .ok (.getfield 18, 3) := by decide +kernel
theorem dX4_keepRenewal_12 : decode cX4_keepRenewal 12 = .ok (.iconst 0, 1) := by decide +kernel
theorem dX4_keepRenewal_13 : decode cX4_keepRenewal 13 = .ok (.iaload, 1) := by decide +kernel
theorem dX4_keepRenewal_14 : decode cX4_keepRenewal 14 = .ok (.iastore, 1) := by decide +kernel
theorem dX4_keepRenewal_15 : decode cX4_keepRenewal 15 = .ok (.aload_n 0, 1) := by decide +kernel
theorem dX4_keepRenewal_16 : decode cX4_keepRenewal 16 = .ok (.getfield 35, 3) := by decide +kernel
theorem dX4_keepRenewal_19 : decode cX4_keepRenewal 19 = .ok (.getfield 228, 3) := by decide +kernel
theorem dX4_keepRenewal_22 : decode cX4_keepRenewal 22 = .ok (.iload_n 1, 1) := by decide +kernel
theorem dX4_keepRenewal_23 : decode cX4_keepRenewal 23 = .ok (.aload_n 0, 1) := by decide +kernel
theorem dX4_keepRenewal_24 : decode cX4_keepRenewal 24 = .ok (.getfield 18, 3) := by decide +kernel
theorem dX4_keepRenewal_27 : decode cX4_keepRenewal 27 = .ok (.iconst 1, 1) := by decide +kernel
theorem dX4_keepRenewal_28 : decode cX4_keepRenewal 28 = .ok (.iaload, 1) := by decide +kernel
theorem dX4_keepRenewal_29 : decode cX4_keepRenewal 29 = .ok (.iastore, 1) := by decide +kernel
theorem dX4_keepRenewal_30 : decode cX4_keepRenewal 30 = .ok (.aload_n 0, 1) := by decide +kernel
theorem dX4_keepRenewal_31 : decode cX4_keepRenewal 31 = .ok (.getfield 35, 3) := by decide +kernel
theorem dX4_keepRenewal_34 : decode cX4_keepRenewal 34 = .ok (.getfield 231, 3) := by decide +kernel
theorem dX4_keepRenewal_37 : decode cX4_keepRenewal 37 = .ok (.iload_n 1, 1) := by decide +kernel
theorem dX4_keepRenewal_38 : decode cX4_keepRenewal 38 = .ok (.aload_n 0, 1) := by decide +kernel
theorem dX4_keepRenewal_39 : decode cX4_keepRenewal 39 = .ok (.getfield 18, 3) := by decide +kernel
theorem dX4_keepRenewal_42 : decode cX4_keepRenewal 42 = .ok (.iconst 2, 1) := by decide +kernel
theorem dX4_keepRenewal_43 : decode cX4_keepRenewal 43 = .ok (.iaload, 1) := by decide +kernel
theorem dX4_keepRenewal_44 : decode cX4_keepRenewal 44 = .ok (.iastore, 1) := by decide +kernel
theorem dX4_keepRenewal_45 : decode cX4_keepRenewal 45 = .ok (.iconst 1, 1) := by decide +kernel
theorem dX4_keepRenewal_46 : decode cX4_keepRenewal 46 = .ok (.ireturn, 1) := by decide +kernel
theorem dX4_keepLoss_0 : decode cX4_keepLoss 0 = .ok (.aload_n 0, 1) := by decide +kernel
theorem dX4_keepLoss_1 : decode cX4_keepLoss 1 = .ok (.getfield 35, 3) := by decide +kernel
theorem dX4_keepLoss_4 : decode cX4_keepLoss 4 = .ok (.getfield 234, 3) := by decide +kernel
theorem dX4_keepLoss_7 : decode cX4_keepLoss 7 = .ok (.iload_n 1, 1) := by decide +kernel
theorem dX4_keepLoss_8 : decode cX4_keepLoss 8 = .ok (.iaload, 1) := by decide +kernel
theorem dX4_keepLoss_9 : decode cX4_keepLoss 9 = .ok (.ifCond .eq 13, 3) := by decide +kernel
theorem dX4_keepLoss_12 : decode cX4_keepLoss 12 = .ok (.aload_n 0, 1) := by decide +kernel
theorem dX4_keepLoss_13 : decode cX4_keepLoss 13 = .ok (.iconst 3, 1) := by decide +kernel
theorem dX4_keepLoss_14 : decode cX4_keepLoss 14 = .ok (.aload_n 0, 1) := by decide +kernel
theorem dX4_keepLoss_15 : decode cX4_keepLoss 15 = .ok (.getfield 237, 3) := by decide +kernel
theorem dX4_keepLoss_18 : decode cX4_keepLoss 18 = .ok (.invokevirtual 72, 3) := by decide +kernel
theorem dX4_keepLoss_21 : decode cX4_keepLoss 21 = .ok (.ireturn, 1) := by decide +kernel
theorem dX4_keepLoss_22 : decode cX4_keepLoss 22 = .ok (.aload_n 0, 1) := by decide +kernel
theorem dX4_keepLoss_23 : decode cX4_keepLoss 23 = .ok (.getfield 35, 3) := by decide +kernel
theorem dX4_keepLoss_26 : decode cX4_keepLoss 26 = .ok (.getfield 234, 3) := by decide +kernel
theorem dX4_keepLoss_29 : decode cX4_keepLoss 29 = .ok (.iload_n 1, 1) := by decide +kernel
theorem dX4_keepLoss_30 : decode cX4_keepLoss 30 = .ok (.iconst 1, 1) := by decide +kernel
theorem dX4_keepLoss_31 : decode cX4_keepLoss 31 = .ok (.iastore, 1) := by decide +kernel
theorem dX4_keepLoss_32 : decode cX4_keepLoss 32 = .ok (.aload_n 0, 1) := by decide +kernel
theorem dX4_keepLoss_33 : decode cX4_keepLoss 33 = .ok (.getfield 31, 3) := by decide +kernel
theorem dX4_keepLoss_36 : decode cX4_keepLoss 36 = .ok (.ldc 240, 2) := by decide +kernel
theorem dX4_keepLoss_38 : decode cX4_keepLoss 38 = .ok (.invokevirtual 81, 3) := by decide +kernel
theorem dX4_keepLoss_41 : decode cX4_keepLoss 41 = .ok (.ifCond .ne 20, 3) := by decide +kernel
theorem dX4_keepLoss_44 : decode cX4_keepLoss 44 = .ok (.aload_n 0, 1) := by decide +kernel
theorem dX4_keepLoss_45 : decode cX4_keepLoss 45 = .ok (.getfield 35, 3) := by decide +kernel
theorem dX4_keepLoss_48 : decode cX4_keepLoss 48 = .ok (.getfield 234, 3) := by decide +kernel
theorem dX4_keepLoss_51 : decode cX4_keepLoss 51 = .ok (.iload_n 1, 1) := by decide +kernel
theorem dX4_keepLoss_52 : decode cX4_keepLoss 52 = .ok (.iconst 2, 1) := by decide +kernel
theorem dX4_keepLoss_53 : decode cX4_keepLoss 53 = .ok (.iastore, 1) := by decide +kernel
theorem dX4_keepLoss_54 : decode cX4_keepLoss 54 = .ok (.aload_n 0, 1) := by decide +kernel
theorem dX4_keepLoss_55 : decode cX4_keepLoss 55 = .ok (.getfield 31, 3) := by decide +kernel
theorem dX4_keepLoss_58 : decode cX4_keepLoss 58 = .ok (.invokevirtual 76, 3) := by decide +kernel
theorem dX4_keepLoss_61 : decode cX4_keepLoss 61 = .ok (.iconst 1, 1) := by decide +kernel
theorem dX4_keepLoss_62 : decode cX4_keepLoss 62 = .ok (.ireturn, 1) := by decide +kernel
theorem dX4_keepLaw_0 : decode cX4_keepLaw 0 = .ok (.aload_n 0, 1) := by decide +kernel
theorem dX4_keepLaw_1 : decode cX4_keepLaw 1 = .ok (.getfield 35, 3) := by decide +kernel
theorem dX4_keepLaw_4 : decode cX4_keepLaw 4 = .ok (.getfield 242, 3) := by decide +kernel
theorem dX4_keepLaw_7 : decode cX4_keepLaw 7 = .ok (.iload_n 1, 1) := by decide +kernel
theorem dX4_keepLaw_8 : decode cX4_keepLaw 8 = .ok (.aload_n 0, 1) := by decide +kernel
theorem dX4_keepLaw_9 : decode cX4_keepLaw 9 = .ok (.getfield 18, 3) := by decide +kernel
theorem dX4_keepLaw_12 : decode cX4_keepLaw 12 = .ok (.iconst 0, 1) := by decide +kernel
theorem dX4_keepLaw_13 : decode cX4_keepLaw 13 = .ok (.iaload, 1) := by decide +kernel
theorem dX4_keepLaw_14 : decode cX4_keepLaw 14 = .ok (.aload_n 0, 1) := by decide +kernel
theorem dX4_keepLaw_15 : decode cX4_keepLaw 15 = .ok (.getfield 18, 3) := by decide +kernel
theorem dX4_keepLaw_18 : decode cX4_keepLaw 18 = .ok (.iconst 1, 1) := by decide +kernel
theorem dX4_keepLaw_19 : decode cX4_keepLaw 19 = .ok (.iaload, 1) := by decide +kernel
theorem dX4_keepLaw_20 : decode cX4_keepLaw 20 = .ok (.iconst 1, 1) := by decide +kernel
theorem dX4_keepLaw_21 : decode cX4_keepLaw 21 = .ok (.ishl, 1) := by decide +kernel
theorem dX4_keepLaw_22 : decode cX4_keepLaw 22 = .ok (.ior, 1) := by decide +kernel
theorem dX4_keepLaw_23 : decode cX4_keepLaw 23 = .ok (.aload_n 0, 1) := by decide +kernel
theorem dX4_keepLaw_24 : decode cX4_keepLaw 24 = .ok (.getfield 18, 3) := by decide +kernel
theorem dX4_keepLaw_27 : decode cX4_keepLaw 27 = .ok (.iconst 2, 1) := by decide +kernel
theorem dX4_keepLaw_28 : decode cX4_keepLaw 28 = .ok (.iaload, 1) := by decide +kernel
theorem dX4_keepLaw_29 : decode cX4_keepLaw 29 = .ok (.iconst 2, 1) := by decide +kernel
theorem dX4_keepLaw_30 : decode cX4_keepLaw 30 = .ok (.ishl, 1) := by decide +kernel
theorem dX4_keepLaw_31 : decode cX4_keepLaw 31 = .ok (.ior, 1) := by decide +kernel
theorem dX4_keepLaw_32 : decode cX4_keepLaw 32 = .ok (.aload_n 0, 1) := by decide +kernel
theorem dX4_keepLaw_33 : decode cX4_keepLaw 33 = .ok (.getfield 18, 3) := by decide +kernel
theorem dX4_keepLaw_36 : decode cX4_keepLaw 36 = .ok (.iconst 3, 1) := by decide +kernel
theorem dX4_keepLaw_37 : decode cX4_keepLaw 37 = .ok (.iaload, 1) := by decide +kernel
theorem dX4_keepLaw_38 : decode cX4_keepLaw 38 = .ok (.iconst 3, 1) := by decide +kernel
theorem dX4_keepLaw_39 : decode cX4_keepLaw 39 = .ok (.ishl, 1) := by decide +kernel
theorem dX4_keepLaw_40 : decode cX4_keepLaw 40 = .ok (.ior, 1) := by decide +kernel
theorem dX4_keepLaw_41 : decode cX4_keepLaw 41 = .ok (.iastore, 1) := by decide +kernel
theorem dX4_keepLaw_42 : decode cX4_keepLaw 42 = .ok (.iconst 1, 1) := by decide +kernel
theorem dX4_keepLaw_43 : decode cX4_keepLaw 43 = .ok (.ireturn, 1) := by decide +kernel
theorem dX4_keepCart_0 : decode cX4_keepCart 0 = .ok (.aload_n 0, 1) := by decide +kernel
theorem dX4_keepCart_1 : decode cX4_keepCart 1 = .ok (.getfield 18, 3) := by decide +kernel
theorem dX4_keepCart_4 : decode cX4_keepCart 4 = .ok (.iconst 0, 1) := by decide +kernel
theorem dX4_keepCart_5 : decode cX4_keepCart 5 = .ok (.aload_n 0, 1) := by decide +kernel
theorem dX4_keepCart_6 : decode cX4_keepCart 6 = .ok (.getfield 35, 3) := by decide +kernel
theorem dX4_keepCart_9 : decode cX4_keepCart 9 = .ok (.getfield 245, 3) := by decide +kernel
theorem dX4_keepCart_12 : decode cX4_keepCart 12 = .ok (.iload_n 1, 1) := by decide +kernel
theorem dX4_keepCart_13 : decode cX4_keepCart 13 = .ok (.bipush 7, 2) := by decide +kernel
theorem dX4_keepCart_15 : decode cX4_keepCart 15 = .ok (.imul, 1) := by decide +kernel
theorem dX4_keepCart_16 : decode cX4_keepCart 16 = .ok (.bipush 7, 2) := by decide +kernel
theorem dX4_keepCart_18 : decode cX4_keepCart 18 = .ok (.invokestatic 248, 3) := by decide +kernel
theorem dX4_keepCart_21 : decode cX4_keepCart 21 = .ok (.iconst 1, 1) := by decide +kernel
theorem dX4_keepCart_22 : decode cX4_keepCart 22 = .ok (.ireturn, 1) := by decide +kernel
theorem dX4_word_0 : decode cX4_word 0 = .ok (.aload_n 0, 1) := by decide +kernel
theorem dX4_word_1 : decode cX4_word 1 = .ok (.getfield 31, 3) := by decide +kernel
theorem dX4_word_4 : decode cX4_word 4 = .ok (.aload_n 1, 1) := by decide +kernel
theorem dX4_word_5 : decode cX4_word 5 = .ok (.invokevirtual 81, 3) := by decide +kernel
theorem dX4_word_8 : decode cX4_word 8 = .ok (.ifCond .eq 9, 3) := by decide +kernel
theorem dX4_word_11 : decode cX4_word 11 = .ok (.aload_n 0, 1) := by decide +kernel
theorem dX4_word_12 : decode cX4_word 12 = .ok (.iconst 1, 1) := by decide +kernel
theorem dX4_word_13 : decode cX4_word 13 = .ok (.invokevirtual 65, 3) := by decide +kernel
theorem dX4_word_16 : decode cX4_word 16 = .ok (.ireturn, 1) := by decide +kernel
theorem dX4_word_17 : decode cX4_word 17 = .ok (.aload_n 0, 1) := by decide +kernel
theorem dX4_word_18 : decode cX4_word 18 = .ok (.getfield 31, 3) := by decide +kernel
theorem dX4_word_21 : decode cX4_word 21 = .ok (.invokevirtual 76, 3) := by decide +kernel
theorem dX4_word_24 : decode cX4_word 24 = .ok (.iconst 1, 1) := by decide +kernel
theorem dX4_word_25 : decode cX4_word 25 = .ok (.ireturn, 1) := by decide +kernel
theorem dX4_choice_0 : decode cX4_choice 0 = .ok (.aload_n 0, 1) := by decide +kernel
theorem dX4_choice_1 : decode cX4_choice 1 = .ok (.getfield 31, 3) := by decide +kernel
theorem dX4_choice_4 : decode cX4_choice 4 = .ok (.aload_n 1, 1) := by decide +kernel
theorem dX4_choice_5 : decode cX4_choice 5 = .ok (.invokevirtual 81, 3) := by decide +kernel
theorem dX4_choice_8 : decode cX4_choice 8 = .ok (.istore_n 2, 1) := by decide +kernel
theorem dX4_choice_9 : decode cX4_choice 9 = .ok (.iload_n 2, 1) := by decide +kernel
theorem dX4_choice_10 : decode cX4_choice 10 = .ok (.ifCond .ge 9, 3) := by decide +kernel
theorem dX4_choice_13 : decode cX4_choice 13 = .ok (.aload_n 0, 1) := by decide +kernel
theorem dX4_choice_14 : decode cX4_choice 14 = .ok (.iconst 1, 1) := by decide +kernel
theorem dX4_choice_15 : decode cX4_choice 15 = .ok (.invokevirtual 65, 3) := by decide +kernel
theorem dX4_choice_18 : decode cX4_choice 18 = .ok (.ireturn, 1) := by decide +kernel
theorem dX4_choice_19 : decode cX4_choice 19 = .ok (.aload_n 0, 1) := by decide +kernel
theorem dX4_choice_20 : decode cX4_choice 20 = .ok (.getfield 31, 3) := by decide +kernel
theorem dX4_choice_23 : decode cX4_choice 23 = .ok (.invokevirtual 76, 3) := by decide +kernel
theorem dX4_choice_26 : decode cX4_choice 26 = .ok (.aload_n 0, 1) := by decide +kernel
theorem dX4_choice_27 : decode cX4_choice 27 = .ok (.iload_n 2, 1) := by decide +kernel
theorem dX4_choice_28 : decode cX4_choice 28 = .ok (.invokevirtual 153, 3) := by decide +kernel
theorem dX4_choice_31 : decode cX4_choice 31 = .ok (.ireturn, 1) := by decide +kernel
theorem dX4_all_0 : decode cX4_all 0 = .ok (.aload_n 0, 1) := by decide +kernel
theorem dX4_all_1 : decode cX4_all 1 = .ok (.getfield 31, 3) := by decide +kernel
theorem dX4_all_4 : decode cX4_all 4 = .ok (.ldc 254, 2) := by decide +kernel
theorem dX4_all_6 : decode cX4_all 6 = .ok (.invokevirtual 81, 3) := by decide +kernel
theorem dX4_all_9 : decode cX4_all 9 = .ok (.ifCond .eq 5, 3) := by decide +kernel
theorem dX4_all_12 : decode cX4_all 12 = .ok (.iconst 0, 1) := by decide +kernel
theorem dX4_all_13 : decode cX4_all 13 = .ok (.ireturn, 1) := by decide +kernel
theorem dX4_all_14 : decode cX4_all 14 = .ok (.aload_n 0, 1) := by decide +kernel
theorem dX4_all_15 : decode cX4_all 15 = .ok (.getfield 31, 3) := by decide +kernel
theorem dX4_all_18 : decode cX4_all 18 = .ok (.invokevirtual 76, 3) := by decide +kernel
theorem dX4_all_21 : decode cX4_all 21 = .ok (.aload_n 0, 1) := by decide +kernel
theorem dX4_all_22 : decode cX4_all 22 = .ok (.bipush (-2), 2) := by decide +kernel
theorem dX4_all_24 : decode cX4_all 24 = .ok (.invokevirtual 153, 3) := by decide +kernel
theorem dX4_all_27 : decode cX4_all 27 = .ok (.ireturn, 1) := by decide +kernel
theorem dX4_whole_0 : decode cX4_whole 0 = .ok (.aload_n 0, 1) := by decide +kernel
theorem dX4_whole_1 : decode cX4_whole 1 = .ok (.getfield 31, 3) := by decide +kernel
theorem dX4_whole_4 : decode cX4_whole 4 = .ok (.getfield 56, 3) := by decide +kernel
theorem dX4_whole_7 : decode cX4_whole 7 = .ok (.iconst 2, 1) := by decide +kernel
theorem dX4_whole_8 : decode cX4_whole 8 = .ok (.if_icmp .eq 9, 3) := by decide +kernel
theorem dX4_whole_11 : decode cX4_whole 11 = .ok (.aload_n 0, 1) := by decide +kernel
theorem dX4_whole_12 : decode cX4_whole 12 = .ok (.iconst 1, 1) := by decide +kernel
theorem dX4_whole_13 : decode cX4_whole 13 = .ok (.invokevirtual 65, 3) := by decide +kernel
theorem dX4_whole_16 : decode cX4_whole 16 = .ok (.ireturn, 1) := by decide +kernel
theorem dX4_whole_17 : decode cX4_whole 17 = .ok (.aload_n 0, 1) := by decide +kernel
theorem dX4_whole_18 : decode cX4_whole 18 = .ok (.getfield 31, 3) := by decide +kernel
theorem dX4_whole_21 : decode cX4_whole 21 = .ok (.getfield 255, 3) := by decide +kernel
theorem dX4_whole_24 : decode cX4_whole 24 = .ok (.l2i, 1) := by decide +kernel
theorem dX4_whole_25 : decode cX4_whole 25 = .ok (.istore_n 3, 1) := by decide +kernel
theorem dX4_whole_26 : decode cX4_whole 26 = .ok (.iload_n 3, 1) := by decide +kernel
theorem dX4_whole_27 : decode cX4_whole 27 = .ok (.iload_n 1, 1) := by decide +kernel
theorem dX4_whole_28 : decode cX4_whole 28 = .ok (.if_icmp .lt 8, 3) := by decide +kernel
theorem dX4_whole_31 : decode cX4_whole 31 = .ok (.iload_n 3, 1) := by decide +kernel
theorem dX4_whole_32 : decode cX4_whole 32 = .ok (.iload_n 2, 1) := by decide +kernel
theorem dX4_whole_33 : decode cX4_whole 33 = .ok (.if_icmp .le 9, 3) := by decide +kernel
theorem dX4_whole_36 : decode cX4_whole 36 = .ok (.aload_n 0, 1) := by decide +kernel
theorem dX4_whole_37 : decode cX4_whole 37 = .ok (.iconst 4, 1) := by decide +kernel
theorem dX4_whole_38 : decode cX4_whole 38 = .ok (.invokevirtual 65, 3) := by decide +kernel
theorem dX4_whole_41 : decode cX4_whole 41 = .ok (.ireturn, 1) := by decide +kernel
theorem dX4_whole_42 : decode cX4_whole 42 = .ok (.aload_n 0, 1) := by decide +kernel
theorem dX4_whole_43 : decode cX4_whole 43 = .ok (.getfield 31, 3) := by decide +kernel
theorem dX4_whole_46 : decode cX4_whole 46 = .ok (.invokevirtual 76, 3) := by decide +kernel
theorem dX4_whole_49 : decode cX4_whole 49 = .ok (.aload_n 0, 1) := by decide +kernel
theorem dX4_whole_50 : decode cX4_whole 50 = .ok (.iload_n 3, 1) := by decide +kernel
theorem dX4_whole_51 : decode cX4_whole 51 = .ok (.invokevirtual 153, 3) := by decide +kernel
theorem dX4_whole_54 : decode cX4_whole 54 = .ok (.ireturn, 1) := by decide +kernel
theorem dX4_span_0 : decode cX4_span 0 = .ok (.aload_n 0, 1) := by decide +kernel
theorem dX4_span_1 : decode cX4_span 1 = .ok (.ldc 158, 2) := by decide +kernel
theorem dX4_span_3 : decode cX4_span 3 = .ok (.invokevirtual 102, 3) := by decide +kernel
theorem dX4_span_6 : decode cX4_span 6 = .ok (.ifCond .eq 14, 3) := by decide +kernel
theorem dX4_span_9 : decode cX4_span 9 = .ok (.aload_n 0, 1) := by decide +kernel
theorem dX4_span_10 : decode cX4_span 10 = .ok (.iconst 0, 1) := by decide +kernel
theorem dX4_span_11 : decode cX4_span 11 = .ok (.sipush 999, 3) := by decide +kernel
theorem dX4_span_14 : decode cX4_span 14 = .ok (.invokevirtual 111, 3) := by decide +kernel
theorem dX4_span_17 : decode cX4_span 17 = .ok (.ifCond .ne 5, 3) := by decide +kernel
theorem dX4_span_20 : decode cX4_span 20 = .ok (.iconst 0, 1) := by decide +kernel
theorem dX4_span_21 : decode cX4_span 21 = .ok (.ireturn, 1) := by decide +kernel
theorem dX4_span_22 : decode cX4_span 22 = .ok (.aload_n 0, 1) := by decide +kernel
theorem dX4_span_23 : decode cX4_span 23 = .ok (.iconst 0, 1) := by decide +kernel
theorem dX4_span_24 : decode cX4_span 24 = .ok (.invokevirtual 259, 3) := by decide +kernel
theorem dX4_span_27 : decode cX4_span 27 = .ok (.istore_n 1, 1) := by decide +kernel
theorem dX4_span_28 : decode cX4_span 28 = .ok (.aload_n 0, 1) := by decide +kernel
theorem dX4_span_29 : decode cX4_span 29 = .ok (.getfield 31, 3) := by decide +kernel
theorem dX4_span_32 : decode cX4_span 32 = .ok (.ldc 117, 2) := by decide +kernel
theorem dX4_span_34 : decode cX4_span 34 = .ok (.invokevirtual 81, 3) := by decide +kernel
theorem dX4_span_37 : decode cX4_span 37 = .ok (.ifCond .eq 9, 3) := by decide +kernel
theorem dX4_span_40 : decode cX4_span 40 = .ok (.aload_n 0, 1) := by decide +kernel
theorem dX4_span_41 : decode cX4_span 41 = .ok (.iload_n 1, 1) := by decide +kernel
theorem dX4_span_42 : decode cX4_span 42 = .ok (.invokevirtual 153, 3) := by decide +kernel
theorem dX4_span_45 : decode cX4_span 45 = .ok (.ireturn, 1) := by decide +kernel
theorem dX4_span_46 : decode cX4_span 46 = .ok (.aload_n 0, 1) := by decide +kernel
theorem dX4_span_47 : decode cX4_span 47 = .ok (.getfield 31, 3) := by decide +kernel
theorem dX4_span_50 : decode cX4_span 50 = .ok (.invokevirtual 76, 3) := by decide +kernel
theorem dX4_span_53 : decode cX4_span 53 = .ok (.aload_n 0, 1) := by decide +kernel
theorem dX4_span_54 : decode cX4_span 54 = .ok (.iload_n 1, 1) := by decide +kernel
theorem dX4_span_55 : decode cX4_span 55 = .ok (.iload_n 1, 1) := by decide +kernel
theorem dX4_span_56 : decode cX4_span 56 = .ok (.bipush 20, 2) := by decide +kernel
theorem dX4_span_58 : decode cX4_span 58 = .ok (.iadd, 1) := by decide +kernel
theorem dX4_span_59 : decode cX4_span 59 = .ok (.invokevirtual 111, 3) := by decide +kernel
theorem dX4_span_62 : decode cX4_span 62 = .ok (.ireturn, 1) := by decide +kernel
theorem dX4_isName_0 : decode cX4_isName 0 = .ok (.aload_n 0, 1) := by decide +kernel
theorem dX4_isName_1 : decode cX4_isName 1 = .ok (.getfield 31, 3) := by decide +kernel
theorem dX4_isName_4 : decode cX4_isName 4 = .ok (.getfield 56, 3) := by decide +kernel
theorem dX4_isName_7 : decode cX4_isName 7 = .ok (.iconst 1, 1) := by decide +kernel
theorem dX4_isName_8 : decode cX4_isName 8 = .ok (.if_icmp .ne 20, 3) := by decide +kernel
theorem dX4_isName_11 : decode cX4_isName 11 = .ok (.aload_n 0, 1) := by decide +kernel
theorem dX4_isName_12 : decode cX4_isName 12 = .ok (.getfield 31, 3) := by decide +kernel
theorem dX4_isName_15 : decode cX4_isName 15 = .ok (.ldc_w 263, 3) := by decide +kernel
theorem dX4_isName_18 : decode cX4_isName 18 = .ok (.invokevirtual 81, 3) := by decide +kernel
theorem dX4_isName_21 : decode cX4_isName 21 = .ok (.ifCond .ge 7, 3) := by decide +kernel
theorem dX4_isName_24 : decode cX4_isName 24 = .ok (.iconst 1, 1) := by decide +kernel
theorem dX4_isName_25 : decode cX4_isName 25 = .ok (.goto 4, 3) := by decide +kernel
theorem dX4_isName_28 : decode cX4_isName 28 = .ok (.iconst 0, 1) := by decide +kernel
theorem dX4_isName_29 : decode cX4_isName 29 = .ok (.ireturn, 1) := by decide +kernel
theorem dX4_newName_0 : decode cX4_newName 0 = .ok (.aload_n 0, 1) := by decide +kernel
theorem dX4_newName_1 : decode cX4_newName 1 = .ok (.invokevirtual 265, 3) := by decide +kernel
theorem dX4_newName_4 : decode cX4_newName 4 = .ok (.ifCond .ne 9, 3) := by decide +kernel
theorem dX4_newName_7 : decode cX4_newName 7 = .ok (.aload_n 0, 1) := by decide +kernel
theorem dX4_newName_8 : decode cX4_newName 8 = .ok (.iconst 1, 1) := by decide +kernel
theorem dX4_newName_9 : decode cX4_newName 9 = .ok (.invokevirtual 65, 3) := by decide +kernel
theorem dX4_newName_12 : decode cX4_newName 12 = .ok (.ireturn, 1) := by decide +kernel
theorem dX4_newName_13 : decode cX4_newName 13 = .ok (.aload_n 0, 1) := by decide +kernel
theorem dX4_newName_14 : decode cX4_newName 14 = .ok (.getfield 12, 3) := by decide +kernel
theorem dX4_newName_17 : decode cX4_newName 17 = .ok (.aload_n 0, 1) := by decide +kernel
theorem dX4_newName_18 : decode cX4_newName 18 = .ok (.getfield 31, 3) := by decide +kernel
theorem dX4_newName_21 : decode cX4_newName 21 = .ok (.getfield 255, 3) := by decide +kernel
theorem dX4_newName_24 : decode cX4_newName 24 = .ok (.invokevirtual 268, 3) := by decide +kernel
theorem dX4_newName_27 : decode cX4_newName 27 = .ok (.ifCond .lt 9, 3) := by decide +kernel
theorem dX4_newName_30 : decode cX4_newName 30 = .ok (.aload_n 0, 1) := by decide +kernel
theorem dX4_newName_31 : decode cX4_newName 31 = .ok (.iconst 3, 1) := by decide +kernel
theorem dX4_newName_32 : decode cX4_newName 32 = .ok (.invokevirtual 65, 3) := by decide +kernel
theorem dX4_newName_35 : decode cX4_newName 35 = .ok (.ireturn, 1) := by decide +kernel
theorem dX4_newName_36 : decode cX4_newName 36 = .ok (.aload_n 0, 1) := by decide +kernel
theorem dX4_newName_37 : decode cX4_newName 37 = .ok (.getfield 12, 3) := by decide +kernel
theorem dX4_newName_40 : decode cX4_newName 40 = .ok (.aload_n 0, 1) := by decide +kernel
theorem dX4_newName_41 : decode cX4_newName 41 = .ok (.getfield 31, 3) := by decide +kernel
theorem dX4_newName_44 : decode cX4_newName 44 = .ok (.getfield 255, 3) := by decide +kernel
theorem dX4_newName_47 : decode cX4_newName 47 = .ok (.iload_n 1, 1) := by decide +kernel
theorem dX4_newName_48 : decode cX4_newName 48 = .ok (.iload_n 2, 1) := by decide +kernel
theorem dX4_newName_49 : decode cX4_newName 49 = .ok (.invokevirtual 272, 3) := by decide +kernel
theorem dX4_newName_52 : decode cX4_newName 52 = .ok (.aload_n 0, 1) := by decide +kernel
theorem dX4_newName_53 : decode cX4_newName 53 = .ok (.getfield 31, 3) := by decide +kernel
theorem dX4_newName_56 : decode cX4_newName 56 = .ok (.invokevirtual 76, 3) := by decide +kernel
theorem dX4_newName_59 : decode cX4_newName 59 = .ok (.iconst 1, 1) := by decide +kernel
theorem dX4_newName_60 : decode cX4_newName 60 = .ok (.ireturn, 1) := by decide +kernel
theorem dX4_use_0 : decode cX4_use 0 = .ok (.aload_n 0, 1) := by decide +kernel
theorem dX4_use_1 : decode cX4_use 1 = .ok (.invokevirtual 265, 3) := by decide +kernel
theorem dX4_use_4 : decode cX4_use 4 = .ok (.ifCond .ne 9, 3) := by decide +kernel
theorem dX4_use_7 : decode cX4_use 7 = .ok (.aload_n 0, 1) := by decide +kernel
theorem dX4_use_8 : decode cX4_use 8 = .ok (.iconst 1, 1) := by decide +kernel
theorem dX4_use_9 : decode cX4_use 9 = .ok (.invokevirtual 65, 3) := by decide +kernel
theorem dX4_use_12 : decode cX4_use 12 = .ok (.ireturn, 1) := by decide +kernel
theorem dX4_use_13 : decode cX4_use 13 = .ok (.aload_n 0, 1) := by decide +kernel
theorem dX4_use_14 : decode cX4_use 14 = .ok (.getfield 12, 3) := by decide +kernel
theorem dX4_use_17 : decode cX4_use 17 = .ok (.aload_n 0, 1) := by decide +kernel
theorem dX4_use_18 : decode cX4_use 18 = .ok (.getfield 31, 3) := by decide +kernel
theorem dX4_use_21 : decode cX4_use 21 = .ok (.getfield 255, 3) := by decide +kernel
theorem dX4_use_24 : decode cX4_use 24 = .ok (.iload_n 1, 1) := by decide +kernel
theorem dX4_use_25 : decode cX4_use 25 = .ok (.iload_n 2, 1) := by decide +kernel
theorem dX4_use_26 : decode cX4_use 26 = .ok (.invokevirtual 276, 3) := by decide +kernel
theorem dX4_use_29 : decode cX4_use 29 = .ok (.istore_n 3, 1) := by decide +kernel
theorem dX4_use_30 : decode cX4_use 30 = .ok (.iload_n 3, 1) := by decide +kernel
theorem dX4_use_31 : decode cX4_use 31 = .ok (.ifCond .ge 9, 3) := by decide +kernel
theorem dX4_use_34 : decode cX4_use 34 = .ok (.aload_n 0, 1) := by decide +kernel
theorem dX4_use_35 : decode cX4_use 35 = .ok (.iconst 2, 1) := by decide +kernel
theorem dX4_use_36 : decode cX4_use 36 = .ok (.invokevirtual 65, 3) := by decide +kernel
theorem dX4_use_39 : decode cX4_use 39 = .ok (.ireturn, 1) := by decide +kernel
theorem dX4_use_40 : decode cX4_use 40 = .ok (.aload_n 0, 1) := by decide +kernel
theorem dX4_use_41 : decode cX4_use 41 = .ok (.aload_n 0, 1) := by decide +kernel
theorem dX4_use_42 : decode cX4_use 42 = .ok (.getfield 31, 3) := by decide +kernel
theorem dX4_use_45 : decode cX4_use 45 = .ok (.getfield 69, 3) := by decide +kernel
theorem dX4_use_48 : decode cX4_use 48 = .ok (.putfield 237, 3) := by decide +kernel
theorem dX4_use_51 : decode cX4_use 51 = .ok (.aload_n 0, 1) := by decide +kernel
theorem dX4_use_52 : decode cX4_use 52 = .ok (.getfield 31, 3) := by decide +kernel
theorem dX4_use_55 : decode cX4_use 55 = .ok (.invokevirtual 76, 3) := by decide +kernel
theorem dX4_use_58 : decode cX4_use 58 = .ok (.aload_n 0, 1) := by decide +kernel
theorem dX4_use_59 : decode cX4_use 59 = .ok (.iload_n 3, 1) := by decide +kernel
theorem dX4_use_60 : decode cX4_use 60 = .ok (.invokevirtual 153, 3) := by decide +kernel
theorem dX4_use_63 : decode cX4_use 63 = .ok (.ireturn, 1) := by decide +kernel
theorem dX4_differ_0 : decode cX4_differ 0 = .ok (.aload_n 0, 1) := by decide +kernel
theorem dX4_differ_1 : decode cX4_differ 1 = .ok (.iconst 0, 1) := by decide +kernel
theorem dX4_differ_2 : decode cX4_differ 2 = .ok (.invokevirtual 259, 3) := by decide +kernel
theorem dX4_differ_5 : decode cX4_differ 5 = .ok (.aload_n 0, 1) := by decide +kernel
theorem dX4_differ_6 : decode cX4_differ 6 = .ok (.iconst 1, 1) := by decide +kernel
theorem dX4_differ_7 : decode cX4_differ 7 = .ok (.invokevirtual 259, 3) := by decide +kernel
theorem dX4_differ_10 : decode cX4_differ 10 = .ok (.if_icmp .ne 15, 3) := by decide +kernel
theorem dX4_differ_13 : decode cX4_differ 13 = .ok (.aload_n 0, 1) := by decide +kernel
theorem dX4_differ_14 : decode cX4_differ 14 = .ok (.iconst 3, 1) := by decide +kernel
theorem dX4_differ_15 : decode cX4_differ 15 = .ok (.aload_n 0, 1) := by decide +kernel
theorem dX4_differ_16 : decode cX4_differ 16 = .ok (.getfield 237, 3) := by decide +kernel
theorem dX4_differ_19 : decode cX4_differ 19 = .ok (.invokevirtual 72, 3) := by decide +kernel
theorem dX4_differ_22 : decode cX4_differ 22 = .ok (.ifCond .eq 7, 3) := by decide +kernel
theorem dX4_differ_25 : decode cX4_differ 25 = .ok (.iconst 1, 1) := by decide +kernel
theorem dX4_differ_26 : decode cX4_differ 26 = .ok (.goto 4, 3) := by decide +kernel
theorem dX4_differ_29 : decode cX4_differ 29 = .ok (.iconst 0, 1) := by decide +kernel
theorem dX4_differ_30 : decode cX4_differ 30 = .ok (.ireturn, 1) := by decide +kernel
theorem dX4_tell_0 : decode cX4_tell 0 = .ok (.aload_n 0, 1) := by decide +kernel
theorem dX4_tell_1 : decode cX4_tell 1 = .ok (.getfield 88, 3) := by decide +kernel
theorem dX4_tell_4 : decode cX4_tell 4 = .ok (.aload_n 0, 1) := by decide +kernel
theorem dX4_tell_5 : decode cX4_tell 5 = .ok (.getfield 18, 3) := by decide +kernel
theorem dX4_tell_8 : decode cX4_tell 8 = .ok (.arraylength, 1) := by decide +kernel
theorem dX4_tell_9 : decode cX4_tell 9 = .ok (.if_icmp .ge 23, 3) := by decide +kernel
theorem dX4_tell_12 : decode cX4_tell 12 = .ok (.aload_n 0, 1) := by decide +kernel
theorem dX4_tell_13 : decode cX4_tell 13 = .ok (.getfield 18, 3) := by decide +kernel
theorem dX4_tell_16 : decode cX4_tell 16 = .ok (.aload_n 0, 1) := by decide +kernel
theorem dX4_tell_17 : decode cX4_tell 17 = .ok (.getfield 88, 3) := by decide +kernel
theorem dX4_tell_20 : decode cX4_tell 20 = .ok (.iload_n 1, 1) := by decide +kernel
theorem dX4_tell_21 : decode cX4_tell 21 = .ok (.iastore, 1) := by decide +kernel
theorem dX4_tell_22 : decode cX4_tell 22 = .ok (.aload_n 0, 1) := by decide +kernel
theorem dX4_tell_23 : decode cX4_tell 23 = .ok (.dup, 1) := by decide +kernel
theorem dX4_tell_24 : decode cX4_tell 24 = .ok (.getfield 88, 3) := by decide +kernel
theorem dX4_tell_27 : decode cX4_tell 27 = .ok (.iconst 1, 1) := by decide +kernel
theorem dX4_tell_28 : decode cX4_tell 28 = .ok (.iadd, 1) := by decide +kernel
theorem dX4_tell_29 : decode cX4_tell 29 = .ok (.putfield 88, 3) := by decide +kernel
theorem dX4_tell_32 : decode cX4_tell 32 = .ok (.iconst 1, 1) := by decide +kernel
theorem dX4_tell_33 : decode cX4_tell 33 = .ok (.ireturn, 1) := by decide +kernel
theorem dX4_latest_0 : decode cX4_latest 0 = .ok (.aload_n 0, 1) := by decide +kernel
theorem dX4_latest_1 : decode cX4_latest 1 = .ok (.getfield 88, 3) := by decide +kernel
theorem dX4_latest_4 : decode cX4_latest 4 = .ok (.iconst 1, 1) := by decide +kernel
theorem dX4_latest_5 : decode cX4_latest 5 = .ok (.isub, 1) := by decide +kernel
theorem dX4_latest_6 : decode cX4_latest 6 = .ok (.iload_n 1, 1) := by decide +kernel
theorem dX4_latest_7 : decode cX4_latest 7 = .ok (.isub, 1) := by decide +kernel
theorem dX4_latest_8 : decode cX4_latest 8 = .ok (.istore_n 2, 1) := by decide +kernel
theorem dX4_latest_9 : decode cX4_latest 9 = .ok (.iload_n 2, 1) := by decide +kernel
theorem dX4_latest_10 : decode cX4_latest 10 = .ok (.ifCond .lt 21, 3) := by decide +kernel
theorem dX4_latest_13 : decode cX4_latest 13 = .ok (.iload_n 2, 1) := by decide +kernel
theorem dX4_latest_14 : decode cX4_latest 14 = .ok (.aload_n 0, 1) := by decide +kernel
theorem dX4_latest_15 : decode cX4_latest 15 = .ok (.getfield 18, 3) := by decide +kernel
theorem dX4_latest_18 : decode cX4_latest 18 = .ok (.arraylength, 1) := by decide +kernel
theorem dX4_latest_19 : decode cX4_latest 19 = .ok (.if_icmp .ge 12, 3) := by decide +kernel
theorem dX4_latest_22 : decode cX4_latest 22 = .ok (.aload_n 0, 1) := by decide +kernel
theorem dX4_latest_23 : decode cX4_latest 23 = .ok (.getfield 18, 3) := by decide +kernel
theorem dX4_latest_26 : decode cX4_latest 26 = .ok (.iload_n 2, 1) := by decide +kernel
theorem dX4_latest_27 : decode cX4_latest 27 = .ok (.iaload, 1) := by decide +kernel
theorem dX4_latest_28 : decode cX4_latest 28 = .ok (.goto 4, 3) := by decide +kernel
theorem dX4_latest_31 : decode cX4_latest 31 = .ok (.iconst (-1), 1) := by decide +kernel
theorem dX4_latest_32 : decode cX4_latest 32 = .ok (.ireturn, 1) := by decide +kernel
theorem dX5_init_0 : decode cX5_init 0 = .ok (.aload_n 0, 1) := by decide +kernel
theorem dX5_init_1 : decode cX5_init 1 = .ok (.invokespecial 3, 3) := by decide +kernel
theorem dX5_init_4 : decode cX5_init 4 = .ok (.aload_n 0, 1) := by decide +kernel
theorem dX5_init_5 : decode cX5_init 5 = .ok (.getstatic 9, 3) := by decide +kernel
theorem dX5_init_8 : decode cX5_init 8 = .ok (.arraylength, 1) := by decide +kernel
theorem dX5_init_9 : decode cX5_init 9 = .ok (.newarray .int, 2) := by decide +kernel
theorem dX5_init_11 : decode cX5_init 11 = .ok (.putfield 13, 3) := by decide +kernel
theorem dX5_init_14 : decode cX5_init 14 = .ok (.aload_n 0, 1) := by decide +kernel
theorem dX5_init_15 : decode cX5_init 15 = .ok (.bipush 6, 2) := by decide +kernel
theorem dX5_init_17 : decode cX5_init 17 = .ok (.newarray .int, 2) := by decide +kernel
theorem dX5_init_19 : decode cX5_init 19 = .ok (.putfield 18, 3) := by decide +kernel
theorem dX5_init_22 : decode cX5_init 22 = .ok (.aload_n 0, 1) := by decide +kernel
theorem dX5_init_23 : decode cX5_init 23 = .ok (.bipush 6, 2) := by decide +kernel
theorem dX5_init_25 : decode cX5_init 25 = .ok (.newarray .int, 2) := by decide +kernel
theorem dX5_init_27 : decode cX5_init 27 = .ok (.putfield 21, 3) := by decide +kernel
theorem dX5_init_30 : decode cX5_init 30 = .ok (.aload_n 0, 1) := by decide +kernel
theorem dX5_init_31 : decode cX5_init 31 = .ok (.bipush 20, 2) := by decide +kernel
theorem dX5_init_33 : decode cX5_init 33 = .ok (.newarray .int, 2) := by decide +kernel
theorem dX5_init_35 : decode cX5_init 35 = .ok (.putfield 24, 3) := by decide +kernel
theorem dX5_init_38 : decode cX5_init 38 = .ok (.aload_n 0, 1) := by decide +kernel
theorem dX5_init_39 : decode cX5_init 39 = .ok (.bipush 20, 2) := by decide +kernel
theorem dX5_init_41 : decode cX5_init 41 = .ok (.newarray .int, 2) := by decide +kernel
theorem dX5_init_43 : decode cX5_init 43 = .ok (.putfield 27, 3) := by decide +kernel
theorem dX5_init_46 : decode cX5_init 46 = .ok (.aload_n 0, 1) := by decide +kernel
theorem dX5_init_47 : decode cX5_init 47 = .ok (.bipush 20, 2) := by decide +kernel
theorem dX5_init_49 : decode cX5_init 49 = .ok (.newarray .int, 2) := by decide +kernel
theorem dX5_init_51 : decode cX5_init 51 = .ok (.putfield 30, 3) := by decide +kernel
theorem dX5_init_54 : decode cX5_init 54 = .ok (.aload_n 0, 1) := by decide +kernel
theorem dX5_init_55 : decode cX5_init 55 = .ok (.bipush 20, 2) := by decide +kernel
theorem dX5_init_57 : decode cX5_init 57 = .ok (.newarray .int, 2) := by decide +kernel
theorem dX5_init_59 : decode cX5_init 59 = .ok (.putfield 33, 3) := by decide +kernel
theorem dX5_init_62 : decode cX5_init 62 = .ok (.aload_n 0, 1) := by decide +kernel
theorem dX5_init_63 : decode cX5_init 63 = .ok (.bipush 16, 2) := by decide +kernel
theorem dX5_init_65 : decode cX5_init 65 = .ok (.newarray .int, 2) := by decide +kernel
theorem dX5_init_67 : decode cX5_init 67 = .ok (.putfield 36, 3) := by decide +kernel
theorem dX5_init_70 : decode cX5_init 70 = .ok (.aload_n 0, 1) := by decide +kernel
theorem dX5_init_71 : decode cX5_init 71 = .ok (.bipush 16, 2) := by decide +kernel
theorem dX5_init_73 : decode cX5_init 73 = .ok (.newarray .int, 2) := by decide +kernel
theorem dX5_init_75 : decode cX5_init 75 = .ok (.putfield 39, 3) := by decide +kernel
theorem dX5_init_78 : decode cX5_init 78 = .ok (.aload_n 0, 1) := by decide +kernel
theorem dX5_init_79 : decode cX5_init 79 = .ok (.bipush 16, 2) := by decide +kernel
theorem dX5_init_81 : decode cX5_init 81 = .ok (.newarray .int, 2) := by decide +kernel
theorem dX5_init_83 : decode cX5_init 83 = .ok (.putfield 42, 3) := by decide +kernel
theorem dX5_init_86 : decode cX5_init 86 = .ok (.aload_n 0, 1) := by decide +kernel
theorem dX5_init_87 : decode cX5_init 87 = .ok (.bipush 16, 2) := by decide +kernel
theorem dX5_init_89 : decode cX5_init 89 = .ok (.newarray .int, 2) := by decide +kernel
theorem dX5_init_91 : decode cX5_init 91 = .ok (.putfield 45, 3) := by decide +kernel
theorem dX5_init_94 : decode cX5_init 94 = .ok (.aload_n 0, 1) := by decide +kernel
theorem dX5_init_95 : decode cX5_init 95 = .ok (.bipush 16, 2) := by decide +kernel
theorem dX5_init_97 : decode cX5_init 97 = .ok (.newarray .int, 2) := by decide +kernel
theorem dX5_init_99 : decode cX5_init 99 = .ok (.putfield 48, 3) := by decide +kernel
theorem dX5_init_102 : decode cX5_init 102 = .ok (.aload_n 0, 1) := by decide +kernel
theorem dX5_init_103 : decode cX5_init 103 = .ok (.bipush 16, 2) := by decide +kernel
theorem dX5_init_105 : decode cX5_init 105 = .ok (.newarray .int, 2) := by decide +kernel
theorem dX5_init_107 : decode cX5_init 107 = .ok (.putfield 51, 3) := by decide +kernel
theorem dX5_init_110 : decode cX5_init 110 = .ok (.aload_n 0, 1) := by decide +kernel
theorem dX5_init_111 : decode cX5_init 111 = .ok (.iconst 4, 1) := by decide +kernel
theorem dX5_init_112 : decode cX5_init 112 = .ok (.newarray .int, 2) := by decide +kernel
theorem dX5_init_114 : decode cX5_init 114 = .ok (.putfield 54, 3) := by decide +kernel
theorem dX5_init_117 : decode cX5_init 117 = .ok (.aload_n 0, 1) := by decide +kernel
theorem dX5_init_118 : decode cX5_init 118 = .ok (.iconst 4, 1) := by decide +kernel
theorem dX5_init_119 : decode cX5_init 119 = .ok (.newarray .int, 2) := by decide +kernel
theorem dX5_init_121 : decode cX5_init 121 = .ok (.putfield 57, 3) := by decide +kernel
theorem dX5_init_124 : decode cX5_init 124 = .ok (.aload_n 0, 1) := by decide +kernel
theorem dX5_init_125 : decode cX5_init 125 = .ok (.iconst 4, 1) := by decide +kernel
theorem dX5_init_126 : decode cX5_init 126 = .ok (.newarray .int, 2) := by decide +kernel
theorem dX5_init_128 : decode cX5_init 128 = .ok (.putfield 60, 3) := by decide +kernel
theorem dX5_init_131 : decode cX5_init 131 = .ok (.aload_n 0, 1) := by decide +kernel
theorem dX5_init_132 : decode cX5_init 132 = .ok (.iconst 3, 1) := by decide +kernel
theorem dX5_init_133 : decode cX5_init 133 = .ok (.newarray .int, 2) := by decide +kernel
theorem dX5_init_135 : decode cX5_init 135 = .ok (.putfield 63, 3) := by decide +kernel
theorem dX5_init_138 : decode cX5_init 138 = .ok (.aload_n 0, 1) := by decide +kernel
theorem dX5_init_139 : decode cX5_init 139 = .ok (.bipush 42, 2) := by decide +kernel
theorem dX5_init_141 : decode cX5_init 141 = .ok (.newarray .int, 2) := by decide +kernel
theorem dX5_init_143 : decode cX5_init 143 = .ok (.putfield 66, 3) := by decide +kernel
theorem dX5_init_146 : decode cX5_init 146 = .ok (.return_, 1) := by decide +kernel
theorem dX5_clear_0 : decode cX5_clear 0 = .ok (.aload_n 0, 1) := by decide +kernel
theorem dX5_clear_1 : decode cX5_clear 1 = .ok (.getfield 13, 3) := by decide +kernel
theorem dX5_clear_4 : decode cX5_clear 4 = .ok (.iconst 0, 1) := by decide +kernel
theorem dX5_clear_5 : decode cX5_clear 5 = .ok (.invokestatic 69, 3) := by decide +kernel
theorem dX5_clear_8 : decode cX5_clear 8 = .ok (.aload_n 0, 1) := by decide +kernel
theorem dX5_clear_9 : decode cX5_clear 9 = .ok (.getfield 36, 3) := by decide +kernel
theorem dX5_clear_12 : decode cX5_clear 12 = .ok (.iconst 0, 1) := by decide +kernel
theorem dX5_clear_13 : decode cX5_clear 13 = .ok (.invokestatic 69, 3) := by decide +kernel
theorem dX5_clear_16 : decode cX5_clear 16 = .ok (.aload_n 0, 1) := by decide +kernel
theorem dX5_clear_17 : decode cX5_clear 17 = .ok (.getfield 39, 3) := by decide +kernel
theorem dX5_clear_20 : decode cX5_clear 20 = .ok (.iconst 0, 1) := by decide +kernel
theorem dX5_clear_21 : decode cX5_clear 21 = .ok (.invokestatic 69, 3) := by decide +kernel
theorem dX5_clear_24 : decode cX5_clear 24 = .ok (.aload_n 0, 1) := by decide +kernel
theorem dX5_clear_25 : decode cX5_clear 25 = .ok (.getfield 42, 3) := by decide +kernel
theorem dX5_clear_28 : decode cX5_clear 28 = .ok (.iconst 0, 1) := by decide +kernel
theorem dX5_clear_29 : decode cX5_clear 29 = .ok (.invokestatic 69, 3) := by decide +kernel
theorem dX5_clear_32 : decode cX5_clear 32 = .ok (.return_, 1) := by decide +kernel
theorem dX5_has_0 : decode cX5_has 0 = .ok (.iload_n 2, 1) := by decide +kernel
theorem dX5_has_1 : decode cX5_has 1 = .ok (.ifCond .lt 17, 3) := by decide +kernel
theorem dX5_has_4 : decode cX5_has 4 = .ok (.iload_n 2, 1) := by decide +kernel
theorem dX5_has_5 : decode cX5_has 5 = .ok (.aload_n 0, 1) := by decide +kernel
theorem dX5_has_6 : decode cX5_has 6 = .ok (.getfield 13, 3) := by decide +kernel
theorem dX5_has_9 : decode cX5_has 9 = .ok (.iload_n 1, 1) := by decide +kernel
theorem dX5_has_10 : decode cX5_has 10 = .ok (.iaload, 1) := by decide +kernel
theorem dX5_has_11 : decode cX5_has 11 = .ok (.if_icmp .ge 7, 3) := by decide +kernel
theorem dX5_has_14 : decode cX5_has 14 = .ok (.iconst 1, 1) := by decide +kernel
theorem dX5_has_15 : decode cX5_has 15 = .ok (.goto 4, 3) := by decide +kernel
theorem dX5_has_18 : decode cX5_has 18 = .ok (.iconst 0, 1) := by decide +kernel
theorem dX5_has_19 : decode cX5_has 19 = .ok (.ireturn, 1) := by decide +kernel
theorem dX5_hasGrant_0 : decode cX5_hasGrant 0 = .ok (.iload_n 1, 1) := by decide +kernel
theorem dX5_hasGrant_1 : decode cX5_hasGrant 1 = .ok (.bipush 6, 2) := by decide +kernel
theorem dX5_hasGrant_3 : decode cX5_hasGrant 3 = .ok (.if_icmp .ge 10, 3) := by decide +kernel
theorem dX5_hasGrant_6 : decode cX5_hasGrant 6 = .ok (.aload_n 0, 1) := by decide +kernel
theorem dX5_hasGrant_7 : decode cX5_hasGrant 7 = .ok (.iconst 5, 1) := by decide +kernel
theorem dX5_hasGrant_8 : decode cX5_hasGrant 8 = .ok (.iload_n 1, 1) := by decide +kernel
theorem dX5_hasGrant_9 : decode cX5_hasGrant 9 = .ok (.invokevirtual 75, 3) := by decide +kernel
theorem dX5_hasGrant_12 : decode cX5_hasGrant 12 = .ok (.ireturn, 1) := by decide +kernel
theorem dX5_hasGrant_13 : decode cX5_hasGrant 13 = .ok (.iload_n 1, 1) := by decide +kernel
theorem dX5_hasGrant_14 : decode cX5_hasGrant 14 = .ok (.bipush 12, 2) := by decide +kernel
theorem dX5_hasGrant_16 : decode cX5_hasGrant 16 = .ok (.if_icmp .ge 16, 3) := by decide +kernel
theorem dX5_hasGrant_19 : decode cX5_hasGrant 19 = .ok (.aload_n 0, 1) := by decide +kernel
theorem dX5_hasGrant_20 : decode cX5_hasGrant 20 = .ok (.bipush 6, 2) := by decide +kernel
theorem dX5_hasGrant_22 : decode cX5_hasGrant 22 = .ok (.iload_n 1, 1) := by decide +kernel
theorem dX5_hasGrant_23 : decode cX5_hasGrant 23 = .ok (.bipush 6, 2) := by decide +kernel
theorem dX5_hasGrant_25 : decode cX5_hasGrant 25 = .ok (.isub, 1) := by decide +kernel
theorem dX5_hasGrant_26 : decode cX5_hasGrant 26 = .ok (.invokevirtual 75, 3) := by decide +kernel
theorem dX5_hasGrant_29 : decode cX5_hasGrant 29 = .ok (.goto 13, 3) := by decide +kernel
theorem dX5_hasGrant_32 : decode cX5_hasGrant 32 = .ok (.aload_n 0, 1) := by decide +kernel
theorem dX5_hasGrant_33 : decode cX5_hasGrant 33 = .ok (.bipush 7, 2) := by decide +kernel
theorem dX5_hasGrant_35 : decode cX5_hasGrant 35 = .ok (.iload_n 1, 1) := by decide +kernel
theorem dX5_hasGrant_36 : decode cX5_hasGrant 36 = .ok (.bipush 12, 2) := by decide +kernel
theorem dX5_hasGrant_38 : decode cX5_hasGrant 38 = .ok (.isub, 1) := by decide +kernel
theorem dX5_hasGrant_39 : decode cX5_hasGrant 39 = .ok (.invokevirtual 75, 3) := by decide +kernel
theorem dX5_hasGrant_42 : decode cX5_hasGrant 42 = .ok (.ireturn, 1) := by decide +kernel
theorem dX5_ofCart_0 : decode cX5_ofCart 0 = .ok (.aload_n 0, 1) := by decide +kernel
theorem dX5_ofCart_1 : decode cX5_ofCart 1 = .ok (.getfield 66, 3) := by decide +kernel
theorem dX5_ofCart_4 : decode cX5_ofCart 4 = .ok (.iload_n 1, 1) := by decide +kernel
theorem dX5_ofCart_5 : decode cX5_ofCart 5 = .ok (.bipush 7, 2) := by decide +kernel
theorem dX5_ofCart_7 : decode cX5_ofCart 7 = .ok (.imul, 1) := by decide +kernel
theorem dX5_ofCart_8 : decode cX5_ofCart 8 = .ok (.iload_n 2, 1) := by decide +kernel
theorem dX5_ofCart_9 : decode cX5_ofCart 9 = .ok (.iadd, 1) := by decide +kernel
theorem dX5_ofCart_10 : decode cX5_ofCart 10 = .ok (.iaload, 1) := by decide +kernel
theorem dX5_ofCart_11 : decode cX5_ofCart 11 = .ok (.ireturn, 1) := by decide +kernel
theorem dX5_links_0 : decode cX5_links 0 = .ok (.aload_n 0, 1) := by decide +kernel
theorem dX5_links_1 : decode cX5_links 1 = .ok (.getfield 13, 3) := by decide +kernel
theorem dX5_links_4 : decode cX5_links 4 = .ok (.iconst 3, 1) := by decide +kernel
theorem dX5_links_5 : decode cX5_links 5 = .ok (.iaload, 1) := by decide +kernel
theorem dX5_links_6 : decode cX5_links 6 = .ok (.aload_n 0, 1) := by decide +kernel
theorem dX5_links_7 : decode cX5_links 7 = .ok (.getfield 13, 3) := by decide +kernel
theorem dX5_links_10 : decode cX5_links 10 = .ok (.iconst 4, 1) := by decide +kernel
theorem dX5_links_11 : decode cX5_links 11 = .ok (.iaload, 1) := by decide +kernel
theorem dX5_links_12 : decode cX5_links 12 = .ok (.iadd, 1) := by decide +kernel
theorem dX5_links_13 : decode cX5_links 13 = .ok (.ireturn, 1) := by decide +kernel
theorem dX5_renewalsOf_0 : decode cX5_renewalsOf 0 = .ok (.iconst 0, 1) := by decide +kernel
theorem dX5_renewalsOf_1 : decode cX5_renewalsOf 1 = .ok (.istore_n 2, 1) := by decide +kernel
theorem dX5_renewalsOf_2 : decode cX5_renewalsOf 2 = .ok (.iconst 0, 1) := by decide +kernel
theorem dX5_renewalsOf_3 : decode cX5_renewalsOf 3 = .ok (.istore_n 3, 1) := by decide +kernel
theorem dX5_renewalsOf_4 : decode cX5_renewalsOf 4 = .ok (.iload_n 3, 1) := by decide +kernel
theorem dX5_renewalsOf_5 : decode cX5_renewalsOf 5 = .ok (.aload_n 0, 1) := by decide +kernel
theorem dX5_renewalsOf_6 : decode cX5_renewalsOf 6 = .ok (.getfield 13, 3) := by decide +kernel
theorem dX5_renewalsOf_9 : decode cX5_renewalsOf 9 = .ok (.bipush 8, 2) := by decide +kernel
theorem dX5_renewalsOf_11 : decode cX5_renewalsOf 11 = .ok (.iaload, 1) := by decide +kernel
theorem dX5_renewalsOf_12 : decode cX5_renewalsOf 12 = .ok (.if_icmp .ge 22, 3) := by decide +kernel
theorem dX5_renewalsOf_15 : decode cX5_renewalsOf 15 = .ok (.aload_n 0, 1) := by decide +kernel
theorem dX5_renewalsOf_16 : decode cX5_renewalsOf 16 = .ok (.getfield 54, 3) := by decide +kernel
theorem dX5_renewalsOf_19 : decode cX5_renewalsOf 19 = .ok (.iload_n 3, 1) := by decide +kernel
theorem dX5_renewalsOf_20 : decode cX5_renewalsOf 20 = .ok (.iaload, 1) := by decide +kernel
theorem dX5_renewalsOf_21 : decode cX5_renewalsOf 21 = .ok (.iload_n 1, 1) := by decide +kernel
theorem dX5_renewalsOf_22 : decode cX5_renewalsOf 22 = .ok (.if_icmp .ne 6, 3) := by decide +kernel
theorem dX5_renewalsOf_25 : decode cX5_renewalsOf 25 = .ok (.iinc 2 1, 3) := by decide +kernel
theorem dX5_renewalsOf_28 : decode cX5_renewalsOf 28 = .ok (.iinc 3 1, 3) := by decide +kernel
theorem dX5_renewalsOf_31 : decode cX5_renewalsOf 31 = .ok (.goto (-27), 3) := by decide +kernel
theorem dX5_renewalsOf_34 : decode cX5_renewalsOf 34 = .ok (.iload_n 2, 1) := by decide +kernel
theorem dX5_renewalsOf_35 : decode cX5_renewalsOf 35 = .ok (.ireturn, 1) := by decide +kernel
theorem dX5_choices_0 : decode cX5_choices 0 = .ok (.iconst 1, 1) := by decide +kernel
theorem dX5_choices_1 : decode cX5_choices 1 = .ok (.istore_n 1, 1) := by decide +kernel
theorem dX5_choices_2 : decode cX5_choices 2 = .ok (.iconst 0, 1) := by decide +kernel
theorem dX5_choices_3 : decode cX5_choices 3 = .ok (.istore_n 2, 1) := by decide +kernel
theorem dX5_choices_4 : decode cX5_choices 4 = .ok (.iload_n 2, 1) := by decide +kernel
theorem dX5_choices_5 : decode cX5_choices 5 = .ok (.bipush 16, 2) := by decide +kernel
theorem dX5_choices_7 : decode cX5_choices 7 = .ok (.if_icmp .ge 34, 3) := by decide +kernel
theorem dX5_choices_10 : decode cX5_choices 10 = .ok (.iload_n 1, 1) := by decide +kernel
theorem dX5_choices_11 : decode cX5_choices 11 = .ok (.sipush 2000, 3) := by decide +kernel
theorem dX5_choices_14 : decode cX5_choices 14 = .ok (.if_icmp .gt 27, 3) := by decide +kernel
theorem dX5_choices_17 : decode cX5_choices 17 = .ok (.iload_n 1, 1) := by decide +kernel
theorem dX5_choices_18 : decode cX5_choices 18 = .ok (.aload_n 0, 1) := by decide +kernel
theorem dX5_choices_19 : decode cX5_choices 19 = .ok (.getfield 39, 3) := by decide +kernel
theorem dX5_choices_22 : decode cX5_choices 22 = .ok (.iload_n 2, 1) := by decide +kernel
theorem dX5_choices_23 : decode cX5_choices 23 = .ok (.iaload, 1) := by decide +kernel
theorem dX5_choices_24 : decode cX5_choices 24 = .ok (.aload_n 0, 1) := by decide +kernel
theorem dX5_choices_25 : decode cX5_choices 25 = .ok (.getfield 36, 3) := by decide +kernel
theorem dX5_choices_28 : decode cX5_choices 28 = .ok (.iload_n 2, 1) := by decide +kernel
theorem dX5_choices_29 : decode cX5_choices 29 = .ok (.iaload, 1) := by decide +kernel
theorem dX5_choices_30 : decode cX5_choices 30 = .ok (.isub, 1) := by decide +kernel
theorem dX5_choices_31 : decode cX5_choices 31 = .ok (.iconst 1, 1) := by decide +kernel
theorem dX5_choices_32 : decode cX5_choices 32 = .ok (.iadd, 1) := by decide +kernel
theorem dX5_choices_33 : decode cX5_choices 33 = .ok (.imul, 1) := by decide +kernel
theorem dX5_choices_34 : decode cX5_choices 34 = .ok (.istore_n 1, 1) := by decide +kernel
theorem dX5_choices_35 : decode cX5_choices 35 = .ok (.iinc 2 1, 3) := by decide +kernel
theorem dX5_choices_38 : decode cX5_choices 38 = .ok (.goto (-34), 3) := by decide +kernel
theorem dX5_choices_41 : decode cX5_choices 41 = .ok (.iload_n 1, 1) := by decide +kernel
theorem dX5_choices_42 : decode cX5_choices 42 = .ok (.ireturn, 1) := by decide +kernel
theorem dX6_init_0 : decode cX6_init 0 = .ok (.aload_n 0, 1) := by decide +kernel
theorem dX6_init_1 : decode cX6_init 1 = .ok (.invokespecial 3, 3) := by decide +kernel
theorem dX6_init_4 : decode cX6_init 4 = .ok (.aload_n 0, 1) := by decide +kernel
theorem dX6_init_5 : decode cX6_init 5 = .ok (.bipush 16, 2) := by decide +kernel
theorem dX6_init_7 : decode cX6_init 7 = .ok (.newarray .int, 2) := by decide +kernel
theorem dX6_init_9 : decode cX6_init 9 = .ok (.putfield 9, 3) := by decide +kernel
theorem dX6_init_12 : decode cX6_init 12 = .ok (.aload_n 0, 1) := by decide +kernel
theorem dX6_init_13 : decode cX6_init 13 = .ok (.bipush 16, 2) := by decide +kernel
theorem dX6_init_15 : decode cX6_init 15 = .ok (.newarray .int, 2) := by decide +kernel
theorem dX6_init_17 : decode cX6_init 17 = .ok (.putfield 15, 3) := by decide +kernel
theorem dX6_init_20 : decode cX6_init 20 = .ok (.aload_n 0, 1) := by decide +kernel
theorem dX6_init_21 : decode cX6_init 21 = .ok (.bipush 16, 2) := by decide +kernel
theorem dX6_init_23 : decode cX6_init 23 = .ok (.newarray .boolean, 2) := by decide +kernel
theorem dX6_init_25 : decode cX6_init 25 = .ok (.putfield 18, 3) := by decide +kernel
theorem dX6_init_28 : decode cX6_init 28 = .ok (.aload_n 0, 1) := by decide +kernel
theorem dX6_init_29 : decode cX6_init 29 = .ok (.bipush 16, 2) := by decide +kernel
theorem dX6_init_31 : decode cX6_init 31 = .ok (.newarray .int, 2) := by decide +kernel
theorem dX6_init_33 : decode cX6_init 33 = .ok (.putfield 22, 3) := by decide +kernel
theorem dX6_init_36 : decode cX6_init 36 = .ok (.aload_n 0, 1) := by decide +kernel
theorem dX6_init_37 : decode cX6_init 37 = .ok (.bipush 16, 2) := by decide +kernel
theorem dX6_init_39 : decode cX6_init 39 = .ok (.newarray .int, 2) := by decide +kernel
theorem dX6_init_41 : decode cX6_init 41 = .ok (.putfield 25, 3) := by decide +kernel
theorem dX6_init_44 : decode cX6_init 44 = .ok (.aload_n 0, 1) := by decide +kernel
theorem dX6_init_45 : decode cX6_init 45 = .ok (.bipush 16, 2) := by decide +kernel
theorem dX6_init_47 : decode cX6_init 47 = .ok (.newarray .int, 2) := by decide +kernel
theorem dX6_init_49 : decode cX6_init 49 = .ok (.putfield 28, 3) := by decide +kernel
theorem dX6_init_52 : decode cX6_init 52 = .ok (.aload_n 0, 1) := by decide +kernel
theorem dX6_init_53 : decode cX6_init 53 = .ok (.aload_n 1, 1) := by decide +kernel
theorem dX6_init_54 : decode cX6_init 54 = .ok (.putfield 31, 3) := by decide +kernel
theorem dX6_init_57 : decode cX6_init 57 = .ok (.return_, 1) := by decide +kernel
theorem dX6_open_0 : decode cX6_open 0 = .ok (.aload_n 0, 1) := by decide +kernel
theorem dX6_open_1 : decode cX6_open 1 = .ok (.aload_n 1, 1) := by decide +kernel
theorem dX6_open_2 : decode cX6_open 2 = .ok (.putfield 31, 3) := by decide +kernel
theorem dX6_open_5 : decode cX6_open 5 = .ok (.aload_n 0, 1) := by decide +kernel
theorem dX6_open_6 : decode cX6_open 6 = .ok (.getfield 31, 3) := by decide +kernel
theorem dX6_open_9 : decode cX6_open 9 = .ok (.getfield 35, 3) := by decide +kernel
theorem dX6_open_12 : decode cX6_open 12 = .ok (.iload_n 2, 1) := by decide +kernel
theorem dX6_open_13 : decode cX6_open 13 = .ok (.iaload, 1) := by decide +kernel
theorem dX6_open_14 : decode cX6_open 14 = .ok (.istore_n 3, 1) := by decide +kernel
theorem dX6_open_15 : decode cX6_open 15 = .ok (.aload_n 0, 1) := by decide +kernel
theorem dX6_open_16 : decode cX6_open 16 = .ok (.iload_n 3, 1) := by decide +kernel
theorem dX6_open_17 : decode cX6_open 17 = .ok (.iconst 1, 1) := by decide +kernel
theorem dX6_open_18 : decode cX6_open 18 = .ok (.iand, 1) := by decide +kernel
theorem dX6_open_19 : decode cX6_open 19 = .ok (.ifCond .eq 7, 3) := by decide +kernel
theorem dX6_open_22 : decode cX6_open 22 = .ok (.iconst 1, 1) := by decide +kernel
theorem dX6_open_23 : decode cX6_open 23 = .ok (.goto 4, 3) := by decide +kernel
theorem dX6_open_26 : decode cX6_open 26 = .ok (.iconst 0, 1) := by decide +kernel
theorem dX6_open_27 : decode cX6_open 27 = .ok (.putfield 40, 3) := by decide +kernel
theorem dX6_open_30 : decode cX6_open 30 = .ok (.aload_n 0, 1) := by decide +kernel
theorem dX6_open_31 : decode cX6_open 31 = .ok (.iload_n 3, 1) := by decide +kernel
theorem dX6_open_32 : decode cX6_open 32 = .ok (.iconst 2, 1) := by decide +kernel
theorem dX6_open_33 : decode cX6_open 33 = .ok (.iand, 1) := by decide +kernel
theorem dX6_open_34 : decode cX6_open 34 = .ok (.ifCond .eq 7, 3) := by decide +kernel
theorem dX6_open_37 : decode cX6_open 37 = .ok (.iconst 1, 1) := by decide +kernel
theorem dX6_open_38 : decode cX6_open 38 = .ok (.goto 4, 3) := by decide +kernel
theorem dX6_open_41 : decode cX6_open 41 = .ok (.iconst 0, 1) := by decide +kernel
theorem dX6_open_42 : decode cX6_open 42 = .ok (.putfield 44, 3) := by decide +kernel
theorem dX6_open_45 : decode cX6_open 45 = .ok (.aload_n 0, 1) := by decide +kernel
theorem dX6_open_46 : decode cX6_open 46 = .ok (.iload_n 3, 1) := by decide +kernel
theorem dX6_open_47 : decode cX6_open 47 = .ok (.iconst 4, 1) := by decide +kernel
theorem dX6_open_48 : decode cX6_open 48 = .ok (.iand, 1) := by decide +kernel
theorem dX6_open_49 : decode cX6_open 49 = .ok (.ifCond .ne 7, 3) := by decide +kernel
theorem dX6_open_52 : decode cX6_open 52 = .ok (.iconst 1, 1) := by decide +kernel
theorem dX6_open_53 : decode cX6_open 53 = .ok (.goto 4, 3) := by decide +kernel
theorem dX6_open_56 : decode cX6_open 56 = .ok (.iconst 0, 1) := by decide +kernel
theorem dX6_open_57 : decode cX6_open 57 = .ok (.putfield 47, 3) := by decide +kernel
theorem dX6_open_60 : decode cX6_open 60 = .ok (.aload_n 0, 1) := by decide +kernel
theorem dX6_open_61 : decode cX6_open 61 = .ok (.iload_n 3, 1) := by decide +kernel
theorem dX6_open_62 : decode cX6_open 62 = .ok (.bipush 8, 2) := by decide +kernel
theorem dX6_open_64 : decode cX6_open 64 = .ok (.iand, 1) := by decide +kernel
theorem dX6_open_65 : decode cX6_open 65 = .ok (.ifCond .ne 7, 3) := by decide +kernel
theorem dX6_open_68 : decode cX6_open 68 = .ok (.iconst 1, 1) := by decide +kernel
theorem dX6_open_69 : decode cX6_open 69 = .ok (.goto 4, 3) := by decide +kernel
theorem dX6_open_72 : decode cX6_open 72 = .ok (.iconst 0, 1) := by decide +kernel
theorem dX6_open_73 : decode cX6_open 73 = .ok (.putfield 50, 3) := by decide +kernel
theorem dX6_open_76 : decode cX6_open 76 = .ok (.aload_n 0, 1) := by decide +kernel
theorem dX6_open_77 : decode cX6_open 77 = .ok (.iconst (-1), 1) := by decide +kernel
theorem dX6_open_78 : decode cX6_open 78 = .ok (.putfield 53, 3) := by decide +kernel
theorem dX6_open_81 : decode cX6_open 81 = .ok (.aload_n 0, 1) := by decide +kernel
theorem dX6_open_82 : decode cX6_open 82 = .ok (.getfield 31, 3) := by decide +kernel
theorem dX6_open_85 : decode cX6_open 85 = .ok (.getfield 57, 3) := by decide +kernel
theorem dX6_open_88 : decode cX6_open 88 = .ok (.iconst 0, 1) := by decide +kernel
theorem dX6_open_89 : decode cX6_open 89 = .ok (.aload_n 0, 1) := by decide +kernel
theorem dX6_open_90 : decode cX6_open 90 = .ok (.getfield 9, 3) := by decide +kernel
theorem dX6_open_93 : decode cX6_open 93 = .ok (.iconst 0, 1) := by decide +kernel
theorem dX6_open_94 : decode cX6_open 94 = .ok (.bipush 16, 2) := by decide +kernel
theorem dX6_open_96 : decode cX6_open 96 = .ok (.invokestatic 60, 3) := by decide +kernel
theorem dX6_open_99 : decode cX6_open 99 = .ok (.aload_n 0, 1) := by decide +kernel
theorem dX6_open_100 : decode cX6_open 100 = .ok (.getfield 31, 3) := by decide +kernel
theorem dX6_open_103 : decode cX6_open 103 = .ok (.getfield 66, 3) := by decide +kernel
theorem dX6_open_106 : decode cX6_open 106 = .ok (.iconst 0, 1) := by decide +kernel
theorem dX6_open_107 : decode cX6_open 107 = .ok (.aload_n 0, 1) := by decide +kernel
theorem dX6_open_108 : decode cX6_open 108 = .ok (.getfield 15, 3) := by decide +kernel
theorem dX6_open_111 : decode cX6_open 111 = .ok (.iconst 0, 1) := by decide +kernel
theorem dX6_open_112 : decode cX6_open 112 = .ok (.bipush 16, 2) := by decide +kernel
theorem dX6_open_114 : decode cX6_open 114 = .ok (.invokestatic 60, 3) := by decide +kernel
theorem dX6_open_117 : decode cX6_open 117 = .ok (.return_, 1) := by decide +kernel
theorem dX6_suppose_0 : decode cX6_suppose 0 = .ok (.aload_n 0, 1) := by decide +kernel
theorem dX6_suppose_1 : decode cX6_suppose 1 = .ok (.iload_n 1, 1) := by decide +kernel
theorem dX6_suppose_2 : decode cX6_suppose 2 = .ok (.putfield 53, 3) := by decide +kernel
theorem dX6_suppose_5 : decode cX6_suppose 5 = .ok (.aload_n 0, 1) := by decide +kernel
theorem dX6_suppose_6 : decode cX6_suppose 6 = .ok (.iload_n 2, 1) := by decide +kernel
theorem dX6_suppose_7 : decode cX6_suppose 7 = .ok (.putfield 67, 3) := by decide +kernel
theorem dX6_suppose_10 : decode cX6_suppose 10 = .ok (.aload_n 0, 1) := by decide +kernel
theorem dX6_suppose_11 : decode cX6_suppose 11 = .ok (.iload_n 3, 1) := by decide +kernel
theorem dX6_suppose_12 : decode cX6_suppose 12 = .ok (.putfield 70, 3) := by decide +kernel
theorem dX6_suppose_15 : decode cX6_suppose 15 = .ok (.return_, 1) := by decide +kernel
theorem dX6_sit_0 : decode cX6_sit 0 = .ok (.aload_n 0, 1) := by decide +kernel
theorem dX6_sit_1 : decode cX6_sit 1 = .ok (.iload_n 1, 1) := by decide +kernel
theorem dX6_sit_2 : decode cX6_sit 2 = .ok (.putfield 73, 3) := by decide +kernel
theorem dX6_sit_5 : decode cX6_sit 5 = .ok (.iconst 0, 1) := by decide +kernel
theorem dX6_sit_6 : decode cX6_sit 6 = .ok (.istore_n 2, 1) := by decide +kernel
theorem dX6_sit_7 : decode cX6_sit 7 = .ok (.iload_n 2, 1) := by decide +kernel
theorem dX6_sit_8 : decode cX6_sit 8 = .ok (.bipush 16, 2) := by decide +kernel
theorem dX6_sit_10 : decode cX6_sit 10 = .ok (.if_icmp .ge 25, 3) := by decide +kernel
theorem dX6_sit_13 : decode cX6_sit 13 = .ok (.aload_n 0, 1) := by decide +kernel
theorem dX6_sit_14 : decode cX6_sit 14 = .ok (.getfield 31, 3) := by decide +kernel
theorem dX6_sit_17 : decode cX6_sit 17 = .ok (.iload_n 2, 1) := by decide +kernel
theorem dX6_sit_18 : decode cX6_sit 18 = .ok (.invokevirtual 76, 3) := by decide +kernel
theorem dX6_sit_21 : decode cX6_sit 21 = .ok (.ifCond .eq 8, 3) := by decide +kernel
theorem dX6_sit_24 : decode cX6_sit 24 = .ok (.aload_n 0, 1) := by decide +kernel
theorem dX6_sit_25 : decode cX6_sit 25 = .ok (.iload_n 2, 1) := by decide +kernel
theorem dX6_sit_26 : decode cX6_sit 26 = .ok (.invokevirtual 80, 3) := by decide +kernel
theorem dX6_sit_29 : decode cX6_sit 29 = .ok (.iinc 2 1, 3) := by decide +kernel
theorem dX6_sit_32 : decode cX6_sit 32 = .ok (.goto (-25), 3) := by decide +kernel
theorem dX6_sit_35 : decode cX6_sit 35 = .ok (.return_, 1) := by decide +kernel
theorem dX6_weigh_0 : decode cX6_weigh 0 = .ok (.aload_n 0, 1) := by decide +kernel
theorem dX6_weigh_1 : decode cX6_weigh 1 = .ok (.getfield 18, 3) := by decide +kernel
theorem dX6_weigh_4 : decode cX6_weigh 4 = .ok (.iload_n 1, 1) := by decide +kernel
theorem dX6_weigh_5 : decode cX6_weigh 5 = .ok (.aload_n 0, 1) := by decide +kernel
theorem dX6_weigh_6 : decode cX6_weigh 6 = .ok (.getfield 9, 3) := by decide +kernel
theorem dX6_weigh_9 : decode cX6_weigh 9 = .ok (.iload_n 1, 1) := by decide +kernel
theorem dX6_weigh_10 : decode cX6_weigh 10 = .ok (.iaload, 1) := by decide +kernel
theorem dX6_weigh_11 : decode cX6_weigh 11 = .ok (.aload_n 0, 1) := by decide +kernel
theorem dX6_weigh_12 : decode cX6_weigh 12 = .ok (.getfield 73, 3) := by decide +kernel
theorem dX6_weigh_15 : decode cX6_weigh 15 = .ok (.if_icmp .gt 33, 3) := by decide +kernel
theorem dX6_weigh_18 : decode cX6_weigh 18 = .ok (.aload_n 0, 1) := by decide +kernel
theorem dX6_weigh_19 : decode cX6_weigh 19 = .ok (.getfield 15, 3) := by decide +kernel
theorem dX6_weigh_22 : decode cX6_weigh 22 = .ok (.iload_n 1, 1) := by decide +kernel
theorem dX6_weigh_23 : decode cX6_weigh 23 = .ok (.iaload, 1) := by decide +kernel
theorem dX6_weigh_24 : decode cX6_weigh 24 = .ok (.ifCond .eq 20, 3) := by decide +kernel
theorem dX6_weigh_27 : decode cX6_weigh 27 = .ok (.aload_n 0, 1) := by decide +kernel
theorem dX6_weigh_28 : decode cX6_weigh 28 = .ok (.getfield 15, 3) := by decide +kernel
theorem dX6_weigh_31 : decode cX6_weigh 31 = .ok (.iload_n 1, 1) := by decide +kernel
theorem dX6_weigh_32 : decode cX6_weigh 32 = .ok (.iaload, 1) := by decide +kernel
theorem dX6_weigh_33 : decode cX6_weigh 33 = .ok (.iconst 2, 1) := by decide +kernel
theorem dX6_weigh_34 : decode cX6_weigh 34 = .ok (.if_icmp .ne 14, 3) := by decide +kernel
theorem dX6_weigh_37 : decode cX6_weigh 37 = .ok (.aload_n 0, 1) := by decide +kernel
theorem dX6_weigh_38 : decode cX6_weigh 38 = .ok (.getfield 50, 3) := by decide +kernel
theorem dX6_weigh_41 : decode cX6_weigh 41 = .ok (.ifCond .eq 7, 3) := by decide +kernel
theorem dX6_weigh_44 : decode cX6_weigh 44 = .ok (.iconst 1, 1) := by decide +kernel
theorem dX6_weigh_45 : decode cX6_weigh 45 = .ok (.goto 4, 3) := by decide +kernel
theorem dX6_weigh_48 : decode cX6_weigh 48 = .ok (.iconst 0, 1) := by decide +kernel
theorem dX6_weigh_49 : decode cX6_weigh 49 = .ok (.bastore, 1) := by decide +kernel
theorem dX6_weigh_50 : decode cX6_weigh 50 = .ok (.aload_n 0, 1) := by decide +kernel
theorem dX6_weigh_51 : decode cX6_weigh 51 = .ok (.getfield 22, 3) := by decide +kernel
theorem dX6_weigh_54 : decode cX6_weigh 54 = .ok (.iload_n 1, 1) := by decide +kernel
theorem dX6_weigh_55 : decode cX6_weigh 55 = .ok (.aload_n 0, 1) := by decide +kernel
theorem dX6_weigh_56 : decode cX6_weigh 56 = .ok (.getfield 9, 3) := by decide +kernel
theorem dX6_weigh_59 : decode cX6_weigh 59 = .ok (.iload_n 1, 1) := by decide +kernel
theorem dX6_weigh_60 : decode cX6_weigh 60 = .ok (.iaload, 1) := by decide +kernel
theorem dX6_weigh_61 : decode cX6_weigh 61 = .ok (.iastore, 1) := by decide +kernel
theorem dX6_weigh_62 : decode cX6_weigh 62 = .ok (.aload_n 0, 1) := by decide +kernel
theorem dX6_weigh_63 : decode cX6_weigh 63 = .ok (.getfield 25, 3) := by decide +kernel
theorem dX6_weigh_66 : decode cX6_weigh 66 = .ok (.iload_n 1, 1) := by decide +kernel
theorem dX6_weigh_67 : decode cX6_weigh 67 = .ok (.aload_n 0, 1) := by decide +kernel
theorem dX6_weigh_68 : decode cX6_weigh 68 = .ok (.getfield 31, 3) := by decide +kernel
theorem dX6_weigh_71 : decode cX6_weigh 71 = .ok (.getfield 84, 3) := by decide +kernel
theorem dX6_weigh_74 : decode cX6_weigh 74 = .ok (.iload_n 1, 1) := by decide +kernel
theorem dX6_weigh_75 : decode cX6_weigh 75 = .ok (.iaload, 1) := by decide +kernel
theorem dX6_weigh_76 : decode cX6_weigh 76 = .ok (.iastore, 1) := by decide +kernel
theorem dX6_weigh_77 : decode cX6_weigh 77 = .ok (.aload_n 0, 1) := by decide +kernel
theorem dX6_weigh_78 : decode cX6_weigh 78 = .ok (.getfield 28, 3) := by decide +kernel
theorem dX6_weigh_81 : decode cX6_weigh 81 = .ok (.iload_n 1, 1) := by decide +kernel
theorem dX6_weigh_82 : decode cX6_weigh 82 = .ok (.aload_n 0, 1) := by decide +kernel
theorem dX6_weigh_83 : decode cX6_weigh 83 = .ok (.getfield 31, 3) := by decide +kernel
theorem dX6_weigh_86 : decode cX6_weigh 86 = .ok (.getfield 85, 3) := by decide +kernel
theorem dX6_weigh_89 : decode cX6_weigh 89 = .ok (.iload_n 1, 1) := by decide +kernel
theorem dX6_weigh_90 : decode cX6_weigh 90 = .ok (.iaload, 1) := by decide +kernel
theorem dX6_weigh_91 : decode cX6_weigh 91 = .ok (.iastore, 1) := by decide +kernel
theorem dX6_weigh_92 : decode cX6_weigh 92 = .ok (.iconst (-1), 1) := by decide +kernel
theorem dX6_weigh_93 : decode cX6_weigh 93 = .ok (.istore_n 2, 1) := by decide +kernel
theorem dX6_weigh_94 : decode cX6_weigh 94 = .ok (.iconst (-1), 1) := by decide +kernel
theorem dX6_weigh_95 : decode cX6_weigh 95 = .ok (.istore_n 3, 1) := by decide +kernel
theorem dX6_weigh_96 : decode cX6_weigh 96 = .ok (.iconst 0, 1) := by decide +kernel
theorem dX6_weigh_97 : decode cX6_weigh 97 = .ok (.istore 4, 2) := by decide +kernel
theorem dX6_weigh_99 : decode cX6_weigh 99 = .ok (.iload 4, 2) := by decide +kernel
theorem dX6_weigh_101 : decode cX6_weigh 101 = .ok (.aload_n 0, 1) := by decide +kernel
theorem dX6_weigh_102 : decode cX6_weigh 102 = .ok (.getfield 31, 3) := by decide +kernel
theorem dX6_weigh_105 : decode cX6_weigh 105 = .ok (.getfield 86, 3) := by decide +kernel
theorem dX6_weigh_108 : decode cX6_weigh 108 = .ok (.bipush 8, 2) := by decide +kernel
theorem dX6_weigh_110 : decode cX6_weigh 110 = .ok (.iaload, 1) := by decide +kernel
theorem dX6_weigh_111 : decode cX6_weigh 111 = .ok (.if_icmp .ge 76, 3) := by decide +kernel
theorem dX6_weigh_114 : decode cX6_weigh 114 = .ok (.aload_n 0, 1) := by decide +kernel
theorem dX6_weigh_115 : decode cX6_weigh 115 = .ok (.getfield 31, 3) := by decide +kernel
theorem dX6_weigh_118 : decode cX6_weigh 118 = .ok (.getfield 89, 3) := by decide +kernel
theorem dX6_weigh_121 : decode cX6_weigh 121 = .ok (.iload 4, 2) := by decide +kernel
theorem dX6_weigh_123 : decode cX6_weigh 123 = .ok (.iaload, 1) := by decide +kernel
theorem dX6_weigh_124 : decode cX6_weigh 124 = .ok (.iload_n 1, 1) := by decide +kernel
theorem dX6_weigh_125 : decode cX6_weigh 125 = .ok (.if_icmp .ne 56, 3) := by decide +kernel
theorem dX6_weigh_128 : decode cX6_weigh 128 = .ok (.aload_n 0, 1) := by decide +kernel
theorem dX6_weigh_129 : decode cX6_weigh 129 = .ok (.getfield 31, 3) := by decide +kernel
theorem dX6_weigh_132 : decode cX6_weigh 132 = .ok (.getfield 92, 3) := by decide +kernel
theorem dX6_weigh_135 : decode cX6_weigh 135 = .ok (.iload 4, 2) := by decide +kernel
theorem dX6_weigh_137 : decode cX6_weigh 137 = .ok (.iaload, 1) := by decide +kernel
theorem dX6_weigh_138 : decode cX6_weigh 138 = .ok (.aload_n 0, 1) := by decide +kernel
theorem dX6_weigh_139 : decode cX6_weigh 139 = .ok (.getfield 73, 3) := by decide +kernel
theorem dX6_weigh_142 : decode cX6_weigh 142 = .ok (.if_icmp .gt 39, 3) := by decide +kernel
theorem dX6_weigh_145 : decode cX6_weigh 145 = .ok (.aload_n 0, 1) := by decide +kernel
theorem dX6_weigh_146 : decode cX6_weigh 146 = .ok (.getfield 31, 3) := by decide +kernel
theorem dX6_weigh_149 : decode cX6_weigh 149 = .ok (.getfield 92, 3) := by decide +kernel
theorem dX6_weigh_152 : decode cX6_weigh 152 = .ok (.iload 4, 2) := by decide +kernel
theorem dX6_weigh_154 : decode cX6_weigh 154 = .ok (.iaload, 1) := by decide +kernel
theorem dX6_weigh_155 : decode cX6_weigh 155 = .ok (.iload_n 3, 1) := by decide +kernel
theorem dX6_weigh_156 : decode cX6_weigh 156 = .ok (.if_icmp .lt 25, 3) := by decide +kernel
theorem dX6_weigh_159 : decode cX6_weigh 159 = .ok (.aload_n 0, 1) := by decide +kernel
theorem dX6_weigh_160 : decode cX6_weigh 160 = .ok (.getfield 31, 3) := by decide +kernel
theorem dX6_weigh_163 : decode cX6_weigh 163 = .ok (.getfield 95, 3) := by decide +kernel
theorem dX6_weigh_166 : decode cX6_weigh 166 = .ok (.iload 4, 2) := by decide +kernel
theorem dX6_weigh_168 : decode cX6_weigh 168 = .ok (.iaload, 1) := by decide +kernel
theorem dX6_weigh_169 : decode cX6_weigh 169 = .ok (.istore_n 2, 1) := by decide +kernel
theorem dX6_weigh_170 : decode cX6_weigh 170 = .ok (.aload_n 0, 1) := by decide +kernel
theorem dX6_weigh_171 : decode cX6_weigh 171 = .ok (.getfield 31, 3) := by decide +kernel
theorem dX6_weigh_174 : decode cX6_weigh 174 = .ok (.getfield 92, 3) := by decide +kernel
theorem dX6_weigh_177 : decode cX6_weigh 177 = .ok (.iload 4, 2) := by decide +kernel
theorem dX6_weigh_179 : decode cX6_weigh 179 = .ok (.iaload, 1) := by decide +kernel
theorem dX6_weigh_180 : decode cX6_weigh 180 = .ok (.istore_n 3, 1) := by decide +kernel
theorem dX6_weigh_181 : decode cX6_weigh 181 = .ok (.iinc 4 1, 3) := by decide +kernel
theorem dX6_weigh_184 : decode cX6_weigh 184 = .ok (.goto (-85), 3) := by decide +kernel
theorem dX6_weigh_187 : decode cX6_weigh 187 = .ok (.aload_n 0, 1) := by decide +kernel
theorem dX6_weigh_188 : decode cX6_weigh 188 = .ok (.getfield 53, 3) := by decide +kernel
theorem dX6_weigh_191 : decode cX6_weigh 191 = .ok (.iload_n 1, 1) := by decide +kernel
theorem dX6_weigh_192 : decode cX6_weigh 192 = .ok (.if_icmp .ne 32, 3) := by decide +kernel
theorem dX6_weigh_195 : decode cX6_weigh 195 = .ok (.aload_n 0, 1) := by decide +kernel
theorem dX6_weigh_196 : decode cX6_weigh 196 = .ok (.getfield 70, 3) := by decide +kernel
theorem dX6_weigh_199 : decode cX6_weigh 199 = .ok (.aload_n 0, 1) := by decide +kernel
theorem dX6_weigh_200 : decode cX6_weigh 200 = .ok (.getfield 73, 3) := by decide +kernel
theorem dX6_weigh_203 : decode cX6_weigh 203 = .ok (.if_icmp .gt 21, 3) := by decide +kernel
theorem dX6_weigh_206 : decode cX6_weigh 206 = .ok (.aload_n 0, 1) := by decide +kernel
theorem dX6_weigh_207 : decode cX6_weigh 207 = .ok (.getfield 70, 3) := by decide +kernel
theorem dX6_weigh_210 : decode cX6_weigh 210 = .ok (.iload_n 3, 1) := by decide +kernel
theorem dX6_weigh_211 : decode cX6_weigh 211 = .ok (.if_icmp .lt 13, 3) := by decide +kernel
theorem dX6_weigh_214 : decode cX6_weigh 214 = .ok (.aload_n 0, 1) := by decide +kernel
theorem dX6_weigh_215 : decode cX6_weigh 215 = .ok (.getfield 67, 3) := by decide +kernel
theorem dX6_weigh_218 : decode cX6_weigh 218 = .ok (.istore_n 2, 1) := by decide +kernel
theorem dX6_weigh_219 : decode cX6_weigh 219 = .ok (.aload_n 0, 1) := by decide +kernel
theorem dX6_weigh_220 : decode cX6_weigh 220 = .ok (.getfield 70, 3) := by decide +kernel
theorem dX6_weigh_223 : decode cX6_weigh 223 = .ok (.istore_n 3, 1) := by decide +kernel
theorem dX6_weigh_224 : decode cX6_weigh 224 = .ok (.iload_n 3, 1) := by decide +kernel
theorem dX6_weigh_225 : decode cX6_weigh 225 = .ok (.ifCond .lt 10, 3) := by decide +kernel
theorem dX6_weigh_228 : decode cX6_weigh 228 = .ok (.aload_n 0, 1) := by decide +kernel
theorem dX6_weigh_229 : decode cX6_weigh 229 = .ok (.iload_n 1, 1) := by decide +kernel
theorem dX6_weigh_230 : decode cX6_weigh 230 = .ok (.iload_n 2, 1) := by decide +kernel
theorem dX6_weigh_231 : decode cX6_weigh 231 = .ok (.iload_n 3, 1) := by decide +kernel
theorem dX6_weigh_232 : decode cX6_weigh 232 = .ok (.invokevirtual 98, 3) := by decide +kernel
theorem dX6_weigh_235 : decode cX6_weigh 235 = .ok (.return_, 1) := by decide +kernel
theorem dX6_renew_0 : decode cX6_renew 0 = .ok (.iload_n 1, 1) := by decide +kernel
theorem dX6_renew_1 : decode cX6_renew 1 = .ok (.bipush 6, 2) := by decide +kernel
theorem dX6_renew_3 : decode cX6_renew 3 = .ok (.if_icmp .ge 7, 3) := by decide +kernel
theorem dX6_renew_6 : decode cX6_renew 6 = .ok (.iconst 1, 1) := by decide +kernel
theorem dX6_renew_7 : decode cX6_renew 7 = .ok (.goto 4, 3) := by decide +kernel
theorem dX6_renew_10 : decode cX6_renew 10 = .ok (.iconst 0, 1) := by decide +kernel
theorem dX6_renew_11 : decode cX6_renew 11 = .ok (.istore 4, 2) := by decide +kernel
theorem dX6_renew_13 : decode cX6_renew 13 = .ok (.aload_n 0, 1) := by decide +kernel
theorem dX6_renew_14 : decode cX6_renew 14 = .ok (.getfield 40, 3) := by decide +kernel
theorem dX6_renew_17 : decode cX6_renew 17 = .ok (.ifCond .eq 10, 3) := by decide +kernel
theorem dX6_renew_20 : decode cX6_renew 20 = .ok (.aload_n 0, 1) := by decide +kernel
theorem dX6_renew_21 : decode cX6_renew 21 = .ok (.getfield 22, 3) := by decide +kernel
theorem dX6_renew_24 : decode cX6_renew 24 = .ok (.iload_n 1, 1) := by decide +kernel
theorem dX6_renew_25 : decode cX6_renew 25 = .ok (.iload_n 3, 1) := by decide +kernel
theorem dX6_renew_26 : decode cX6_renew 26 = .ok (.iastore, 1) := by decide +kernel
theorem dX6_renew_27 : decode cX6_renew 27 = .ok (.iload_n 2, 1) := by decide +kernel
theorem dX6_renew_28 : decode cX6_renew 28 = .ok (.iconst 1, 1) := by decide +kernel
theorem dX6_renew_29 : decode cX6_renew 29 = .ok (.if_icmp .ne 35, 3) := by decide +kernel
theorem dX6_renew_32 : decode cX6_renew 32 = .ok (.aload_n 0, 1) := by decide +kernel
theorem dX6_renew_33 : decode cX6_renew 33 = .ok (.getfield 25, 3) := by decide +kernel
theorem dX6_renew_36 : decode cX6_renew 36 = .ok (.iload_n 1, 1) := by decide +kernel
theorem dX6_renew_37 : decode cX6_renew 37 = .ok (.bipush (-2), 2) := by decide +kernel
theorem dX6_renew_39 : decode cX6_renew 39 = .ok (.iastore, 1) := by decide +kernel
theorem dX6_renew_40 : decode cX6_renew 40 = .ok (.aload_n 0, 1) := by decide +kernel
theorem dX6_renew_41 : decode cX6_renew 41 = .ok (.getfield 28, 3) := by decide +kernel
theorem dX6_renew_44 : decode cX6_renew 44 = .ok (.iload_n 1, 1) := by decide +kernel
theorem dX6_renew_45 : decode cX6_renew 45 = .ok (.iload 4, 2) := by decide +kernel
theorem dX6_renew_47 : decode cX6_renew 47 = .ok (.ifCond .eq 12, 3) := by decide +kernel
theorem dX6_renew_50 : decode cX6_renew 50 = .ok (.aload_n 0, 1) := by decide +kernel
theorem dX6_renew_51 : decode cX6_renew 51 = .ok (.getfield 28, 3) := by decide +kernel
theorem dX6_renew_54 : decode cX6_renew 54 = .ok (.iload_n 1, 1) := by decide +kernel
theorem dX6_renew_55 : decode cX6_renew 55 = .ok (.iaload, 1) := by decide +kernel
theorem dX6_renew_56 : decode cX6_renew 56 = .ok (.goto 4, 3) := by decide +kernel
theorem dX6_renew_59 : decode cX6_renew 59 = .ok (.iconst 2, 1) := by decide +kernel
theorem dX6_renew_60 : decode cX6_renew 60 = .ok (.iastore, 1) := by decide +kernel
theorem dX6_renew_61 : decode cX6_renew 61 = .ok (.goto 31, 3) := by decide +kernel
theorem dX6_renew_64 : decode cX6_renew 64 = .ok (.iload_n 2, 1) := by decide +kernel
theorem dX6_renew_65 : decode cX6_renew 65 = .ok (.iconst 2, 1) := by decide +kernel
theorem dX6_renew_66 : decode cX6_renew 66 = .ok (.if_icmp .ne 26, 3) := by decide +kernel
theorem dX6_renew_69 : decode cX6_renew 69 = .ok (.aload_n 0, 1) := by decide +kernel
theorem dX6_renew_70 : decode cX6_renew 70 = .ok (.getfield 28, 3) := by decide +kernel
theorem dX6_renew_73 : decode cX6_renew 73 = .ok (.iload_n 1, 1) := by decide +kernel
theorem dX6_renew_74 : decode cX6_renew 74 = .ok (.iload 4, 2) := by decide +kernel
theorem dX6_renew_76 : decode cX6_renew 76 = .ok (.ifCond .eq 14, 3) := by decide +kernel
theorem dX6_renew_79 : decode cX6_renew 79 = .ok (.aload_n 0, 1) := by decide +kernel
theorem dX6_renew_80 : decode cX6_renew 80 = .ok (.getfield 28, 3) := by decide +kernel
theorem dX6_renew_83 : decode cX6_renew 83 = .ok (.iload_n 1, 1) := by decide +kernel
theorem dX6_renew_84 : decode cX6_renew 84 = .ok (.iaload, 1) := by decide +kernel
theorem dX6_renew_85 : decode cX6_renew 85 = .ok (.iconst 2, 1) := by decide +kernel
theorem dX6_renew_86 : decode cX6_renew 86 = .ok (.idiv, 1) := by decide +kernel
theorem dX6_renew_87 : decode cX6_renew 87 = .ok (.goto 4, 3) := by decide +kernel
theorem dX6_renew_90 : decode cX6_renew 90 = .ok (.iconst 0, 1) := by decide +kernel
theorem dX6_renew_91 : decode cX6_renew 91 = .ok (.iastore, 1) := by decide +kernel
theorem dX6_renew_92 : decode cX6_renew 92 = .ok (.return_, 1) := by decide +kernel
theorem dX6_nextChoice_0 : decode cX6_nextChoice 0 = .ok (.iconst 0, 1) := by decide +kernel
theorem dX6_nextChoice_1 : decode cX6_nextChoice 1 = .ok (.istore_n 1, 1) := by decide +kernel
theorem dX6_nextChoice_2 : decode cX6_nextChoice 2 = .ok (.iload_n 1, 1) := by decide +kernel
theorem dX6_nextChoice_3 : decode cX6_nextChoice 3 = .ok (.bipush 16, 2) := by decide +kernel
theorem dX6_nextChoice_5 : decode cX6_nextChoice 5 = .ok (.if_icmp .ge 96, 3) := by decide +kernel
theorem dX6_nextChoice_8 : decode cX6_nextChoice 8 = .ok (.aload_n 0, 1) := by decide +kernel
theorem dX6_nextChoice_9 : decode cX6_nextChoice 9 = .ok (.getfield 9, 3) := by decide +kernel
theorem dX6_nextChoice_12 : decode cX6_nextChoice 12 = .ok (.iload_n 1, 1) := by decide +kernel
theorem dX6_nextChoice_13 : decode cX6_nextChoice 13 = .ok (.iaload, 1) := by decide +kernel
theorem dX6_nextChoice_14 : decode cX6_nextChoice 14 = .ok (.aload_n 0, 1) := by decide +kernel
theorem dX6_nextChoice_15 : decode cX6_nextChoice 15 = .ok (.getfield 31, 3) := by decide +kernel
theorem dX6_nextChoice_18 : decode cX6_nextChoice 18 = .ok (.getfield 102, 3) := by decide +kernel
theorem dX6_nextChoice_21 : decode cX6_nextChoice 21 = .ok (.iload_n 1, 1) := by decide +kernel
theorem dX6_nextChoice_22 : decode cX6_nextChoice 22 = .ok (.iaload, 1) := by decide +kernel
