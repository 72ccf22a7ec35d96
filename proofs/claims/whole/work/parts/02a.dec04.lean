theorem dX12_finds_58 : decode cX12_finds 58 = .ok (.istore 4, 2) := by decide +kernel
theorem dX12_finds_60 : decode cX12_finds 60 = .ok (.iload 4, 2) := by decide +kernel
theorem dX12_finds_62 : decode cX12_finds 62 = .ok (.ifCond .eq 8, 3) := by decide +kernel
theorem dX12_finds_65 : decode cX12_finds 65 = .ok (.aload_n 0, 1) := by decide +kernel
theorem dX12_finds_66 : decode cX12_finds 66 = .ok (.iload_n 2, 1) := by decide +kernel
theorem dX12_finds_67 : decode cX12_finds 67 = .ok (.invokevirtual 548, 3) := by decide +kernel
theorem dX12_finds_70 : decode cX12_finds 70 = .ok (.iload 4, 2) := by decide +kernel
theorem dX12_finds_72 : decode cX12_finds 72 = .ok (.ifCond .eq 13, 3) := by decide +kernel
theorem dX12_finds_75 : decode cX12_finds 75 = .ok (.aload_n 0, 1) := by decide +kernel
theorem dX12_finds_76 : decode cX12_finds 76 = .ok (.getfield 442, 3) := by decide +kernel
theorem dX12_finds_79 : decode cX12_finds 79 = .ok (.getfield 196, 3) := by decide +kernel
theorem dX12_finds_82 : decode cX12_finds 82 = .ok (.goto 4, 3) := by decide +kernel
theorem dX12_finds_85 : decode cX12_finds 85 = .ok (.iload_n 3, 1) := by decide +kernel
theorem dX12_finds_86 : decode cX12_finds 86 = .ok (.istore 5, 2) := by decide +kernel
theorem dX12_finds_88 : decode cX12_finds 88 = .ok (.iload 5, 2) := by decide +kernel
theorem dX12_finds_90 : decode cX12_finds 90 = .ok (.aload_n 0, 1) := by decide +kernel
theorem dX12_finds_91 : decode cX12_finds 91 = .ok (.getfield 442, 3) := by decide +kernel
theorem dX12_finds_94 : decode cX12_finds 94 = .ok (.getfield 196, 3) := by decide +kernel
theorem dX12_finds_97 : decode cX12_finds 97 = .ok (.if_icmp .ge 42, 3) := by decide +kernel
theorem dX12_finds_100 : decode cX12_finds 100 = .ok (.aload_n 0, 1) := by decide +kernel
theorem dX12_finds_101 : decode cX12_finds 101 = .ok (.getfield 42, 3) := by decide +kernel
theorem dX12_finds_104 : decode cX12_finds 104 = .ok (.bipush 8, 2) := by decide +kernel
theorem dX12_finds_106 : decode cX12_finds 106 = .ok (.aload_n 0, 1) := by decide +kernel
theorem dX12_finds_107 : decode cX12_finds 107 = .ok (.getfield 48, 3) := by decide +kernel
theorem dX12_finds_110 : decode cX12_finds 110 = .ok (.iload_n 2, 1) := by decide +kernel
theorem dX12_finds_111 : decode cX12_finds 111 = .ok (.iconst 1, 1) := by decide +kernel
theorem dX12_finds_112 : decode cX12_finds 112 = .ok (.isub, 1) := by decide +kernel
theorem dX12_finds_113 : decode cX12_finds 113 = .ok (.iaload, 1) := by decide +kernel
theorem dX12_finds_114 : decode cX12_finds 114 = .ok (.imul, 1) := by decide +kernel
theorem dX12_finds_115 : decode cX12_finds 115 = .ok (.iload 5, 2) := by decide +kernel
theorem dX12_finds_117 : decode cX12_finds 117 = .ok (.iadd, 1) := by decide +kernel
theorem dX12_finds_118 : decode cX12_finds 118 = .ok (.iaload, 1) := by decide +kernel
theorem dX12_finds_119 : decode cX12_finds 119 = .ok (.iconst (-1), 1) := by decide +kernel
theorem dX12_finds_120 : decode cX12_finds 120 = .ok (.if_icmp .eq 13, 3) := by decide +kernel
theorem dX12_finds_123 : decode cX12_finds 123 = .ok (.aload_n 0, 1) := by decide +kernel
theorem dX12_finds_124 : decode cX12_finds 124 = .ok (.iload 5, 2) := by decide +kernel
theorem dX12_finds_126 : decode cX12_finds 126 = .ok (.iload_n 2, 1) := by decide +kernel
theorem dX12_finds_127 : decode cX12_finds 127 = .ok (.invokevirtual 551, 3) := by decide +kernel
theorem dX12_finds_130 : decode cX12_finds 130 = .ok (.ifCond .eq 9, 3) := by decide +kernel
theorem dX12_finds_133 : decode cX12_finds 133 = .ok (.iinc 5 1, 3) := by decide +kernel
theorem dX12_finds_136 : decode cX12_finds 136 = .ok (.goto (-48), 3) := by decide +kernel
theorem dX12_finds_139 : decode cX12_finds 139 = .ok (.iload 5, 2) := by decide +kernel
theorem dX12_finds_141 : decode cX12_finds 141 = .ok (.aload_n 0, 1) := by decide +kernel
theorem dX12_finds_142 : decode cX12_finds 142 = .ok (.getfield 442, 3) := by decide +kernel
theorem dX12_finds_145 : decode cX12_finds 145 = .ok (.getfield 196, 3) := by decide +kernel
theorem dX12_finds_148 : decode cX12_finds 148 = .ok (.if_icmp .ge 19, 3) := by decide +kernel
theorem dX12_finds_151 : decode cX12_finds 151 = .ok (.aload_n 0, 1) := by decide +kernel
theorem dX12_finds_152 : decode cX12_finds 152 = .ok (.getfield 48, 3) := by decide +kernel
theorem dX12_finds_155 : decode cX12_finds 155 = .ok (.iload_n 2, 1) := by decide +kernel
theorem dX12_finds_156 : decode cX12_finds 156 = .ok (.iload 5, 2) := by decide +kernel
theorem dX12_finds_158 : decode cX12_finds 158 = .ok (.iastore, 1) := by decide +kernel
theorem dX12_finds_159 : decode cX12_finds 159 = .ok (.iinc 2 1, 3) := by decide +kernel
theorem dX12_finds_162 : decode cX12_finds 162 = .ok (.iconst 0, 1) := by decide +kernel
theorem dX12_finds_163 : decode cX12_finds 163 = .ok (.istore_n 3, 1) := by decide +kernel
theorem dX12_finds_164 : decode cX12_finds 164 = .ok (.goto 15, 3) := by decide +kernel
theorem dX12_finds_167 : decode cX12_finds 167 = .ok (.iinc 2 (-1), 3) := by decide +kernel
theorem dX12_finds_170 : decode cX12_finds 170 = .ok (.aload_n 0, 1) := by decide +kernel
theorem dX12_finds_171 : decode cX12_finds 171 = .ok (.getfield 48, 3) := by decide +kernel
theorem dX12_finds_174 : decode cX12_finds 174 = .ok (.iload_n 2, 1) := by decide +kernel
theorem dX12_finds_175 : decode cX12_finds 175 = .ok (.iaload, 1) := by decide +kernel
theorem dX12_finds_176 : decode cX12_finds 176 = .ok (.iconst 1, 1) := by decide +kernel
theorem dX12_finds_177 : decode cX12_finds 177 = .ok (.iadd, 1) := by decide +kernel
theorem dX12_finds_178 : decode cX12_finds 178 = .ok (.istore_n 3, 1) := by decide +kernel
theorem dX12_finds_179 : decode cX12_finds 179 = .ok (.goto (-150), 3) := by decide +kernel
theorem dX12_finds_182 : decode cX12_finds 182 = .ok (.aload_n 0, 1) := by decide +kernel
theorem dX12_finds_183 : decode cX12_finds 183 = .ok (.getfield 536, 3) := by decide +kernel
theorem dX12_finds_186 : decode cX12_finds 186 = .ok (.ifCond .le 7, 3) := by decide +kernel
theorem dX12_finds_189 : decode cX12_finds 189 = .ok (.iconst 1, 1) := by decide +kernel
theorem dX12_finds_190 : decode cX12_finds 190 = .ok (.goto 4, 3) := by decide +kernel
theorem dX12_finds_193 : decode cX12_finds 193 = .ok (.iconst 0, 1) := by decide +kernel
theorem dX12_finds_194 : decode cX12_finds 194 = .ok (.ireturn, 1) := by decide +kernel
theorem dX12_way_0 : decode cX12_way 0 = .ok (.aload_n 0, 1) := by decide +kernel
theorem dX12_way_1 : decode cX12_way 1 = .ok (.iconst 0, 1) := by decide +kernel
theorem dX12_way_2 : decode cX12_way 2 = .ok (.putfield 54, 3) := by decide +kernel
theorem dX12_way_5 : decode cX12_way 5 = .ok (.aload_n 0, 1) := by decide +kernel
theorem dX12_way_6 : decode cX12_way 6 = .ok (.iload_n 1, 1) := by decide +kernel
theorem dX12_way_7 : decode cX12_way 7 = .ok (.invokevirtual 505, 3) := by decide +kernel
theorem dX12_way_10 : decode cX12_way 10 = .ok (.ifCond .eq 11, 3) := by decide +kernel
theorem dX12_way_13 : decode cX12_way 13 = .ok (.aload_n 0, 1) := by decide +kernel
theorem dX12_way_14 : decode cX12_way 14 = .ok (.iload_n 2, 1) := by decide +kernel
theorem dX12_way_15 : decode cX12_way 15 = .ok (.invokevirtual 511, 3) := by decide +kernel
theorem dX12_way_18 : decode cX12_way 18 = .ok (.ifCond .ne 9, 3) := by decide +kernel
theorem dX12_way_21 : decode cX12_way 21 = .ok (.aload_n 0, 1) := by decide +kernel
theorem dX12_way_22 : decode cX12_way 22 = .ok (.iconst 1, 1) := by decide +kernel
theorem dX12_way_23 : decode cX12_way 23 = .ok (.invokevirtual 60, 3) := by decide +kernel
theorem dX12_way_26 : decode cX12_way 26 = .ok (.ireturn, 1) := by decide +kernel
theorem dX12_way_27 : decode cX12_way 27 = .ok (.aload_n 0, 1) := by decide +kernel
theorem dX12_way_28 : decode cX12_way 28 = .ok (.iload_n 1, 1) := by decide +kernel
theorem dX12_way_29 : decode cX12_way 29 = .ok (.iload_n 2, 1) := by decide +kernel
theorem dX12_way_30 : decode cX12_way 30 = .ok (.invokevirtual 523, 3) := by decide +kernel
theorem dX12_way_33 : decode cX12_way 33 = .ok (.aload_n 0, 1) := by decide +kernel
theorem dX12_way_34 : decode cX12_way 34 = .ok (.iload_n 1, 1) := by decide +kernel
theorem dX12_way_35 : decode cX12_way 35 = .ok (.invokevirtual 554, 3) := by decide +kernel
theorem dX12_way_38 : decode cX12_way 38 = .ok (.ifCond .ne 10, 3) := by decide +kernel
theorem dX12_way_41 : decode cX12_way 41 = .ok (.aload_n 0, 1) := by decide +kernel
theorem dX12_way_42 : decode cX12_way 42 = .ok (.bipush 6, 2) := by decide +kernel
theorem dX12_way_44 : decode cX12_way 44 = .ok (.invokevirtual 60, 3) := by decide +kernel
theorem dX12_way_47 : decode cX12_way 47 = .ok (.ireturn, 1) := by decide +kernel
theorem dX12_way_48 : decode cX12_way 48 = .ok (.aload_n 0, 1) := by decide +kernel
theorem dX12_way_49 : decode cX12_way 49 = .ok (.aload_n 0, 1) := by decide +kernel
theorem dX12_way_50 : decode cX12_way 50 = .ok (.getfield 536, 3) := by decide +kernel
theorem dX12_way_53 : decode cX12_way 53 = .ok (.putfield 445, 3) := by decide +kernel
theorem dX12_way_56 : decode cX12_way 56 = .ok (.aload_n 0, 1) := by decide +kernel
theorem dX12_way_57 : decode cX12_way 57 = .ok (.aload_n 0, 1) := by decide +kernel
theorem dX12_way_58 : decode cX12_way 58 = .ok (.getfield 542, 3) := by decide +kernel
theorem dX12_way_61 : decode cX12_way 61 = .ok (.putfield 33, 3) := by decide +kernel
theorem dX12_way_64 : decode cX12_way 64 = .ok (.aload_n 0, 1) := by decide +kernel
theorem dX12_way_65 : decode cX12_way 65 = .ok (.iconst 0, 1) := by decide +kernel
theorem dX12_way_66 : decode cX12_way 66 = .ok (.putfield 448, 3) := by decide +kernel
theorem dX12_way_69 : decode cX12_way 69 = .ok (.iconst 0, 1) := by decide +kernel
theorem dX12_way_70 : decode cX12_way 70 = .ok (.istore_n 3, 1) := by decide +kernel
theorem dX12_way_71 : decode cX12_way 71 = .ok (.iload_n 3, 1) := by decide +kernel
theorem dX12_way_72 : decode cX12_way 72 = .ok (.aload_n 0, 1) := by decide +kernel
theorem dX12_way_73 : decode cX12_way 73 = .ok (.getfield 445, 3) := by decide +kernel
theorem dX12_way_76 : decode cX12_way 76 = .ok (.if_icmp .ge 91, 3) := by decide +kernel
theorem dX12_way_79 : decode cX12_way 79 = .ok (.aload_n 0, 1) := by decide +kernel
theorem dX12_way_80 : decode cX12_way 80 = .ok (.getfield 36, 3) := by decide +kernel
theorem dX12_way_83 : decode cX12_way 83 = .ok (.iload_n 3, 1) := by decide +kernel
theorem dX12_way_84 : decode cX12_way 84 = .ok (.aload_n 0, 1) := by decide +kernel
theorem dX12_way_85 : decode cX12_way 85 = .ok (.getfield 51, 3) := by decide +kernel
theorem dX12_way_88 : decode cX12_way 88 = .ok (.iload_n 3, 1) := by decide +kernel
theorem dX12_way_89 : decode cX12_way 89 = .ok (.iaload, 1) := by decide +kernel
theorem dX12_way_90 : decode cX12_way 90 = .ok (.iastore, 1) := by decide +kernel
theorem dX12_way_91 : decode cX12_way 91 = .ok (.iload_n 3, 1) := by decide +kernel
theorem dX12_way_92 : decode cX12_way 92 = .ok (.ifCond .ne 6, 3) := by decide +kernel
theorem dX12_way_95 : decode cX12_way 95 = .ok (.goto 66, 3) := by decide +kernel
theorem dX12_way_98 : decode cX12_way 98 = .ok (.aload_n 0, 1) := by decide +kernel
theorem dX12_way_99 : decode cX12_way 99 = .ok (.getfield 442, 3) := by decide +kernel
theorem dX12_way_102 : decode cX12_way 102 = .ok (.getfield 288, 3) := by decide +kernel
theorem dX12_way_105 : decode cX12_way 105 = .ok (.aload_n 0, 1) := by decide +kernel
theorem dX12_way_106 : decode cX12_way 106 = .ok (.getfield 42, 3) := by decide +kernel
theorem dX12_way_109 : decode cX12_way 109 = .ok (.bipush 8, 2) := by decide +kernel
theorem dX12_way_111 : decode cX12_way 111 = .ok (.aload_n 0, 1) := by decide +kernel
theorem dX12_way_112 : decode cX12_way 112 = .ok (.getfield 36, 3) := by decide +kernel
theorem dX12_way_115 : decode cX12_way 115 = .ok (.iload_n 3, 1) := by decide +kernel
theorem dX12_way_116 : decode cX12_way 116 = .ok (.iconst 1, 1) := by decide +kernel
theorem dX12_way_117 : decode cX12_way 117 = .ok (.isub, 1) := by decide +kernel
theorem dX12_way_118 : decode cX12_way 118 = .ok (.iaload, 1) := by decide +kernel
theorem dX12_way_119 : decode cX12_way 119 = .ok (.imul, 1) := by decide +kernel
theorem dX12_way_120 : decode cX12_way 120 = .ok (.aload_n 0, 1) := by decide +kernel
theorem dX12_way_121 : decode cX12_way 121 = .ok (.getfield 36, 3) := by decide +kernel
theorem dX12_way_124 : decode cX12_way 124 = .ok (.iload_n 3, 1) := by decide +kernel
theorem dX12_way_125 : decode cX12_way 125 = .ok (.iaload, 1) := by decide +kernel
theorem dX12_way_126 : decode cX12_way 126 = .ok (.iadd, 1) := by decide +kernel
theorem dX12_way_127 : decode cX12_way 127 = .ok (.iaload, 1) := by decide +kernel
theorem dX12_way_128 : decode cX12_way 128 = .ok (.iaload, 1) := by decide +kernel
theorem dX12_way_129 : decode cX12_way 129 = .ok (.istore 4, 2) := by decide +kernel
theorem dX12_way_131 : decode cX12_way 131 = .ok (.iload 4, 2) := by decide +kernel
theorem dX12_way_133 : decode cX12_way 133 = .ok (.iconst (-1), 1) := by decide +kernel
theorem dX12_way_134 : decode cX12_way 134 = .ok (.if_icmp .ne 6, 3) := by decide +kernel
theorem dX12_way_137 : decode cX12_way 137 = .ok (.goto 24, 3) := by decide +kernel
theorem dX12_way_140 : decode cX12_way 140 = .ok (.aload_n 0, 1) := by decide +kernel
theorem dX12_way_141 : decode cX12_way 141 = .ok (.getfield 39, 3) := by decide +kernel
theorem dX12_way_144 : decode cX12_way 144 = .ok (.aload_n 0, 1) := by decide +kernel
theorem dX12_way_145 : decode cX12_way 145 = .ok (.getfield 448, 3) := by decide +kernel
theorem dX12_way_148 : decode cX12_way 148 = .ok (.iload 4, 2) := by decide +kernel
theorem dX12_way_150 : decode cX12_way 150 = .ok (.iastore, 1) := by decide +kernel
theorem dX12_way_151 : decode cX12_way 151 = .ok (.aload_n 0, 1) := by decide +kernel
theorem dX12_way_152 : decode cX12_way 152 = .ok (.dup, 1) := by decide +kernel
theorem dX12_way_153 : decode cX12_way 153 = .ok (.getfield 448, 3) := by decide +kernel
theorem dX12_way_156 : decode cX12_way 156 = .ok (.iconst 1, 1) := by decide +kernel
theorem dX12_way_157 : decode cX12_way 157 = .ok (.iadd, 1) := by decide +kernel
theorem dX12_way_158 : decode cX12_way 158 = .ok (.putfield 448, 3) := by decide +kernel
theorem dX12_way_161 : decode cX12_way 161 = .ok (.iinc 3 1, 3) := by decide +kernel
theorem dX12_way_164 : decode cX12_way 164 = .ok (.goto (-93), 3) := by decide +kernel
theorem dX12_way_167 : decode cX12_way 167 = .ok (.aload_n 0, 1) := by decide +kernel
theorem dX12_way_168 : decode cX12_way 168 = .ok (.aload_n 0, 1) := by decide +kernel
theorem dX12_way_169 : decode cX12_way 169 = .ok (.getfield 539, 3) := by decide +kernel
theorem dX12_way_172 : decode cX12_way 172 = .ok (.invokevirtual 65, 3) := by decide +kernel
theorem dX12_way_175 : decode cX12_way 175 = .ok (.ireturn, 1) := by decide +kernel
theorem dX12_stop_0 : decode cX12_stop 0 = .ok (.aload_n 0, 1) := by decide +kernel
theorem dX12_stop_1 : decode cX12_stop 1 = .ok (.iconst 0, 1) := by decide +kernel
theorem dX12_stop_2 : decode cX12_stop 2 = .ok (.putfield 54, 3) := by decide +kernel
theorem dX12_stop_5 : decode cX12_stop 5 = .ok (.iload_n 1, 1) := by decide +kernel
theorem dX12_stop_6 : decode cX12_stop 6 = .ok (.ifCond .lt 20, 3) := by decide +kernel
theorem dX12_stop_9 : decode cX12_stop 9 = .ok (.iload_n 1, 1) := by decide +kernel
theorem dX12_stop_10 : decode cX12_stop 10 = .ok (.aload_n 0, 1) := by decide +kernel
theorem dX12_stop_11 : decode cX12_stop 11 = .ok (.getfield 445, 3) := by decide +kernel
theorem dX12_stop_14 : decode cX12_stop 14 = .ok (.if_icmp .ge 12, 3) := by decide +kernel
theorem dX12_stop_17 : decode cX12_stop 17 = .ok (.aload_n 0, 1) := by decide +kernel
theorem dX12_stop_18 : decode cX12_stop 18 = .ok (.getfield 36, 3) := by decide +kernel
theorem dX12_stop_21 : decode cX12_stop 21 = .ok (.iload_n 1, 1) := by decide +kernel
theorem dX12_stop_22 : decode cX12_stop 22 = .ok (.iaload, 1) := by decide +kernel
theorem dX12_stop_23 : decode cX12_stop 23 = .ok (.goto 4, 3) := by decide +kernel
theorem dX12_stop_26 : decode cX12_stop 26 = .ok (.iconst (-1), 1) := by decide +kernel
theorem dX12_stop_27 : decode cX12_stop 27 = .ok (.ireturn, 1) := by decide +kernel
theorem dX12_length_0 : decode cX12_length 0 = .ok (.aload_n 0, 1) := by decide +kernel
theorem dX12_length_1 : decode cX12_length 1 = .ok (.iconst 0, 1) := by decide +kernel
theorem dX12_length_2 : decode cX12_length 2 = .ok (.putfield 54, 3) := by decide +kernel
theorem dX12_length_5 : decode cX12_length 5 = .ok (.aload_n 0, 1) := by decide +kernel
theorem dX12_length_6 : decode cX12_length 6 = .ok (.getfield 33, 3) := by decide +kernel
theorem dX12_length_9 : decode cX12_length 9 = .ok (.ireturn, 1) := by decide +kernel
theorem dX12_partner_0 : decode cX12_partner 0 = .ok (.aload_n 0, 1) := by decide +kernel
theorem dX12_partner_1 : decode cX12_partner 1 = .ok (.iconst 0, 1) := by decide +kernel
theorem dX12_partner_2 : decode cX12_partner 2 = .ok (.putfield 54, 3) := by decide +kernel
theorem dX12_partner_5 : decode cX12_partner 5 = .ok (.aload_n 0, 1) := by decide +kernel
theorem dX12_partner_6 : decode cX12_partner 6 = .ok (.iload_n 1, 1) := by decide +kernel
theorem dX12_partner_7 : decode cX12_partner 7 = .ok (.invokevirtual 505, 3) := by decide +kernel
theorem dX12_partner_10 : decode cX12_partner 10 = .ok (.ifCond .eq 11, 3) := by decide +kernel
theorem dX12_partner_13 : decode cX12_partner 13 = .ok (.aload_n 0, 1) := by decide +kernel
theorem dX12_partner_14 : decode cX12_partner 14 = .ok (.iload_n 2, 1) := by decide +kernel
theorem dX12_partner_15 : decode cX12_partner 15 = .ok (.invokevirtual 511, 3) := by decide +kernel
theorem dX12_partner_18 : decode cX12_partner 18 = .ok (.ifCond .ne 9, 3) := by decide +kernel
theorem dX12_partner_21 : decode cX12_partner 21 = .ok (.aload_n 0, 1) := by decide +kernel
theorem dX12_partner_22 : decode cX12_partner 22 = .ok (.iconst 1, 1) := by decide +kernel
theorem dX12_partner_23 : decode cX12_partner 23 = .ok (.invokevirtual 60, 3) := by decide +kernel
theorem dX12_partner_26 : decode cX12_partner 26 = .ok (.ireturn, 1) := by decide +kernel
theorem dX12_partner_27 : decode cX12_partner 27 = .ok (.aload_n 0, 1) := by decide +kernel
theorem dX12_partner_28 : decode cX12_partner 28 = .ok (.iload_n 1, 1) := by decide +kernel
theorem dX12_partner_29 : decode cX12_partner 29 = .ok (.iload_n 2, 1) := by decide +kernel
theorem dX12_partner_30 : decode cX12_partner 30 = .ok (.invokevirtual 523, 3) := by decide +kernel
theorem dX12_partner_33 : decode cX12_partner 33 = .ok (.aload_n 0, 1) := by decide +kernel
theorem dX12_partner_34 : decode cX12_partner 34 = .ok (.iload_n 1, 1) := by decide +kernel
theorem dX12_partner_35 : decode cX12_partner 35 = .ok (.invokevirtual 554, 3) := by decide +kernel
theorem dX12_partner_38 : decode cX12_partner 38 = .ok (.ifCond .ne 10, 3) := by decide +kernel
theorem dX12_partner_41 : decode cX12_partner 41 = .ok (.aload_n 0, 1) := by decide +kernel
theorem dX12_partner_42 : decode cX12_partner 42 = .ok (.bipush 6, 2) := by decide +kernel
theorem dX12_partner_44 : decode cX12_partner 44 = .ok (.invokevirtual 60, 3) := by decide +kernel
theorem dX12_partner_47 : decode cX12_partner 47 = .ok (.ireturn, 1) := by decide +kernel
theorem dX12_partner_48 : decode cX12_partner 48 = .ok (.aload_n 0, 1) := by decide +kernel
theorem dX12_partner_49 : decode cX12_partner 49 = .ok (.getfield 442, 3) := by decide +kernel
theorem dX12_partner_52 : decode cX12_partner 52 = .ok (.getfield 414, 3) := by decide +kernel
theorem dX12_partner_55 : decode cX12_partner 55 = .ok (.iload_n 1, 1) := by decide +kernel
theorem dX12_partner_56 : decode cX12_partner 56 = .ok (.iaload, 1) := by decide +kernel
theorem dX12_partner_57 : decode cX12_partner 57 = .ok (.istore_n 3, 1) := by decide +kernel
theorem dX12_partner_58 : decode cX12_partner 58 = .ok (.aload_n 0, 1) := by decide +kernel
theorem dX12_partner_59 : decode cX12_partner 59 = .ok (.getfield 539, 3) := by decide +kernel
theorem dX12_partner_62 : decode cX12_partner 62 = .ok (.istore 4, 2) := by decide +kernel
theorem dX12_partner_64 : decode cX12_partner 64 = .ok (.iconst 0, 1) := by decide +kernel
theorem dX12_partner_65 : decode cX12_partner 65 = .ok (.istore 5, 2) := by decide +kernel
theorem dX12_partner_67 : decode cX12_partner 67 = .ok (.iload 5, 2) := by decide +kernel
theorem dX12_partner_69 : decode cX12_partner 69 = .ok (.aload_n 0, 1) := by decide +kernel
theorem dX12_partner_70 : decode cX12_partner 70 = .ok (.getfield 442, 3) := by decide +kernel
theorem dX12_partner_73 : decode cX12_partner 73 = .ok (.getfield 247, 3) := by decide +kernel
theorem dX12_partner_76 : decode cX12_partner 76 = .ok (.if_icmp .ge 42, 3) := by decide +kernel
theorem dX12_partner_79 : decode cX12_partner 79 = .ok (.aload_n 0, 1) := by decide +kernel
theorem dX12_partner_80 : decode cX12_partner 80 = .ok (.iload 5, 2) := by decide +kernel
theorem dX12_partner_82 : decode cX12_partner 82 = .ok (.invokevirtual 517, 3) := by decide +kernel
theorem dX12_partner_85 : decode cX12_partner 85 = .ok (.aload_n 0, 1) := by decide +kernel
theorem dX12_partner_86 : decode cX12_partner 86 = .ok (.iload_n 1, 1) := by decide +kernel
theorem dX12_partner_87 : decode cX12_partner 87 = .ok (.invokevirtual 554, 3) := by decide +kernel
theorem dX12_partner_90 : decode cX12_partner 90 = .ok (.pop, 1) := by decide +kernel
theorem dX12_partner_91 : decode cX12_partner 91 = .ok (.aload_n 0, 1) := by decide +kernel
theorem dX12_partner_92 : decode cX12_partner 92 = .ok (.getfield 539, 3) := by decide +kernel
theorem dX12_partner_95 : decode cX12_partner 95 = .ok (.iload 4, 2) := by decide +kernel
theorem dX12_partner_97 : decode cX12_partner 97 = .ok (.if_icmp .lt 6, 3) := by decide +kernel
theorem dX12_partner_100 : decode cX12_partner 100 = .ok (.goto 12, 3) := by decide +kernel
theorem dX12_partner_103 : decode cX12_partner 103 = .ok (.aload_n 0, 1) := by decide +kernel
theorem dX12_partner_104 : decode cX12_partner 104 = .ok (.getfield 539, 3) := by decide +kernel
theorem dX12_partner_107 : decode cX12_partner 107 = .ok (.istore 4, 2) := by decide +kernel
theorem dX12_partner_109 : decode cX12_partner 109 = .ok (.iload 5, 2) := by decide +kernel
theorem dX12_partner_111 : decode cX12_partner 111 = .ok (.istore_n 3, 1) := by decide +kernel
theorem dX12_partner_112 : decode cX12_partner 112 = .ok (.iinc 5 1, 3) := by decide +kernel
theorem dX12_partner_115 : decode cX12_partner 115 = .ok (.goto (-48), 3) := by decide +kernel
theorem dX12_partner_118 : decode cX12_partner 118 = .ok (.aload_n 0, 1) := by decide +kernel
theorem dX12_partner_119 : decode cX12_partner 119 = .ok (.iload_n 3, 1) := by decide +kernel
theorem dX12_partner_120 : decode cX12_partner 120 = .ok (.invokevirtual 65, 3) := by decide +kernel
theorem dX12_partner_123 : decode cX12_partner 123 = .ok (.ireturn, 1) := by decide +kernel
theorem dX12_saves_0 : decode cX12_saves 0 = .ok (.aload_n 0, 1) := by decide +kernel
theorem dX12_saves_1 : decode cX12_saves 1 = .ok (.iconst 0, 1) := by decide +kernel
theorem dX12_saves_2 : decode cX12_saves 2 = .ok (.putfield 54, 3) := by decide +kernel
theorem dX12_saves_5 : decode cX12_saves 5 = .ok (.aload_n 0, 1) := by decide +kernel
theorem dX12_saves_6 : decode cX12_saves 6 = .ok (.iload_n 1, 1) := by decide +kernel
theorem dX12_saves_7 : decode cX12_saves 7 = .ok (.invokevirtual 505, 3) := by decide +kernel
theorem dX12_saves_10 : decode cX12_saves 10 = .ok (.ifCond .eq 19, 3) := by decide +kernel
theorem dX12_saves_13 : decode cX12_saves 13 = .ok (.aload_n 0, 1) := by decide +kernel
theorem dX12_saves_14 : decode cX12_saves 14 = .ok (.iload_n 2, 1) := by decide +kernel
theorem dX12_saves_15 : decode cX12_saves 15 = .ok (.invokevirtual 533, 3) := by decide +kernel
theorem dX12_saves_18 : decode cX12_saves 18 = .ok (.ifCond .eq 11, 3) := by decide +kernel
theorem dX12_saves_21 : decode cX12_saves 21 = .ok (.aload_n 0, 1) := by decide +kernel
theorem dX12_saves_22 : decode cX12_saves 22 = .ok (.iload_n 3, 1) := by decide +kernel
theorem dX12_saves_23 : decode cX12_saves 23 = .ok (.invokevirtual 511, 3) := by decide +kernel
theorem dX12_saves_26 : decode cX12_saves 26 = .ok (.ifCond .ne 9, 3) := by decide +kernel
theorem dX12_saves_29 : decode cX12_saves 29 = .ok (.aload_n 0, 1) := by decide +kernel
theorem dX12_saves_30 : decode cX12_saves 30 = .ok (.iconst 1, 1) := by decide +kernel
theorem dX12_saves_31 : decode cX12_saves 31 = .ok (.invokevirtual 557, 3) := by decide +kernel
theorem dX12_saves_34 : decode cX12_saves 34 = .ok (.ireturn, 1) := by decide +kernel
theorem dX12_saves_35 : decode cX12_saves 35 = .ok (.aload_n 0, 1) := by decide +kernel
theorem dX12_saves_36 : decode cX12_saves 36 = .ok (.iload_n 1, 1) := by decide +kernel
theorem dX12_saves_37 : decode cX12_saves 37 = .ok (.iload_n 3, 1) := by decide +kernel
theorem dX12_saves_38 : decode cX12_saves 38 = .ok (.invokevirtual 523, 3) := by decide +kernel
theorem dX12_saves_41 : decode cX12_saves 41 = .ok (.aload_n 0, 1) := by decide +kernel
theorem dX12_saves_42 : decode cX12_saves 42 = .ok (.iload_n 1, 1) := by decide +kernel
theorem dX12_saves_43 : decode cX12_saves 43 = .ok (.invokevirtual 554, 3) := by decide +kernel
theorem dX12_saves_46 : decode cX12_saves 46 = .ok (.ifCond .ne 10, 3) := by decide +kernel
theorem dX12_saves_49 : decode cX12_saves 49 = .ok (.aload_n 0, 1) := by decide +kernel
theorem dX12_saves_50 : decode cX12_saves 50 = .ok (.bipush 6, 2) := by decide +kernel
theorem dX12_saves_52 : decode cX12_saves 52 = .ok (.invokevirtual 557, 3) := by decide +kernel
theorem dX12_saves_55 : decode cX12_saves 55 = .ok (.ireturn, 1) := by decide +kernel
theorem dX12_saves_56 : decode cX12_saves 56 = .ok (.aload_n 0, 1) := by decide +kernel
theorem dX12_saves_57 : decode cX12_saves 57 = .ok (.getfield 539, 3) := by decide +kernel
theorem dX12_saves_60 : decode cX12_saves 60 = .ok (.istore 4, 2) := by decide +kernel
theorem dX12_saves_62 : decode cX12_saves 62 = .ok (.aload_n 0, 1) := by decide +kernel
theorem dX12_saves_63 : decode cX12_saves 63 = .ok (.iload_n 2, 1) := by decide +kernel
theorem dX12_saves_64 : decode cX12_saves 64 = .ok (.putfield 457, 3) := by decide +kernel
theorem dX12_saves_67 : decode cX12_saves 67 = .ok (.aload_n 0, 1) := by decide +kernel
theorem dX12_saves_68 : decode cX12_saves 68 = .ok (.iconst 0, 1) := by decide +kernel
theorem dX12_saves_69 : decode cX12_saves 69 = .ok (.putfield 460, 3) := by decide +kernel
theorem dX12_saves_72 : decode cX12_saves 72 = .ok (.aload_n 0, 1) := by decide +kernel
theorem dX12_saves_73 : decode cX12_saves 73 = .ok (.iload_n 1, 1) := by decide +kernel
theorem dX12_saves_74 : decode cX12_saves 74 = .ok (.invokevirtual 554, 3) := by decide +kernel
theorem dX12_saves_77 : decode cX12_saves 77 = .ok (.pop, 1) := by decide +kernel
theorem dX12_saves_78 : decode cX12_saves 78 = .ok (.aload_n 0, 1) := by decide +kernel
theorem dX12_saves_79 : decode cX12_saves 79 = .ok (.iload 4, 2) := by decide +kernel
theorem dX12_saves_81 : decode cX12_saves 81 = .ok (.aload_n 0, 1) := by decide +kernel
theorem dX12_saves_82 : decode cX12_saves 82 = .ok (.getfield 539, 3) := by decide +kernel
theorem dX12_saves_85 : decode cX12_saves 85 = .ok (.isub, 1) := by decide +kernel
theorem dX12_saves_86 : decode cX12_saves 86 = .ok (.invokevirtual 65, 3) := by decide +kernel
theorem dX12_saves_89 : decode cX12_saves 89 = .ok (.ireturn, 1) := by decide +kernel
theorem dX12_coins_0 : decode cX12_coins 0 = .ok (.iconst 0, 1) := by decide +kernel
theorem dX12_coins_1 : decode cX12_coins 1 = .ok (.istore_n 1, 1) := by decide +kernel
theorem dX12_coins_2 : decode cX12_coins 2 = .ok (.iconst 0, 1) := by decide +kernel
theorem dX12_coins_3 : decode cX12_coins 3 = .ok (.istore_n 2, 1) := by decide +kernel
theorem dX12_coins_4 : decode cX12_coins 4 = .ok (.iload_n 2, 1) := by decide +kernel
theorem dX12_coins_5 : decode cX12_coins 5 = .ok (.aload_n 0, 1) := by decide +kernel
theorem dX12_coins_6 : decode cX12_coins 6 = .ok (.getfield 442, 3) := by decide +kernel
theorem dX12_coins_9 : decode cX12_coins 9 = .ok (.getfield 405, 3) := by decide +kernel
theorem dX12_coins_12 : decode cX12_coins 12 = .ok (.if_icmp .ge 37, 3) := by decide +kernel
theorem dX12_coins_15 : decode cX12_coins 15 = .ok (.aload_n 0, 1) := by decide +kernel
theorem dX12_coins_16 : decode cX12_coins 16 = .ok (.aload_n 0, 1) := by decide +kernel
theorem dX12_coins_17 : decode cX12_coins 17 = .ok (.getfield 442, 3) := by decide +kernel
theorem dX12_coins_20 : decode cX12_coins 20 = .ok (.getfield 414, 3) := by decide +kernel
theorem dX12_coins_23 : decode cX12_coins 23 = .ok (.iload_n 2, 1) := by decide +kernel
theorem dX12_coins_24 : decode cX12_coins 24 = .ok (.iaload, 1) := by decide +kernel
theorem dX12_coins_25 : decode cX12_coins 25 = .ok (.invokevirtual 517, 3) := by decide +kernel
theorem dX12_coins_28 : decode cX12_coins 28 = .ok (.aload_n 0, 1) := by decide +kernel
theorem dX12_coins_29 : decode cX12_coins 29 = .ok (.iload_n 2, 1) := by decide +kernel
theorem dX12_coins_30 : decode cX12_coins 30 = .ok (.invokevirtual 554, 3) := by decide +kernel
theorem dX12_coins_33 : decode cX12_coins 33 = .ok (.ifCond .eq 10, 3) := by decide +kernel
theorem dX12_coins_36 : decode cX12_coins 36 = .ok (.iload_n 1, 1) := by decide +kernel
theorem dX12_coins_37 : decode cX12_coins 37 = .ok (.aload_n 0, 1) := by decide +kernel
theorem dX12_coins_38 : decode cX12_coins 38 = .ok (.getfield 539, 3) := by decide +kernel
theorem dX12_coins_41 : decode cX12_coins 41 = .ok (.iadd, 1) := by decide +kernel
theorem dX12_coins_42 : decode cX12_coins 42 = .ok (.istore_n 1, 1) := by decide +kernel
theorem dX12_coins_43 : decode cX12_coins 43 = .ok (.iinc 2 1, 3) := by decide +kernel
theorem dX12_coins_46 : decode cX12_coins 46 = .ok (.goto (-42), 3) := by decide +kernel
theorem dX12_coins_49 : decode cX12_coins 49 = .ok (.iload_n 1, 1) := by decide +kernel
theorem dX12_coins_50 : decode cX12_coins 50 = .ok (.ireturn, 1) := by decide +kernel
theorem dX12_coin_0 : decode cX12_coin 0 = .ok (.aload_n 0, 1) := by decide +kernel
theorem dX12_coin_1 : decode cX12_coin 1 = .ok (.iconst 0, 1) := by decide +kernel
theorem dX12_coin_2 : decode cX12_coin 2 = .ok (.putfield 54, 3) := by decide +kernel
theorem dX12_coin_5 : decode cX12_coin 5 = .ok (.aload_n 0, 1) := by decide +kernel
theorem dX12_coin_6 : decode cX12_coin 6 = .ok (.iload_n 1, 1) := by decide +kernel
theorem dX12_coin_7 : decode cX12_coin 7 = .ok (.invokevirtual 511, 3) := by decide +kernel
theorem dX12_coin_10 : decode cX12_coin 10 = .ok (.ifCond .ne 9, 3) := by decide +kernel
theorem dX12_coin_13 : decode cX12_coin 13 = .ok (.aload_n 0, 1) := by decide +kernel
theorem dX12_coin_14 : decode cX12_coin 14 = .ok (.iconst 1, 1) := by decide +kernel
theorem dX12_coin_15 : decode cX12_coin 15 = .ok (.invokevirtual 60, 3) := by decide +kernel
theorem dX12_coin_18 : decode cX12_coin 18 = .ok (.ireturn, 1) := by decide +kernel
theorem dX12_coin_19 : decode cX12_coin 19 = .ok (.aload_n 0, 1) := by decide +kernel
theorem dX12_coin_20 : decode cX12_coin 20 = .ok (.iload_n 1, 1) := by decide +kernel
theorem dX12_coin_21 : decode cX12_coin 21 = .ok (.invokevirtual 514, 3) := by decide +kernel
theorem dX12_coin_24 : decode cX12_coin 24 = .ok (.aload_n 0, 1) := by decide +kernel
theorem dX12_coin_25 : decode cX12_coin 25 = .ok (.aload_n 0, 1) := by decide +kernel
theorem dX12_coin_26 : decode cX12_coin 26 = .ok (.invokevirtual 559, 3) := by decide +kernel
theorem dX12_coin_29 : decode cX12_coin 29 = .ok (.invokevirtual 65, 3) := by decide +kernel
theorem dX12_coin_32 : decode cX12_coin 32 = .ok (.ireturn, 1) := by decide +kernel
theorem dX12_worth_0 : decode cX12_worth 0 = .ok (.aload_n 0, 1) := by decide +kernel
theorem dX12_worth_1 : decode cX12_worth 1 = .ok (.iconst 0, 1) := by decide +kernel
theorem dX12_worth_2 : decode cX12_worth 2 = .ok (.putfield 54, 3) := by decide +kernel
theorem dX12_worth_5 : decode cX12_worth 5 = .ok (.aload_n 0, 1) := by decide +kernel
theorem dX12_worth_6 : decode cX12_worth 6 = .ok (.iload_n 1, 1) := by decide +kernel
theorem dX12_worth_7 : decode cX12_worth 7 = .ok (.invokevirtual 532, 3) := by decide +kernel
theorem dX12_worth_10 : decode cX12_worth 10 = .ok (.ifCond .eq 11, 3) := by decide +kernel
theorem dX12_worth_13 : decode cX12_worth 13 = .ok (.aload_n 0, 1) := by decide +kernel
theorem dX12_worth_14 : decode cX12_worth 14 = .ok (.iload_n 2, 1) := by decide +kernel
theorem dX12_worth_15 : decode cX12_worth 15 = .ok (.invokevirtual 511, 3) := by decide +kernel
theorem dX12_worth_18 : decode cX12_worth 18 = .ok (.ifCond .ne 9, 3) := by decide +kernel
theorem dX12_worth_21 : decode cX12_worth 21 = .ok (.aload_n 0, 1) := by decide +kernel
theorem dX12_worth_22 : decode cX12_worth 22 = .ok (.iconst 1, 1) := by decide +kernel
theorem dX12_worth_23 : decode cX12_worth 23 = .ok (.invokevirtual 557, 3) := by decide +kernel
theorem dX12_worth_26 : decode cX12_worth 26 = .ok (.ireturn, 1) := by decide +kernel
theorem dX12_worth_27 : decode cX12_worth 27 = .ok (.aload_n 0, 1) := by decide +kernel
theorem dX12_worth_28 : decode cX12_worth 28 = .ok (.iload_n 2, 1) := by decide +kernel
theorem dX12_worth_29 : decode cX12_worth 29 = .ok (.invokevirtual 514, 3) := by decide +kernel
theorem dX12_worth_32 : decode cX12_worth 32 = .ok (.aload_n 0, 1) := by decide +kernel
theorem dX12_worth_33 : decode cX12_worth 33 = .ok (.invokevirtual 559, 3) := by decide +kernel
theorem dX12_worth_36 : decode cX12_worth 36 = .ok (.istore_n 3, 1) := by decide +kernel
theorem dX12_worth_37 : decode cX12_worth 37 = .ok (.aload_n 0, 1) := by decide +kernel
theorem dX12_worth_38 : decode cX12_worth 38 = .ok (.getfield 21, 3) := by decide +kernel
theorem dX12_worth_41 : decode cX12_worth 41 = .ok (.iload_n 1, 1) := by decide +kernel
theorem dX12_worth_42 : decode cX12_worth 42 = .ok (.iconst 1, 1) := by decide +kernel
theorem dX12_worth_43 : decode cX12_worth 43 = .ok (.iastore, 1) := by decide +kernel
theorem dX12_worth_44 : decode cX12_worth 44 = .ok (.aload_n 0, 1) := by decide +kernel
theorem dX12_worth_45 : decode cX12_worth 45 = .ok (.aload_n 0, 1) := by decide +kernel
theorem dX12_worth_46 : decode cX12_worth 46 = .ok (.invokevirtual 559, 3) := by decide +kernel
theorem dX12_worth_49 : decode cX12_worth 49 = .ok (.iload_n 3, 1) := by decide +kernel
theorem dX12_worth_50 : decode cX12_worth 50 = .ok (.isub, 1) := by decide +kernel
theorem dX12_worth_51 : decode cX12_worth 51 = .ok (.invokevirtual 65, 3) := by decide +kernel
theorem dX12_worth_54 : decode cX12_worth 54 = .ok (.ireturn, 1) := by decide +kernel
theorem dX12_swing_0 : decode cX12_swing 0 = .ok (.aload_n 0, 1) := by decide +kernel
theorem dX12_swing_1 : decode cX12_swing 1 = .ok (.iload_n 2, 1) := by decide +kernel
theorem dX12_swing_2 : decode cX12_swing 2 = .ok (.invokevirtual 514, 3) := by decide +kernel
theorem dX12_swing_5 : decode cX12_swing 5 = .ok (.iconst 0, 1) := by decide +kernel
theorem dX12_swing_6 : decode cX12_swing 6 = .ok (.istore_n 3, 1) := by decide +kernel
theorem dX12_swing_7 : decode cX12_swing 7 = .ok (.iconst 0, 1) := by decide +kernel
theorem dX12_swing_8 : decode cX12_swing 8 = .ok (.istore 4, 2) := by decide +kernel
theorem dX12_swing_10 : decode cX12_swing 10 = .ok (.aload_n 0, 1) := by decide +kernel
theorem dX12_swing_11 : decode cX12_swing 11 = .ok (.getfield 442, 3) := by decide +kernel
theorem dX12_swing_14 : decode cX12_swing 14 = .ok (.getfield 307, 3) := by decide +kernel
theorem dX12_swing_17 : decode cX12_swing 17 = .ok (.iload_n 1, 1) := by decide +kernel
theorem dX12_swing_18 : decode cX12_swing 18 = .ok (.iaload, 1) := by decide +kernel
theorem dX12_swing_19 : decode cX12_swing 19 = .ok (.istore 5, 2) := by decide +kernel
theorem dX12_swing_21 : decode cX12_swing 21 = .ok (.iload 5, 2) := by decide +kernel
theorem dX12_swing_23 : decode cX12_swing 23 = .ok (.aload_n 0, 1) := by decide +kernel
theorem dX12_swing_24 : decode cX12_swing 24 = .ok (.getfield 442, 3) := by decide +kernel
theorem dX12_swing_27 : decode cX12_swing 27 = .ok (.getfield 310, 3) := by decide +kernel
theorem dX12_swing_30 : decode cX12_swing 30 = .ok (.iload_n 1, 1) := by decide +kernel
theorem dX12_swing_31 : decode cX12_swing 31 = .ok (.iaload, 1) := by decide +kernel
theorem dX12_swing_32 : decode cX12_swing 32 = .ok (.if_icmp .gt 83, 3) := by decide +kernel
theorem dX12_swing_35 : decode cX12_swing 35 = .ok (.aload_n 0, 1) := by decide +kernel
theorem dX12_swing_36 : decode cX12_swing 36 = .ok (.getfield 17, 3) := by decide +kernel
theorem dX12_swing_39 : decode cX12_swing 39 = .ok (.iload_n 1, 1) := by decide +kernel
theorem dX12_swing_40 : decode cX12_swing 40 = .ok (.iload 5, 2) := by decide +kernel
theorem dX12_swing_42 : decode cX12_swing 42 = .ok (.iastore, 1) := by decide +kernel
theorem dX12_swing_43 : decode cX12_swing 43 = .ok (.aload_n 0, 1) := by decide +kernel
theorem dX12_swing_44 : decode cX12_swing 44 = .ok (.invokevirtual 559, 3) := by decide +kernel
theorem dX12_swing_47 : decode cX12_swing 47 = .ok (.istore 6, 2) := by decide +kernel
theorem dX12_swing_49 : decode cX12_swing 49 = .ok (.iload 5, 2) := by decide +kernel
theorem dX12_swing_51 : decode cX12_swing 51 = .ok (.aload_n 0, 1) := by decide +kernel
theorem dX12_swing_52 : decode cX12_swing 52 = .ok (.getfield 442, 3) := by decide +kernel
theorem dX12_swing_55 : decode cX12_swing 55 = .ok (.getfield 307, 3) := by decide +kernel
theorem dX12_swing_58 : decode cX12_swing 58 = .ok (.iload_n 1, 1) := by decide +kernel
theorem dX12_swing_59 : decode cX12_swing 59 = .ok (.iaload, 1) := by decide +kernel
theorem dX12_swing_60 : decode cX12_swing 60 = .ok (.if_icmp .ne 7, 3) := by decide +kernel
theorem dX12_swing_63 : decode cX12_swing 63 = .ok (.iconst 1, 1) := by decide +kernel
theorem dX12_swing_64 : decode cX12_swing 64 = .ok (.goto 4, 3) := by decide +kernel
theorem dX12_swing_67 : decode cX12_swing 67 = .ok (.iconst 0, 1) := by decide +kernel
theorem dX12_swing_68 : decode cX12_swing 68 = .ok (.istore 7, 2) := by decide +kernel
theorem dX12_swing_70 : decode cX12_swing 70 = .ok (.iload 7, 2) := by decide +kernel
theorem dX12_swing_72 : decode cX12_swing 72 = .ok (.ifCond .ne 9, 3) := by decide +kernel
theorem dX12_swing_75 : decode cX12_swing 75 = .ok (.iload 6, 2) := by decide +kernel
theorem dX12_swing_77 : decode cX12_swing 77 = .ok (.iload_n 3, 1) := by decide +kernel
theorem dX12_swing_78 : decode cX12_swing 78 = .ok (.if_icmp .ge 8, 3) := by decide +kernel
theorem dX12_swing_81 : decode cX12_swing 81 = .ok (.iload 6, 2) := by decide +kernel
theorem dX12_swing_83 : decode cX12_swing 83 = .ok (.goto 4, 3) := by decide +kernel
theorem dX12_swing_86 : decode cX12_swing 86 = .ok (.iload_n 3, 1) := by decide +kernel
theorem dX12_swing_87 : decode cX12_swing 87 = .ok (.istore_n 3, 1) := by decide +kernel
theorem dX12_swing_88 : decode cX12_swing 88 = .ok (.iload 7, 2) := by decide +kernel
theorem dX12_swing_90 : decode cX12_swing 90 = .ok (.ifCond .ne 10, 3) := by decide +kernel
theorem dX12_swing_93 : decode cX12_swing 93 = .ok (.iload 6, 2) := by decide +kernel
theorem dX12_swing_95 : decode cX12_swing 95 = .ok (.iload 4, 2) := by decide +kernel
theorem dX12_swing_97 : decode cX12_swing 97 = .ok (.if_icmp .le 8, 3) := by decide +kernel
theorem dX12_swing_100 : decode cX12_swing 100 = .ok (.iload 6, 2) := by decide +kernel
theorem dX12_swing_102 : decode cX12_swing 102 = .ok (.goto 5, 3) := by decide +kernel
theorem dX12_swing_105 : decode cX12_swing 105 = .ok (.iload 4, 2) := by decide +kernel
theorem dX12_swing_107 : decode cX12_swing 107 = .ok (.istore 4, 2) := by decide +kernel
theorem dX12_swing_109 : decode cX12_swing 109 = .ok (.iinc 5 1, 3) := by decide +kernel
theorem dX12_swing_112 : decode cX12_swing 112 = .ok (.goto (-91), 3) := by decide +kernel
theorem dX12_swing_115 : decode cX12_swing 115 = .ok (.iload 4, 2) := by decide +kernel
theorem dX12_swing_117 : decode cX12_swing 117 = .ok (.iload_n 3, 1) := by decide +kernel
theorem dX12_swing_118 : decode cX12_swing 118 = .ok (.isub, 1) := by decide +kernel
theorem dX12_swing_119 : decode cX12_swing 119 = .ok (.ireturn, 1) := by decide +kernel
theorem dX12_hangs_0 : decode cX12_hangs 0 = .ok (.aload_n 0, 1) := by decide +kernel
theorem dX12_hangs_1 : decode cX12_hangs 1 = .ok (.iconst 0, 1) := by decide +kernel
theorem dX12_hangs_2 : decode cX12_hangs 2 = .ok (.putfield 54, 3) := by decide +kernel
theorem dX12_hangs_5 : decode cX12_hangs 5 = .ok (.aload_n 0, 1) := by decide +kernel
theorem dX12_hangs_6 : decode cX12_hangs 6 = .ok (.iload_n 1, 1) := by decide +kernel
theorem dX12_hangs_7 : decode cX12_hangs 7 = .ok (.invokevirtual 511, 3) := by decide +kernel
theorem dX12_hangs_10 : decode cX12_hangs 10 = .ok (.ifCond .ne 9, 3) := by decide +kernel
theorem dX12_hangs_13 : decode cX12_hangs 13 = .ok (.aload_n 0, 1) := by decide +kernel
theorem dX12_hangs_14 : decode cX12_hangs 14 = .ok (.iconst 1, 1) := by decide +kernel
theorem dX12_hangs_15 : decode cX12_hangs 15 = .ok (.invokevirtual 60, 3) := by decide +kernel
theorem dX12_hangs_18 : decode cX12_hangs 18 = .ok (.ireturn, 1) := by decide +kernel
theorem dX12_hangs_19 : decode cX12_hangs 19 = .ok (.iconst (-1), 1) := by decide +kernel
theorem dX12_hangs_20 : decode cX12_hangs 20 = .ok (.istore_n 2, 1) := by decide +kernel
theorem dX12_hangs_21 : decode cX12_hangs 21 = .ok (.iconst 0, 1) := by decide +kernel
theorem dX12_hangs_22 : decode cX12_hangs 22 = .ok (.istore_n 3, 1) := by decide +kernel
theorem dX12_hangs_23 : decode cX12_hangs 23 = .ok (.iconst 0, 1) := by decide +kernel
theorem dX12_hangs_24 : decode cX12_hangs 24 = .ok (.istore 4, 2) := by decide +kernel
theorem dX12_hangs_26 : decode cX12_hangs 26 = .ok (.iload 4, 2) := by decide +kernel
theorem dX12_hangs_28 : decode cX12_hangs 28 = .ok (.bipush 16, 2) := by decide +kernel
theorem dX12_hangs_30 : decode cX12_hangs 30 = .ok (.if_icmp .ge 76, 3) := by decide +kernel
theorem dX12_hangs_33 : decode cX12_hangs 33 = .ok (.aload_n 0, 1) := by decide +kernel
theorem dX12_hangs_34 : decode cX12_hangs 34 = .ok (.getfield 442, 3) := by decide +kernel
theorem dX12_hangs_37 : decode cX12_hangs 37 = .ok (.iload 4, 2) := by decide +kernel
theorem dX12_hangs_39 : decode cX12_hangs 39 = .ok (.invokevirtual 502, 3) := by decide +kernel
theorem dX12_hangs_42 : decode cX12_hangs 42 = .ok (.ifCond .eq 58, 3) := by decide +kernel
theorem dX12_hangs_45 : decode cX12_hangs 45 = .ok (.aload_n 0, 1) := by decide +kernel
theorem dX12_hangs_46 : decode cX12_hangs 46 = .ok (.getfield 442, 3) := by decide +kernel
theorem dX12_hangs_49 : decode cX12_hangs 49 = .ok (.getfield 310, 3) := by decide +kernel
theorem dX12_hangs_52 : decode cX12_hangs 52 = .ok (.iload 4, 2) := by decide +kernel
theorem dX12_hangs_54 : decode cX12_hangs 54 = .ok (.iaload, 1) := by decide +kernel
theorem dX12_hangs_55 : decode cX12_hangs 55 = .ok (.aload_n 0, 1) := by decide +kernel
theorem dX12_hangs_56 : decode cX12_hangs 56 = .ok (.getfield 442, 3) := by decide +kernel
theorem dX12_hangs_59 : decode cX12_hangs 59 = .ok (.getfield 307, 3) := by decide +kernel
theorem dX12_hangs_62 : decode cX12_hangs 62 = .ok (.iload 4, 2) := by decide +kernel
theorem dX12_hangs_64 : decode cX12_hangs 64 = .ok (.iaload, 1) := by decide +kernel
theorem dX12_hangs_65 : decode cX12_hangs 65 = .ok (.if_icmp .ne 6, 3) := by decide +kernel
theorem dX12_hangs_68 : decode cX12_hangs 68 = .ok (.goto 32, 3) := by decide +kernel
theorem dX12_hangs_71 : decode cX12_hangs 71 = .ok (.aload_n 0, 1) := by decide +kernel
theorem dX12_hangs_72 : decode cX12_hangs 72 = .ok (.iload 4, 2) := by decide +kernel
theorem dX12_hangs_74 : decode cX12_hangs 74 = .ok (.iload_n 1, 1) := by decide +kernel
theorem dX12_hangs_75 : decode cX12_hangs 75 = .ok (.invokevirtual 562, 3) := by decide +kernel
theorem dX12_hangs_78 : decode cX12_hangs 78 = .ok (.istore 5, 2) := by decide +kernel
theorem dX12_hangs_80 : decode cX12_hangs 80 = .ok (.iload_n 2, 1) := by decide +kernel
theorem dX12_hangs_81 : decode cX12_hangs 81 = .ok (.iconst (-1), 1) := by decide +kernel
theorem dX12_hangs_82 : decode cX12_hangs 82 = .ok (.if_icmp .eq 12, 3) := by decide +kernel
theorem dX12_hangs_85 : decode cX12_hangs 85 = .ok (.iload 5, 2) := by decide +kernel
theorem dX12_hangs_87 : decode cX12_hangs 87 = .ok (.iload_n 3, 1) := by decide +kernel
theorem dX12_hangs_88 : decode cX12_hangs 88 = .ok (.if_icmp .gt 6, 3) := by decide +kernel
theorem dX12_hangs_91 : decode cX12_hangs 91 = .ok (.goto 9, 3) := by decide +kernel
theorem dX12_hangs_94 : decode cX12_hangs 94 = .ok (.iload 5, 2) := by decide +kernel
theorem dX12_hangs_96 : decode cX12_hangs 96 = .ok (.istore_n 3, 1) := by decide +kernel
theorem dX12_hangs_97 : decode cX12_hangs 97 = .ok (.iload 4, 2) := by decide +kernel
theorem dX12_hangs_99 : decode cX12_hangs 99 = .ok (.istore_n 2, 1) := by decide +kernel
theorem dX12_hangs_100 : decode cX12_hangs 100 = .ok (.iinc 4 1, 3) := by decide +kernel
theorem dX12_hangs_103 : decode cX12_hangs 103 = .ok (.goto (-77), 3) := by decide +kernel
theorem dX12_hangs_106 : decode cX12_hangs 106 = .ok (.iload_n 2, 1) := by decide +kernel
theorem dX12_hangs_107 : decode cX12_hangs 107 = .ok (.iconst (-1), 1) := by decide +kernel
theorem dX12_hangs_108 : decode cX12_hangs 108 = .ok (.if_icmp .ne 12, 3) := by decide +kernel
theorem dX12_hangs_111 : decode cX12_hangs 111 = .ok (.aload_n 0, 1) := by decide +kernel
theorem dX12_hangs_112 : decode cX12_hangs 112 = .ok (.bipush 6, 2) := by decide +kernel
theorem dX12_hangs_114 : decode cX12_hangs 114 = .ok (.invokevirtual 60, 3) := by decide +kernel
theorem dX12_hangs_117 : decode cX12_hangs 117 = .ok (.goto 8, 3) := by decide +kernel
theorem dX12_hangs_120 : decode cX12_hangs 120 = .ok (.aload_n 0, 1) := by decide +kernel
theorem dX12_hangs_121 : decode cX12_hangs 121 = .ok (.iload_n 2, 1) := by decide +kernel
theorem dX12_hangs_122 : decode cX12_hangs 122 = .ok (.invokevirtual 65, 3) := by decide +kernel
theorem dX12_hangs_125 : decode cX12_hangs 125 = .ok (.ireturn, 1) := by decide +kernel
theorem dX12_moves_0 : decode cX12_moves 0 = .ok (.aload_n 0, 1) := by decide +kernel
theorem dX12_moves_1 : decode cX12_moves 1 = .ok (.iconst 0, 1) := by decide +kernel
theorem dX12_moves_2 : decode cX12_moves 2 = .ok (.putfield 54, 3) := by decide +kernel
theorem dX12_moves_5 : decode cX12_moves 5 = .ok (.aload_n 0, 1) := by decide +kernel
theorem dX12_moves_6 : decode cX12_moves 6 = .ok (.iload_n 1, 1) := by decide +kernel
theorem dX12_moves_7 : decode cX12_moves 7 = .ok (.invokevirtual 532, 3) := by decide +kernel
theorem dX12_moves_10 : decode cX12_moves 10 = .ok (.ifCond .eq 24, 3) := by decide +kernel
theorem dX12_moves_13 : decode cX12_moves 13 = .ok (.aload_n 0, 1) := by decide +kernel
theorem dX12_moves_14 : decode cX12_moves 14 = .ok (.iload_n 2, 1) := by decide +kernel
theorem dX12_moves_15 : decode cX12_moves 15 = .ok (.invokevirtual 511, 3) := by decide +kernel
theorem dX12_moves_18 : decode cX12_moves 18 = .ok (.ifCond .eq 16, 3) := by decide +kernel
theorem dX12_moves_21 : decode cX12_moves 21 = .ok (.aload_n 0, 1) := by decide +kernel
theorem dX12_moves_22 : decode cX12_moves 22 = .ok (.aload_n 0, 1) := by decide +kernel
theorem dX12_moves_23 : decode cX12_moves 23 = .ok (.iload_n 1, 1) := by decide +kernel
theorem dX12_moves_24 : decode cX12_moves 24 = .ok (.iload_n 2, 1) := by decide +kernel
theorem dX12_moves_25 : decode cX12_moves 25 = .ok (.invokevirtual 562, 3) := by decide +kernel
theorem dX12_moves_28 : decode cX12_moves 28 = .ok (.invokevirtual 65, 3) := by decide +kernel
theorem dX12_moves_31 : decode cX12_moves 31 = .ok (.goto 8, 3) := by decide +kernel
theorem dX12_moves_34 : decode cX12_moves 34 = .ok (.aload_n 0, 1) := by decide +kernel
theorem dX12_moves_35 : decode cX12_moves 35 = .ok (.iconst 1, 1) := by decide +kernel
theorem dX12_moves_36 : decode cX12_moves 36 = .ok (.invokevirtual 60, 3) := by decide +kernel
theorem dX12_moves_39 : decode cX12_moves 39 = .ok (.ireturn, 1) := by decide +kernel
theorem dX12_brings_0 : decode cX12_brings 0 = .ok (.aload_n 0, 1) := by decide +kernel
theorem dX12_brings_1 : decode cX12_brings 1 = .ok (.iconst 0, 1) := by decide +kernel
theorem dX12_brings_2 : decode cX12_brings 2 = .ok (.putfield 54, 3) := by decide +kernel
theorem dX12_brings_5 : decode cX12_brings 5 = .ok (.aload_n 0, 1) := by decide +kernel
theorem dX12_brings_6 : decode cX12_brings 6 = .ok (.iload_n 1, 1) := by decide +kernel
theorem dX12_brings_7 : decode cX12_brings 7 = .ok (.invokevirtual 532, 3) := by decide +kernel
theorem dX12_brings_10 : decode cX12_brings 10 = .ok (.ifCond .eq 27, 3) := by decide +kernel
theorem dX12_brings_13 : decode cX12_brings 13 = .ok (.iload_n 1, 1) := by decide +kernel
theorem dX12_brings_14 : decode cX12_brings 14 = .ok (.bipush 12, 2) := by decide +kernel
theorem dX12_brings_16 : decode cX12_brings 16 = .ok (.if_icmp .ge 21, 3) := by decide +kernel
theorem dX12_brings_19 : decode cX12_brings 19 = .ok (.iload_n 2, 1) := by decide +kernel
theorem dX12_brings_20 : decode cX12_brings 20 = .ok (.iconst 0, 1) := by decide +kernel
theorem dX12_brings_21 : decode cX12_brings 21 = .ok (.iconst 2, 1) := by decide +kernel
theorem dX12_brings_22 : decode cX12_brings 22 = .ok (.invokestatic 130, 3) := by decide +kernel
theorem dX12_brings_25 : decode cX12_brings 25 = .ok (.ifCond .eq 12, 3) := by decide +kernel
theorem dX12_brings_28 : decode cX12_brings 28 = .ok (.aload_n 0, 1) := by decide +kernel
theorem dX12_brings_29 : decode cX12_brings 29 = .ok (.iload 4, 2) := by decide +kernel
theorem dX12_brings_31 : decode cX12_brings 31 = .ok (.invokevirtual 511, 3) := by decide +kernel
theorem dX12_brings_34 : decode cX12_brings 34 = .ok (.ifCond .ne 9, 3) := by decide +kernel
theorem dX12_brings_37 : decode cX12_brings 37 = .ok (.aload_n 0, 1) := by decide +kernel
theorem dX12_brings_38 : decode cX12_brings 38 = .ok (.iconst 1, 1) := by decide +kernel
theorem dX12_brings_39 : decode cX12_brings 39 = .ok (.invokevirtual 557, 3) := by decide +kernel
theorem dX12_brings_42 : decode cX12_brings 42 = .ok (.ireturn, 1) := by decide +kernel
theorem dX12_brings_43 : decode cX12_brings 43 = .ok (.iload_n 3, 1) := by decide +kernel
theorem dX12_brings_44 : decode cX12_brings 44 = .ok (.iconst 0, 1) := by decide +kernel
theorem dX12_brings_45 : decode cX12_brings 45 = .ok (.sipush 999, 3) := by decide +kernel
theorem dX12_brings_48 : decode cX12_brings 48 = .ok (.invokestatic 130, 3) := by decide +kernel
theorem dX12_brings_51 : decode cX12_brings 51 = .ok (.ifCond .ne 9, 3) := by decide +kernel
theorem dX12_brings_54 : decode cX12_brings 54 = .ok (.aload_n 0, 1) := by decide +kernel
theorem dX12_brings_55 : decode cX12_brings 55 = .ok (.iconst 2, 1) := by decide +kernel
theorem dX12_brings_56 : decode cX12_brings 56 = .ok (.invokevirtual 557, 3) := by decide +kernel
theorem dX12_brings_59 : decode cX12_brings 59 = .ok (.ireturn, 1) := by decide +kernel
theorem dX12_brings_60 : decode cX12_brings 60 = .ok (.aload_n 0, 1) := by decide +kernel
theorem dX12_brings_61 : decode cX12_brings 61 = .ok (.iload 4, 2) := by decide +kernel
theorem dX12_brings_63 : decode cX12_brings 63 = .ok (.invokevirtual 514, 3) := by decide +kernel
theorem dX12_brings_66 : decode cX12_brings 66 = .ok (.aload_n 0, 1) := by decide +kernel
theorem dX12_brings_67 : decode cX12_brings 67 = .ok (.invokevirtual 559, 3) := by decide +kernel
theorem dX12_brings_70 : decode cX12_brings 70 = .ok (.istore 5, 2) := by decide +kernel
theorem dX12_brings_72 : decode cX12_brings 72 = .ok (.aload_n 0, 1) := by decide +kernel
theorem dX12_brings_73 : decode cX12_brings 73 = .ok (.iload_n 1, 1) := by decide +kernel
theorem dX12_brings_74 : decode cX12_brings 74 = .ok (.putfield 454, 3) := by decide +kernel
theorem dX12_brings_77 : decode cX12_brings 77 = .ok (.aload_n 0, 1) := by decide +kernel
theorem dX12_brings_78 : decode cX12_brings 78 = .ok (.iload_n 2, 1) := by decide +kernel
theorem dX12_brings_79 : decode cX12_brings 79 = .ok (.putfield 466, 3) := by decide +kernel
theorem dX12_brings_82 : decode cX12_brings 82 = .ok (.aload_n 0, 1) := by decide +kernel
theorem dX12_brings_83 : decode cX12_brings 83 = .ok (.iload_n 3, 1) := by decide +kernel
theorem dX12_brings_84 : decode cX12_brings 84 = .ok (.putfield 463, 3) := by decide +kernel
theorem dX12_brings_87 : decode cX12_brings 87 = .ok (.aload_n 0, 1) := by decide +kernel
theorem dX12_brings_88 : decode cX12_brings 88 = .ok (.aload_n 0, 1) := by decide +kernel
theorem dX12_brings_89 : decode cX12_brings 89 = .ok (.invokevirtual 559, 3) := by decide +kernel
theorem dX12_brings_92 : decode cX12_brings 92 = .ok (.iload 5, 2) := by decide +kernel
theorem dX12_brings_94 : decode cX12_brings 94 = .ok (.isub, 1) := by decide +kernel
theorem dX12_brings_95 : decode cX12_brings 95 = .ok (.invokevirtual 65, 3) := by decide +kernel
theorem dX12_brings_98 : decode cX12_brings 98 = .ok (.ireturn, 1) := by decide +kernel
theorem dX12_part_0 : decode cX12_part 0 = .ok (.aload_n 0, 1) := by decide +kernel
theorem dX12_part_1 : decode cX12_part 1 = .ok (.iconst 0, 1) := by decide +kernel
theorem dX12_part_2 : decode cX12_part 2 = .ok (.putfield 54, 3) := by decide +kernel
theorem dX12_part_5 : decode cX12_part 5 = .ok (.aload_n 0, 1) := by decide +kernel
theorem dX12_part_6 : decode cX12_part 6 = .ok (.iload_n 1, 1) := by decide +kernel
theorem dX12_part_7 : decode cX12_part 7 = .ok (.invokevirtual 511, 3) := by decide +kernel
theorem dX12_part_10 : decode cX12_part 10 = .ok (.ifCond .eq 11, 3) := by decide +kernel
theorem dX12_part_13 : decode cX12_part 13 = .ok (.aload_n 0, 1) := by decide +kernel
theorem dX12_part_14 : decode cX12_part 14 = .ok (.iload_n 2, 1) := by decide +kernel
theorem dX12_part_15 : decode cX12_part 15 = .ok (.invokevirtual 511, 3) := by decide +kernel
theorem dX12_part_18 : decode cX12_part 18 = .ok (.ifCond .ne 9, 3) := by decide +kernel
theorem dX12_part_21 : decode cX12_part 21 = .ok (.aload_n 0, 1) := by decide +kernel
theorem dX12_part_22 : decode cX12_part 22 = .ok (.iconst 1, 1) := by decide +kernel
theorem dX12_part_23 : decode cX12_part 23 = .ok (.invokevirtual 60, 3) := by decide +kernel
theorem dX12_part_26 : decode cX12_part 26 = .ok (.ireturn, 1) := by decide +kernel
theorem dX12_part_27 : decode cX12_part 27 = .ok (.iconst 0, 1) := by decide +kernel
theorem dX12_part_28 : decode cX12_part 28 = .ok (.istore_n 3, 1) := by decide +kernel
theorem dX12_part_29 : decode cX12_part 29 = .ok (.iload_n 3, 1) := by decide +kernel
theorem dX12_part_30 : decode cX12_part 30 = .ok (.aload_n 0, 1) := by decide +kernel
theorem dX12_part_31 : decode cX12_part 31 = .ok (.getfield 442, 3) := by decide +kernel
theorem dX12_part_34 : decode cX12_part 34 = .ok (.getfield 405, 3) := by decide +kernel
theorem dX12_part_37 : decode cX12_part 37 = .ok (.if_icmp .ge 93, 3) := by decide +kernel
theorem dX12_part_40 : decode cX12_part 40 = .ok (.iconst 0, 1) := by decide +kernel
theorem dX12_part_41 : decode cX12_part 41 = .ok (.istore 4, 2) := by decide +kernel
theorem dX12_part_43 : decode cX12_part 43 = .ok (.iload 4, 2) := by decide +kernel
theorem dX12_part_45 : decode cX12_part 45 = .ok (.aload_n 0, 1) := by decide +kernel
theorem dX12_part_46 : decode cX12_part 46 = .ok (.getfield 442, 3) := by decide +kernel
theorem dX12_part_49 : decode cX12_part 49 = .ok (.getfield 297, 3) := by decide +kernel
theorem dX12_part_52 : decode cX12_part 52 = .ok (.if_icmp .ge 72, 3) := by decide +kernel
theorem dX12_part_55 : decode cX12_part 55 = .ok (.aload_n 0, 1) := by decide +kernel
theorem dX12_part_56 : decode cX12_part 56 = .ok (.iload_n 3, 1) := by decide +kernel
theorem dX12_part_57 : decode cX12_part 57 = .ok (.iload_n 1, 1) := by decide +kernel
theorem dX12_part_58 : decode cX12_part 58 = .ok (.invokevirtual 523, 3) := by decide +kernel
theorem dX12_part_61 : decode cX12_part 61 = .ok (.aload_n 0, 1) := by decide +kernel
theorem dX12_part_62 : decode cX12_part 62 = .ok (.iload_n 3, 1) := by decide +kernel
theorem dX12_part_63 : decode cX12_part 63 = .ok (.iload 4, 2) := by decide +kernel
theorem dX12_part_65 : decode cX12_part 65 = .ok (.aload_n 0, 1) := by decide +kernel
theorem dX12_part_66 : decode cX12_part 66 = .ok (.getfield 442, 3) := by decide +kernel
theorem dX12_part_69 : decode cX12_part 69 = .ok (.getfield 432, 3) := by decide +kernel
theorem dX12_part_72 : decode cX12_part 72 = .ok (.iload_n 3, 1) := by decide +kernel
theorem dX12_part_73 : decode cX12_part 73 = .ok (.iaload, 1) := by decide +kernel
theorem dX12_part_74 : decode cX12_part 74 = .ok (.invokevirtual 526, 3) := by decide +kernel
theorem dX12_part_77 : decode cX12_part 77 = .ok (.istore 5, 2) := by decide +kernel
theorem dX12_part_79 : decode cX12_part 79 = .ok (.aload_n 0, 1) := by decide +kernel
theorem dX12_part_80 : decode cX12_part 80 = .ok (.iload_n 3, 1) := by decide +kernel
theorem dX12_part_81 : decode cX12_part 81 = .ok (.iload_n 2, 1) := by decide +kernel
theorem dX12_part_82 : decode cX12_part 82 = .ok (.invokevirtual 523, 3) := by decide +kernel
theorem dX12_part_85 : decode cX12_part 85 = .ok (.aload_n 0, 1) := by decide +kernel
theorem dX12_part_86 : decode cX12_part 86 = .ok (.iload_n 3, 1) := by decide +kernel
theorem dX12_part_87 : decode cX12_part 87 = .ok (.iload 4, 2) := by decide +kernel
theorem dX12_part_89 : decode cX12_part 89 = .ok (.aload_n 0, 1) := by decide +kernel
theorem dX12_part_90 : decode cX12_part 90 = .ok (.getfield 442, 3) := by decide +kernel
theorem dX12_part_93 : decode cX12_part 93 = .ok (.getfield 432, 3) := by decide +kernel
theorem dX12_part_96 : decode cX12_part 96 = .ok (.iload_n 3, 1) := by decide +kernel
theorem dX12_part_97 : decode cX12_part 97 = .ok (.iaload, 1) := by decide +kernel
theorem dX12_part_98 : decode cX12_part 98 = .ok (.invokevirtual 526, 3) := by decide +kernel
theorem dX12_part_101 : decode cX12_part 101 = .ok (.iload 5, 2) := by decide +kernel
theorem dX12_part_103 : decode cX12_part 103 = .ok (.if_icmp .eq 15, 3) := by decide +kernel
theorem dX12_part_106 : decode cX12_part 106 = .ok (.aload_n 0, 1) := by decide +kernel
theorem dX12_part_107 : decode cX12_part 107 = .ok (.bipush 10, 2) := by decide +kernel
theorem dX12_part_109 : decode cX12_part 109 = .ok (.iload_n 3, 1) := by decide +kernel
theorem dX12_part_110 : decode cX12_part 110 = .ok (.imul, 1) := by decide +kernel
theorem dX12_part_111 : decode cX12_part 111 = .ok (.iload 4, 2) := by decide +kernel
theorem dX12_part_113 : decode cX12_part 113 = .ok (.iadd, 1) := by decide +kernel
theorem dX12_part_114 : decode cX12_part 114 = .ok (.invokevirtual 65, 3) := by decide +kernel
theorem dX12_part_117 : decode cX12_part 117 = .ok (.ireturn, 1) := by decide +kernel
theorem dX12_part_118 : decode cX12_part 118 = .ok (.iinc 4 1, 3) := by decide +kernel
theorem dX12_part_121 : decode cX12_part 121 = .ok (.goto (-78), 3) := by decide +kernel
theorem dX12_part_124 : decode cX12_part 124 = .ok (.iinc 3 1, 3) := by decide +kernel
theorem dX12_part_127 : decode cX12_part 127 = .ok (.goto (-98), 3) := by decide +kernel
theorem dX12_part_130 : decode cX12_part 130 = .ok (.aload_n 0, 1) := by decide +kernel
theorem dX12_part_131 : decode cX12_part 131 = .ok (.bipush (-2), 2) := by decide +kernel
theorem dX12_part_133 : decode cX12_part 133 = .ok (.invokevirtual 65, 3) := by decide +kernel
theorem dX12_part_136 : decode cX12_part 136 = .ok (.ireturn, 1) := by decide +kernel
theorem dX12_lose_0 : decode cX12_lose 0 = .ok (.aload_n 0, 1) := by decide +kernel
theorem dX12_lose_1 : decode cX12_lose 1 = .ok (.iconst 0, 1) := by decide +kernel
theorem dX12_lose_2 : decode cX12_lose 2 = .ok (.putfield 54, 3) := by decide +kernel
theorem dX12_lose_5 : decode cX12_lose 5 = .ok (.aload_n 0, 1) := by decide +kernel
theorem dX12_lose_6 : decode cX12_lose 6 = .ok (.iload_n 1, 1) := by decide +kernel
theorem dX12_lose_7 : decode cX12_lose 7 = .ok (.invokevirtual 532, 3) := by decide +kernel
theorem dX12_lose_10 : decode cX12_lose 10 = .ok (.ifCond .ne 9, 3) := by decide +kernel
theorem dX12_lose_13 : decode cX12_lose 13 = .ok (.aload_n 0, 1) := by decide +kernel
theorem dX12_lose_14 : decode cX12_lose 14 = .ok (.iconst 1, 1) := by decide +kernel
theorem dX12_lose_15 : decode cX12_lose 15 = .ok (.invokevirtual 565, 3) := by decide +kernel
theorem dX12_lose_18 : decode cX12_lose 18 = .ok (.ireturn, 1) := by decide +kernel
theorem dX12_lose_19 : decode cX12_lose 19 = .ok (.aload_n 0, 1) := by decide +kernel
theorem dX12_lose_20 : decode cX12_lose 20 = .ok (.getfield 442, 3) := by decide +kernel
theorem dX12_lose_23 : decode cX12_lose 23 = .ok (.getfield 371, 3) := by decide +kernel
theorem dX12_lose_26 : decode cX12_lose 26 = .ok (.iload_n 1, 1) := by decide +kernel
theorem dX12_lose_27 : decode cX12_lose 27 = .ok (.iaload, 1) := by decide +kernel
theorem dX12_lose_28 : decode cX12_lose 28 = .ok (.ifCond .le 9, 3) := by decide +kernel
theorem dX12_lose_31 : decode cX12_lose 31 = .ok (.aload_n 0, 1) := by decide +kernel
theorem dX12_lose_32 : decode cX12_lose 32 = .ok (.iconst 5, 1) := by decide +kernel
theorem dX12_lose_33 : decode cX12_lose 33 = .ok (.invokevirtual 565, 3) := by decide +kernel
theorem dX12_lose_36 : decode cX12_lose 36 = .ok (.ireturn, 1) := by decide +kernel
theorem dX12_lose_37 : decode cX12_lose 37 = .ok (.aload_n 0, 1) := by decide +kernel
theorem dX12_lose_38 : decode cX12_lose 38 = .ok (.getfield 442, 3) := by decide +kernel
theorem dX12_lose_41 : decode cX12_lose 41 = .ok (.getfield 371, 3) := by decide +kernel
theorem dX12_lose_44 : decode cX12_lose 44 = .ok (.iload_n 1, 1) := by decide +kernel
theorem dX12_lose_45 : decode cX12_lose 45 = .ok (.iload_n 2, 1) := by decide +kernel
theorem dX12_lose_46 : decode cX12_lose 46 = .ok (.ifCond .eq 7, 3) := by decide +kernel
theorem dX12_lose_49 : decode cX12_lose 49 = .ok (.iconst 2, 1) := by decide +kernel
theorem dX12_lose_50 : decode cX12_lose 50 = .ok (.goto 4, 3) := by decide +kernel
theorem dX12_lose_53 : decode cX12_lose 53 = .ok (.iconst 1, 1) := by decide +kernel
theorem dX12_lose_54 : decode cX12_lose 54 = .ok (.iastore, 1) := by decide +kernel
theorem dX12_lose_55 : decode cX12_lose 55 = .ok (.aload_n 0, 1) := by decide +kernel
theorem dX12_lose_56 : decode cX12_lose 56 = .ok (.invokevirtual 568, 3) := by decide +kernel
theorem dX12_lose_59 : decode cX12_lose 59 = .ok (.ireturn, 1) := by decide +kernel
theorem dX12_find_0 : decode cX12_find 0 = .ok (.aload_n 0, 1) := by decide +kernel
theorem dX12_find_1 : decode cX12_find 1 = .ok (.iconst 0, 1) := by decide +kernel
theorem dX12_find_2 : decode cX12_find 2 = .ok (.putfield 54, 3) := by decide +kernel
theorem dX12_find_5 : decode cX12_find 5 = .ok (.aload_n 0, 1) := by decide +kernel
theorem dX12_find_6 : decode cX12_find 6 = .ok (.iload_n 1, 1) := by decide +kernel
theorem dX12_find_7 : decode cX12_find 7 = .ok (.invokevirtual 532, 3) := by decide +kernel
theorem dX12_find_10 : decode cX12_find 10 = .ok (.ifCond .ne 9, 3) := by decide +kernel
theorem dX12_find_13 : decode cX12_find 13 = .ok (.aload_n 0, 1) := by decide +kernel
theorem dX12_find_14 : decode cX12_find 14 = .ok (.iconst 1, 1) := by decide +kernel
theorem dX12_find_15 : decode cX12_find 15 = .ok (.invokevirtual 565, 3) := by decide +kernel
theorem dX12_find_18 : decode cX12_find 18 = .ok (.ireturn, 1) := by decide +kernel
theorem dX12_find_19 : decode cX12_find 19 = .ok (.aload_n 0, 1) := by decide +kernel
theorem dX12_find_20 : decode cX12_find 20 = .ok (.getfield 442, 3) := by decide +kernel
theorem dX12_find_23 : decode cX12_find 23 = .ok (.getfield 371, 3) := by decide +kernel
theorem dX12_find_26 : decode cX12_find 26 = .ok (.iload_n 1, 1) := by decide +kernel
theorem dX12_find_27 : decode cX12_find 27 = .ok (.iaload, 1) := by decide +kernel
theorem dX12_find_28 : decode cX12_find 28 = .ok (.ifCond .ne 9, 3) := by decide +kernel
theorem dX12_find_31 : decode cX12_find 31 = .ok (.aload_n 0, 1) := by decide +kernel
theorem dX12_find_32 : decode cX12_find 32 = .ok (.iconst 5, 1) := by decide +kernel
theorem dX12_find_33 : decode cX12_find 33 = .ok (.invokevirtual 565, 3) := by decide +kernel
theorem dX12_find_36 : decode cX12_find 36 = .ok (.ireturn, 1) := by decide +kernel
theorem dX12_find_37 : decode cX12_find 37 = .ok (.aload_n 0, 1) := by decide +kernel
theorem dX12_find_38 : decode cX12_find 38 = .ok (.getfield 442, 3) := by decide +kernel
theorem dX12_find_41 : decode cX12_find 41 = .ok (.getfield 371, 3) := by decide +kernel
theorem dX12_find_44 : decode cX12_find 44 = .ok (.iload_n 1, 1) := by decide +kernel
theorem dX12_find_45 : decode cX12_find 45 = .ok (.iconst 0, 1) := by decide +kernel
theorem dX12_find_46 : decode cX12_find 46 = .ok (.iastore, 1) := by decide +kernel
theorem dX12_find_47 : decode cX12_find 47 = .ok (.aload_n 0, 1) := by decide +kernel
theorem dX12_find_48 : decode cX12_find 48 = .ok (.invokevirtual 568, 3) := by decide +kernel
theorem dX12_find_51 : decode cX12_find 51 = .ok (.ireturn, 1) := by decide +kernel
theorem dX12_date_0 : decode cX12_date 0 = .ok (.aload_n 0, 1) := by decide +kernel
theorem dX12_date_1 : decode cX12_date 1 = .ok (.iconst 0, 1) := by decide +kernel
theorem dX12_date_2 : decode cX12_date 2 = .ok (.putfield 54, 3) := by decide +kernel
theorem dX12_date_5 : decode cX12_date 5 = .ok (.aload_n 0, 1) := by decide +kernel
theorem dX12_date_6 : decode cX12_date 6 = .ok (.iload_n 1, 1) := by decide +kernel
theorem dX12_date_7 : decode cX12_date 7 = .ok (.invokevirtual 532, 3) := by decide +kernel
theorem dX12_date_10 : decode cX12_date 10 = .ok (.ifCond .ne 9, 3) := by decide +kernel
theorem dX12_date_13 : decode cX12_date 13 = .ok (.aload_n 0, 1) := by decide +kernel
theorem dX12_date_14 : decode cX12_date 14 = .ok (.iconst 1, 1) := by decide +kernel
theorem dX12_date_15 : decode cX12_date 15 = .ok (.invokevirtual 565, 3) := by decide +kernel
theorem dX12_date_18 : decode cX12_date 18 = .ok (.ireturn, 1) := by decide +kernel
theorem dX12_date_19 : decode cX12_date 19 = .ok (.iload_n 2, 1) := by decide +kernel
theorem dX12_date_20 : decode cX12_date 20 = .ok (.iconst 0, 1) := by decide +kernel
theorem dX12_date_21 : decode cX12_date 21 = .ok (.sipush 999, 3) := by decide +kernel
theorem dX12_date_24 : decode cX12_date 24 = .ok (.invokestatic 130, 3) := by decide +kernel
theorem dX12_date_27 : decode cX12_date 27 = .ok (.ifCond .ne 9, 3) := by decide +kernel
theorem dX12_date_30 : decode cX12_date 30 = .ok (.aload_n 0, 1) := by decide +kernel
theorem dX12_date_31 : decode cX12_date 31 = .ok (.iconst 2, 1) := by decide +kernel
theorem dX12_date_32 : decode cX12_date 32 = .ok (.invokevirtual 565, 3) := by decide +kernel
theorem dX12_date_35 : decode cX12_date 35 = .ok (.ireturn, 1) := by decide +kernel
theorem dX12_date_36 : decode cX12_date 36 = .ok (.aload_n 0, 1) := by decide +kernel
theorem dX12_date_37 : decode cX12_date 37 = .ok (.getfield 442, 3) := by decide +kernel
theorem dX12_date_40 : decode cX12_date 40 = .ok (.getfield 307, 3) := by decide +kernel
theorem dX12_date_43 : decode cX12_date 43 = .ok (.iload_n 1, 1) := by decide +kernel
theorem dX12_date_44 : decode cX12_date 44 = .ok (.iload_n 2, 1) := by decide +kernel
theorem dX12_date_45 : decode cX12_date 45 = .ok (.iastore, 1) := by decide +kernel
theorem dX12_date_46 : decode cX12_date 46 = .ok (.aload_n 0, 1) := by decide +kernel
theorem dX12_date_47 : decode cX12_date 47 = .ok (.getfield 442, 3) := by decide +kernel
theorem dX12_date_50 : decode cX12_date 50 = .ok (.getfield 310, 3) := by decide +kernel
theorem dX12_date_53 : decode cX12_date 53 = .ok (.iload_n 1, 1) := by decide +kernel
theorem dX12_date_54 : decode cX12_date 54 = .ok (.iload_n 2, 1) := by decide +kernel
theorem dX12_date_55 : decode cX12_date 55 = .ok (.iastore, 1) := by decide +kernel
theorem dX12_date_56 : decode cX12_date 56 = .ok (.aload_n 0, 1) := by decide +kernel
theorem dX12_date_57 : decode cX12_date 57 = .ok (.invokevirtual 568, 3) := by decide +kernel
theorem dX12_date_60 : decode cX12_date 60 = .ok (.ireturn, 1) := by decide +kernel
theorem dX12_grant_0 : decode cX12_grant 0 = .ok (.aload_n 0, 1) := by decide +kernel
theorem dX12_grant_1 : decode cX12_grant 1 = .ok (.iconst 0, 1) := by decide +kernel
theorem dX12_grant_2 : decode cX12_grant 2 = .ok (.putfield 54, 3) := by decide +kernel
theorem dX12_grant_5 : decode cX12_grant 5 = .ok (.aload_n 0, 1) := by decide +kernel
theorem dX12_grant_6 : decode cX12_grant 6 = .ok (.iload_n 1, 1) := by decide +kernel
theorem dX12_grant_7 : decode cX12_grant 7 = .ok (.invokevirtual 532, 3) := by decide +kernel
theorem dX12_grant_10 : decode cX12_grant 10 = .ok (.ifCond .eq 13, 3) := by decide +kernel
theorem dX12_grant_13 : decode cX12_grant 13 = .ok (.iload_n 2, 1) := by decide +kernel
theorem dX12_grant_14 : decode cX12_grant 14 = .ok (.iconst 0, 1) := by decide +kernel
theorem dX12_grant_15 : decode cX12_grant 15 = .ok (.bipush 6, 2) := by decide +kernel
theorem dX12_grant_17 : decode cX12_grant 17 = .ok (.invokestatic 130, 3) := by decide +kernel
theorem dX12_grant_20 : decode cX12_grant 20 = .ok (.ifCond .ne 5, 3) := by decide +kernel
theorem dX12_grant_23 : decode cX12_grant 23 = .ok (.iconst (-1), 1) := by decide +kernel
theorem dX12_grant_24 : decode cX12_grant 24 = .ok (.ireturn, 1) := by decide +kernel
theorem dX12_grant_25 : decode cX12_grant 25 = .ok (.iload_n 2, 1) := by decide +kernel
theorem dX12_grant_26 : decode cX12_grant 26 = .ok (.iconst 3, 1) := by decide +kernel
theorem dX12_grant_27 : decode cX12_grant 27 = .ok (.if_icmp .ge 46, 3) := by decide +kernel
theorem dX12_grant_30 : decode cX12_grant 30 = .ok (.iload_n 2, 1) := by decide +kernel
theorem dX12_grant_31 : decode cX12_grant 31 = .ok (.ifCond .ne 15, 3) := by decide +kernel
theorem dX12_grant_34 : decode cX12_grant 34 = .ok (.aload_n 0, 1) := by decide +kernel
theorem dX12_grant_35 : decode cX12_grant 35 = .ok (.getfield 442, 3) := by decide +kernel
theorem dX12_grant_38 : decode cX12_grant 38 = .ok (.getfield 307, 3) := by decide +kernel
theorem dX12_grant_41 : decode cX12_grant 41 = .ok (.iload_n 1, 1) := by decide +kernel
theorem dX12_grant_42 : decode cX12_grant 42 = .ok (.iaload, 1) := by decide +kernel
theorem dX12_grant_43 : decode cX12_grant 43 = .ok (.goto 29, 3) := by decide +kernel
theorem dX12_grant_46 : decode cX12_grant 46 = .ok (.iload_n 2, 1) := by decide +kernel
theorem dX12_grant_47 : decode cX12_grant 47 = .ok (.iconst 1, 1) := by decide +kernel
theorem dX12_grant_48 : decode cX12_grant 48 = .ok (.if_icmp .ne 15, 3) := by decide +kernel
theorem dX12_grant_51 : decode cX12_grant 51 = .ok (.aload_n 0, 1) := by decide +kernel
theorem dX12_grant_52 : decode cX12_grant 52 = .ok (.getfield 442, 3) := by decide +kernel
theorem dX12_grant_55 : decode cX12_grant 55 = .ok (.getfield 310, 3) := by decide +kernel
theorem dX12_grant_58 : decode cX12_grant 58 = .ok (.iload_n 1, 1) := by decide +kernel
theorem dX12_grant_59 : decode cX12_grant 59 = .ok (.iaload, 1) := by decide +kernel
theorem dX12_grant_60 : decode cX12_grant 60 = .ok (.goto 12, 3) := by decide +kernel
theorem dX12_grant_63 : decode cX12_grant 63 = .ok (.aload_n 0, 1) := by decide +kernel
theorem dX12_grant_64 : decode cX12_grant 64 = .ok (.getfield 442, 3) := by decide +kernel
theorem dX12_grant_67 : decode cX12_grant 67 = .ok (.getfield 371, 3) := by decide +kernel
theorem dX12_grant_70 : decode cX12_grant 70 = .ok (.iload_n 1, 1) := by decide +kernel
theorem dX12_grant_71 : decode cX12_grant 71 = .ok (.iaload, 1) := by decide +kernel
theorem dX12_grant_72 : decode cX12_grant 72 = .ok (.ireturn, 1) := by decide +kernel
theorem dX12_grant_73 : decode cX12_grant 73 = .ok (.iload_n 2, 1) := by decide +kernel
theorem dX12_grant_74 : decode cX12_grant 74 = .ok (.bipush 6, 2) := by decide +kernel
theorem dX12_grant_76 : decode cX12_grant 76 = .ok (.if_icmp .ge 47, 3) := by decide +kernel
theorem dX12_grant_79 : decode cX12_grant 79 = .ok (.iload_n 2, 1) := by decide +kernel
theorem dX12_grant_80 : decode cX12_grant 80 = .ok (.iconst 3, 1) := by decide +kernel
theorem dX12_grant_81 : decode cX12_grant 81 = .ok (.if_icmp .ne 15, 3) := by decide +kernel
theorem dX12_grant_84 : decode cX12_grant 84 = .ok (.aload_n 0, 1) := by decide +kernel
theorem dX12_grant_85 : decode cX12_grant 85 = .ok (.getfield 442, 3) := by decide +kernel
theorem dX12_grant_88 : decode cX12_grant 88 = .ok (.getfield 327, 3) := by decide +kernel
theorem dX12_grant_91 : decode cX12_grant 91 = .ok (.iload_n 1, 1) := by decide +kernel
theorem dX12_grant_92 : decode cX12_grant 92 = .ok (.iaload, 1) := by decide +kernel
theorem dX12_grant_93 : decode cX12_grant 93 = .ok (.goto 29, 3) := by decide +kernel
theorem dX12_grant_96 : decode cX12_grant 96 = .ok (.iload_n 2, 1) := by decide +kernel
theorem dX12_grant_97 : decode cX12_grant 97 = .ok (.iconst 4, 1) := by decide +kernel
theorem dX12_grant_98 : decode cX12_grant 98 = .ok (.if_icmp .ne 15, 3) := by decide +kernel
theorem dX12_grant_101 : decode cX12_grant 101 = .ok (.aload_n 0, 1) := by decide +kernel
theorem dX12_grant_102 : decode cX12_grant 102 = .ok (.getfield 442, 3) := by decide +kernel
theorem dX12_grant_105 : decode cX12_grant 105 = .ok (.getfield 329, 3) := by decide +kernel
theorem dX12_grant_108 : decode cX12_grant 108 = .ok (.iload_n 1, 1) := by decide +kernel
theorem dX12_grant_109 : decode cX12_grant 109 = .ok (.iaload, 1) := by decide +kernel
theorem dX12_grant_110 : decode cX12_grant 110 = .ok (.goto 12, 3) := by decide +kernel
theorem dX12_grant_113 : decode cX12_grant 113 = .ok (.aload_n 0, 1) := by decide +kernel
theorem dX12_grant_114 : decode cX12_grant 114 = .ok (.getfield 442, 3) := by decide +kernel
theorem dX12_grant_117 : decode cX12_grant 117 = .ok (.getfield 331, 3) := by decide +kernel
theorem dX12_grant_120 : decode cX12_grant 120 = .ok (.iload_n 1, 1) := by decide +kernel
theorem dX12_grant_121 : decode cX12_grant 121 = .ok (.iaload, 1) := by decide +kernel
theorem dX12_grant_122 : decode cX12_grant 122 = .ok (.ireturn, 1) := by decide +kernel
theorem dX12_grant_123 : decode cX12_grant 123 = .ok (.iconst 0, 1) := by decide +kernel
theorem dX12_grant_124 : decode cX12_grant 124 = .ok (.istore_n 3, 1) := by decide +kernel
theorem dX12_grant_125 : decode cX12_grant 125 = .ok (.iconst 0, 1) := by decide +kernel
theorem dX12_grant_126 : decode cX12_grant 126 = .ok (.istore 4, 2) := by decide +kernel
theorem dX12_grant_128 : decode cX12_grant 128 = .ok (.iload 4, 2) := by decide +kernel
theorem dX12_grant_130 : decode cX12_grant 130 = .ok (.aload_n 0, 1) := by decide +kernel
theorem dX12_grant_131 : decode cX12_grant 131 = .ok (.getfield 442, 3) := by decide +kernel
theorem dX12_grant_134 : decode cX12_grant 134 = .ok (.getfield 350, 3) := by decide +kernel
theorem dX12_grant_137 : decode cX12_grant 137 = .ok (.if_icmp .ge 31, 3) := by decide +kernel
theorem dX12_grant_140 : decode cX12_grant 140 = .ok (.iload_n 3, 1) := by decide +kernel
theorem dX12_grant_141 : decode cX12_grant 141 = .ok (.aload_n 0, 1) := by decide +kernel
theorem dX12_grant_142 : decode cX12_grant 142 = .ok (.getfield 442, 3) := by decide +kernel
theorem dX12_grant_145 : decode cX12_grant 145 = .ok (.getfield 359, 3) := by decide +kernel
theorem dX12_grant_148 : decode cX12_grant 148 = .ok (.iload 4, 2) := by decide +kernel
theorem dX12_grant_150 : decode cX12_grant 150 = .ok (.iaload, 1) := by decide +kernel
theorem dX12_grant_151 : decode cX12_grant 151 = .ok (.iload_n 1, 1) := by decide +kernel
theorem dX12_grant_152 : decode cX12_grant 152 = .ok (.if_icmp .ne 7, 3) := by decide +kernel
theorem dX12_grant_155 : decode cX12_grant 155 = .ok (.iconst 1, 1) := by decide +kernel
theorem dX12_grant_156 : decode cX12_grant 156 = .ok (.goto 4, 3) := by decide +kernel
theorem dX12_grant_159 : decode cX12_grant 159 = .ok (.iconst 0, 1) := by decide +kernel
theorem dX12_grant_160 : decode cX12_grant 160 = .ok (.iadd, 1) := by decide +kernel
theorem dX12_grant_161 : decode cX12_grant 161 = .ok (.istore_n 3, 1) := by decide +kernel
theorem dX12_grant_162 : decode cX12_grant 162 = .ok (.iinc 4 1, 3) := by decide +kernel
theorem dX12_grant_165 : decode cX12_grant 165 = .ok (.goto (-37), 3) := by decide +kernel
theorem dX12_grant_168 : decode cX12_grant 168 = .ok (.iload_n 3, 1) := by decide +kernel
theorem dX12_grant_169 : decode cX12_grant 169 = .ok (.ireturn, 1) := by decide +kernel
theorem dX12_cart_0 : decode cX12_cart 0 = .ok (.aload_n 0, 1) := by decide +kernel
theorem dX12_cart_1 : decode cX12_cart 1 = .ok (.iconst 0, 1) := by decide +kernel
theorem dX12_cart_2 : decode cX12_cart 2 = .ok (.putfield 54, 3) := by decide +kernel
theorem dX12_cart_5 : decode cX12_cart 5 = .ok (.aload_n 0, 1) := by decide +kernel
theorem dX12_cart_6 : decode cX12_cart 6 = .ok (.iload_n 1, 1) := by decide +kernel
theorem dX12_cart_7 : decode cX12_cart 7 = .ok (.invokevirtual 505, 3) := by decide +kernel
theorem dX12_cart_10 : decode cX12_cart 10 = .ok (.ifCond .eq 13, 3) := by decide +kernel
theorem dX12_cart_13 : decode cX12_cart 13 = .ok (.iload_n 2, 1) := by decide +kernel
theorem dX12_cart_14 : decode cX12_cart 14 = .ok (.iconst 0, 1) := by decide +kernel
theorem dX12_cart_15 : decode cX12_cart 15 = .ok (.bipush 6, 2) := by decide +kernel
theorem dX12_cart_17 : decode cX12_cart 17 = .ok (.invokestatic 130, 3) := by decide +kernel
theorem dX12_cart_20 : decode cX12_cart 20 = .ok (.ifCond .ne 5, 3) := by decide +kernel
theorem dX12_cart_23 : decode cX12_cart 23 = .ok (.iconst (-1), 1) := by decide +kernel
theorem dX12_cart_24 : decode cX12_cart 24 = .ok (.ireturn, 1) := by decide +kernel
theorem dX12_cart_25 : decode cX12_cart 25 = .ok (.iload_n 2, 1) := by decide +kernel
theorem dX12_cart_26 : decode cX12_cart 26 = .ok (.tableswitch 98 0 5 #[38, 48, 58, 68, 78, 88], 38) := by decide +kernel
theorem dX12_cart_64 : decode cX12_cart 64 = .ok (.aload_n 0, 1) := by decide +kernel
theorem dX12_cart_65 : decode cX12_cart 65 = .ok (.getfield 442, 3) := by decide +kernel
theorem dX12_cart_68 : decode cX12_cart 68 = .ok (.getfield 414, 3) := by decide +kernel
theorem dX12_cart_71 : decode cX12_cart 71 = .ok (.iload_n 1, 1) := by decide +kernel
theorem dX12_cart_72 : decode cX12_cart 72 = .ok (.iaload, 1) := by decide +kernel
theorem dX12_cart_73 : decode cX12_cart 73 = .ok (.ireturn, 1) := by decide +kernel
theorem dX12_cart_74 : decode cX12_cart 74 = .ok (.aload_n 0, 1) := by decide +kernel
theorem dX12_cart_75 : decode cX12_cart 75 = .ok (.getfield 442, 3) := by decide +kernel
theorem dX12_cart_78 : decode cX12_cart 78 = .ok (.getfield 417, 3) := by decide +kernel
theorem dX12_cart_81 : decode cX12_cart 81 = .ok (.iload_n 1, 1) := by decide +kernel
theorem dX12_cart_82 : decode cX12_cart 82 = .ok (.iaload, 1) := by decide +kernel
theorem dX12_cart_83 : decode cX12_cart 83 = .ok (.ireturn, 1) := by decide +kernel
theorem dX12_cart_84 : decode cX12_cart 84 = .ok (.aload_n 0, 1) := by decide +kernel
theorem dX12_cart_85 : decode cX12_cart 85 = .ok (.getfield 442, 3) := by decide +kernel
theorem dX12_cart_88 : decode cX12_cart 88 = .ok (.getfield 420, 3) := by decide +kernel
theorem dX12_cart_91 : decode cX12_cart 91 = .ok (.iload_n 1, 1) := by decide +kernel
theorem dX12_cart_92 : decode cX12_cart 92 = .ok (.iaload, 1) := by decide +kernel
theorem dX12_cart_93 : decode cX12_cart 93 = .ok (.ireturn, 1) := by decide +kernel
theorem dX12_cart_94 : decode cX12_cart 94 = .ok (.aload_n 0, 1) := by decide +kernel
theorem dX12_cart_95 : decode cX12_cart 95 = .ok (.getfield 442, 3) := by decide +kernel
theorem dX12_cart_98 : decode cX12_cart 98 = .ok (.getfield 423, 3) := by decide +kernel
theorem dX12_cart_101 : decode cX12_cart 101 = .ok (.iload_n 1, 1) := by decide +kernel
theorem dX12_cart_102 : decode cX12_cart 102 = .ok (.iaload, 1) := by decide +kernel
theorem dX12_cart_103 : decode cX12_cart 103 = .ok (.ireturn, 1) := by decide +kernel
theorem dX12_cart_104 : decode cX12_cart 104 = .ok (.aload_n 0, 1) := by decide +kernel
theorem dX12_cart_105 : decode cX12_cart 105 = .ok (.getfield 442, 3) := by decide +kernel
theorem dX12_cart_108 : decode cX12_cart 108 = .ok (.getfield 426, 3) := by decide +kernel
theorem dX12_cart_111 : decode cX12_cart 111 = .ok (.iload_n 1, 1) := by decide +kernel
theorem dX12_cart_112 : decode cX12_cart 112 = .ok (.iaload, 1) := by decide +kernel
theorem dX12_cart_113 : decode cX12_cart 113 = .ok (.ireturn, 1) := by decide +kernel
theorem dX12_cart_114 : decode cX12_cart 114 = .ok (.aload_n 0, 1) := by decide +kernel
theorem dX12_cart_115 : decode cX12_cart 115 = .ok (.getfield 442, 3) := by decide +kernel
theorem dX12_cart_118 : decode cX12_cart 118 = .ok (.getfield 429, 3) := by decide +kernel
theorem dX12_cart_121 : decode cX12_cart 121 = .ok (.iload_n 1, 1) := by decide +kernel
theorem dX12_cart_122 : decode cX12_cart 122 = .ok (.iaload, 1) := by decide +kernel
theorem dX12_cart_123 : decode cX12_cart 123 = .ok (.ireturn, 1) := by decide +kernel
theorem dX12_cart_124 : decode cX12_cart 124 = .ok (.aload_n 0, 1) := by decide +kernel
theorem dX12_cart_125 : decode cX12_cart 125 = .ok (.getfield 442, 3) := by decide +kernel
theorem dX12_cart_128 : decode cX12_cart 128 = .ok (.getfield 432, 3) := by decide +kernel
theorem dX12_cart_131 : decode cX12_cart 131 = .ok (.iload_n 1, 1) := by decide +kernel
theorem dX12_cart_132 : decode cX12_cart 132 = .ok (.iaload, 1) := by decide +kernel
theorem dX12_cart_133 : decode cX12_cart 133 = .ok (.ireturn, 1) := by decide +kernel
theorem dX12_led_0 : decode cX12_led 0 = .ok (.aload_n 0, 1) := by decide +kernel
theorem dX12_led_1 : decode cX12_led 1 = .ok (.iload_n 1, 1) := by decide +kernel
theorem dX12_led_2 : decode cX12_led 2 = .ok (.ifCond .lt 11, 3) := by decide +kernel
theorem dX12_led_5 : decode cX12_led 5 = .ok (.iload_n 1, 1) := by decide +kernel
theorem dX12_led_6 : decode cX12_led 6 = .ok (.aload_n 0, 1) := by decide +kernel
theorem dX12_led_7 : decode cX12_led 7 = .ok (.getfield 448, 3) := by decide +kernel
theorem dX12_led_10 : decode cX12_led 10 = .ok (.if_icmp .lt 7, 3) := by decide +kernel
theorem dX12_led_13 : decode cX12_led 13 = .ok (.iconst 1, 1) := by decide +kernel
theorem dX12_led_14 : decode cX12_led 14 = .ok (.goto 4, 3) := by decide +kernel
theorem dX12_led_17 : decode cX12_led 17 = .ok (.iconst 0, 1) := by decide +kernel
theorem dX12_led_18 : decode cX12_led 18 = .ok (.putfield 54, 3) := by decide +kernel
theorem dX12_led_21 : decode cX12_led 21 = .ok (.aload_n 0, 1) := by decide +kernel
theorem dX12_led_22 : decode cX12_led 22 = .ok (.getfield 54, 3) := by decide +kernel
theorem dX12_led_25 : decode cX12_led 25 = .ok (.ifCond .le 7, 3) := by decide +kernel
theorem dX12_led_28 : decode cX12_led 28 = .ok (.iconst 0, 1) := by decide +kernel
theorem dX12_led_29 : decode cX12_led 29 = .ok (.goto 9, 3) := by decide +kernel
theorem dX12_led_32 : decode cX12_led 32 = .ok (.aload_n 0, 1) := by decide +kernel
theorem dX12_led_33 : decode cX12_led 33 = .ok (.getfield 39, 3) := by decide +kernel
theorem dX12_led_36 : decode cX12_led 36 = .ok (.iload_n 1, 1) := by decide +kernel
theorem dX12_led_37 : decode cX12_led 37 = .ok (.iaload, 1) := by decide +kernel
theorem dX12_led_38 : decode cX12_led 38 = .ok (.ireturn, 1) := by decide +kernel
theorem dX12_size_0 : decode cX12_size 0 = .ok (.aload_n 0, 1) := by decide +kernel
theorem dX12_size_1 : decode cX12_size 1 = .ok (.iconst 0, 1) := by decide +kernel
theorem dX12_size_2 : decode cX12_size 2 = .ok (.putfield 54, 3) := by decide +kernel
theorem dX12_size_5 : decode cX12_size 5 = .ok (.iload_n 1, 1) := by decide +kernel
theorem dX12_size_6 : decode cX12_size 6 = .ok (.bipush 11, 2) := by decide +kernel
theorem dX12_size_8 : decode cX12_size 8 = .ok (.if_icmp .ne 8, 3) := by decide +kernel
theorem dX12_size_11 : decode cX12_size 11 = .ok (.aload_n 0, 1) := by decide +kernel
theorem dX12_size_12 : decode cX12_size 12 = .ok (.getfield 435, 3) := by decide +kernel
theorem dX12_size_15 : decode cX12_size 15 = .ok (.ireturn, 1) := by decide +kernel
theorem dX12_size_16 : decode cX12_size 16 = .ok (.iload_n 1, 1) := by decide +kernel
theorem dX12_size_17 : decode cX12_size 17 = .ok (.iconst 0, 1) := by decide +kernel
theorem dX12_size_18 : decode cX12_size 18 = .ok (.bipush 10, 2) := by decide +kernel
theorem dX12_size_20 : decode cX12_size 20 = .ok (.invokestatic 130, 3) := by decide +kernel
theorem dX12_size_23 : decode cX12_size 23 = .ok (.ifCond .ne 5, 3) := by decide +kernel
theorem dX12_size_26 : decode cX12_size 26 = .ok (.iconst (-1), 1) := by decide +kernel
theorem dX12_size_27 : decode cX12_size 27 = .ok (.ireturn, 1) := by decide +kernel
theorem dX12_size_28 : decode cX12_size 28 = .ok (.aload_n 0, 1) := by decide +kernel
theorem dX12_size_29 : decode cX12_size 29 = .ok (.getfield 442, 3) := by decide +kernel
theorem dX12_size_32 : decode cX12_size 32 = .ok (.ifnonnull 5, 3) := by decide +kernel
theorem dX12_size_35 : decode cX12_size 35 = .ok (.iconst 0, 1) := by decide +kernel
theorem dX12_size_36 : decode cX12_size 36 = .ok (.ireturn, 1) := by decide +kernel
theorem dX12_size_37 : decode cX12_size 37 = .ok (.iload_n 1, 1) := by decide +kernel
theorem dX12_size_38 : decode cX12_size 38 = .ok (.tableswitch 134 0 9 #[54, 62, 70, 78, 86, 94, 102, 110, 118, 126], 54) := by decide +kernel
theorem dX12_size_92 : decode cX12_size 92 = .ok (.aload_n 0, 1) := by decide +kernel
theorem dX12_size_93 : decode cX12_size 93 = .ok (.getfield 442, 3) := by decide +kernel
theorem dX12_size_96 : decode cX12_size 96 = .ok (.getfield 196, 3) := by decide +kernel
theorem dX12_size_99 : decode cX12_size 99 = .ok (.ireturn, 1) := by decide +kernel
theorem dX12_size_100 : decode cX12_size 100 = .ok (.aload_n 0, 1) := by decide +kernel
theorem dX12_size_101 : decode cX12_size 101 = .ok (.getfield 442, 3) := by decide +kernel
theorem dX12_size_104 : decode cX12_size 104 = .ok (.getfield 245, 3) := by decide +kernel
theorem dX12_size_107 : decode cX12_size 107 = .ok (.ireturn, 1) := by decide +kernel
theorem dX12_size_108 : decode cX12_size 108 = .ok (.aload_n 0, 1) := by decide +kernel
theorem dX12_size_109 : decode cX12_size 109 = .ok (.getfield 442, 3) := by decide +kernel
theorem dX12_size_112 : decode cX12_size 112 = .ok (.getfield 247, 3) := by decide +kernel
theorem dX12_size_115 : decode cX12_size 115 = .ok (.ireturn, 1) := by decide +kernel
theorem dX12_size_116 : decode cX12_size 116 = .ok (.aload_n 0, 1) := by decide +kernel
theorem dX12_size_117 : decode cX12_size 117 = .ok (.getfield 442, 3) := by decide +kernel
theorem dX12_size_120 : decode cX12_size 120 = .ok (.getfield 291, 3) := by decide +kernel
theorem dX12_size_123 : decode cX12_size 123 = .ok (.ireturn, 1) := by decide +kernel
theorem dX12_size_124 : decode cX12_size 124 = .ok (.aload_n 0, 1) := by decide +kernel
theorem dX12_size_125 : decode cX12_size 125 = .ok (.getfield 442, 3) := by decide +kernel
theorem dX12_size_128 : decode cX12_size 128 = .ok (.getfield 297, 3) := by decide +kernel
theorem dX12_size_131 : decode cX12_size 131 = .ok (.ireturn, 1) := by decide +kernel
theorem dX12_size_132 : decode cX12_size 132 = .ok (.aload_n 0, 1) := by decide +kernel
theorem dX12_size_133 : decode cX12_size 133 = .ok (.getfield 442, 3) := by decide +kernel
theorem dX12_size_136 : decode cX12_size 136 = .ok (.getfield 313, 3) := by decide +kernel
theorem dX12_size_139 : decode cX12_size 139 = .ok (.ireturn, 1) := by decide +kernel
theorem dX12_size_140 : decode cX12_size 140 = .ok (.aload_n 0, 1) := by decide +kernel
theorem dX12_size_141 : decode cX12_size 141 = .ok (.getfield 442, 3) := by decide +kernel
theorem dX12_size_144 : decode cX12_size 144 = .ok (.getfield 334, 3) := by decide +kernel
theorem dX12_size_147 : decode cX12_size 147 = .ok (.ireturn, 1) := by decide +kernel
theorem dX12_size_148 : decode cX12_size 148 = .ok (.aload_n 0, 1) := by decide +kernel
theorem dX12_size_149 : decode cX12_size 149 = .ok (.getfield 442, 3) := by decide +kernel
theorem dX12_size_152 : decode cX12_size 152 = .ok (.getfield 345, 3) := by decide +kernel
theorem dX12_size_155 : decode cX12_size 155 = .ok (.ireturn, 1) := by decide +kernel
theorem dX12_size_156 : decode cX12_size 156 = .ok (.aload_n 0, 1) := by decide +kernel
theorem dX12_size_157 : decode cX12_size 157 = .ok (.getfield 442, 3) := by decide +kernel
theorem dX12_size_160 : decode cX12_size 160 = .ok (.getfield 350, 3) := by decide +kernel
theorem dX12_size_163 : decode cX12_size 163 = .ok (.ireturn, 1) := by decide +kernel
theorem dX12_size_164 : decode cX12_size 164 = .ok (.aload_n 0, 1) := by decide +kernel
theorem dX12_size_165 : decode cX12_size 165 = .ok (.getfield 442, 3) := by decide +kernel
theorem dX12_size_168 : decode cX12_size 168 = .ok (.getfield 199, 3) := by decide +kernel
theorem dX12_size_171 : decode cX12_size 171 = .ok (.ireturn, 1) := by decide +kernel
theorem dX12_size_172 : decode cX12_size 172 = .ok (.aload_n 0, 1) := by decide +kernel
theorem dX12_size_173 : decode cX12_size 173 = .ok (.getfield 442, 3) := by decide +kernel
theorem dX12_size_176 : decode cX12_size 176 = .ok (.getfield 405, 3) := by decide +kernel
theorem dX12_size_179 : decode cX12_size 179 = .ok (.ireturn, 1) := by decide +kernel
theorem dX12_trouble_0 : decode cX12_trouble 0 = .ok (.aload_n 0, 1) := by decide +kernel
theorem dX12_trouble_1 : decode cX12_trouble 1 = .ok (.iconst 0, 1) := by decide +kernel
theorem dX12_trouble_2 : decode cX12_trouble 2 = .ok (.putfield 54, 3) := by decide +kernel
theorem dX12_trouble_5 : decode cX12_trouble 5 = .ok (.aload_n 0, 1) := by decide +kernel
theorem dX12_trouble_6 : decode cX12_trouble 6 = .ok (.getfield 57, 3) := by decide +kernel
theorem dX12_trouble_9 : decode cX12_trouble 9 = .ok (.ireturn, 1) := by decide +kernel
theorem dJ9_max_7cf53_0 : decode cJ9_max_7cf53 0 = .ok (.iload_n 0, 1) := by decide +kernel
theorem dJ9_max_7cf53_1 : decode cJ9_max_7cf53 1 = .ok (.iload_n 1, 1) := by decide +kernel
theorem dJ9_max_7cf53_2 : decode cJ9_max_7cf53 2 = .ok (.if_icmp .lt 7, 3) := by decide +kernel
theorem dJ9_max_7cf53_5 : decode cJ9_max_7cf53 5 = .ok (.iload_n 0, 1) := by decide +kernel
theorem dJ9_max_7cf53_6 : decode cJ9_max_7cf53 6 = .ok (.goto 4, 3) := by decide +kernel
theorem dJ9_max_7cf53_9 : decode cJ9_max_7cf53 9 = .ok (.iload_n 1, 1) := by decide +kernel
theorem dJ9_max_7cf53_10 : decode cJ9_max_7cf53 10 = .ok (.ireturn, 1) := by decide +kernel
theorem dJ9_min_7cf53_0 : decode cJ9_min_7cf53 0 = .ok (.iload_n 0, 1) := by decide +kernel
theorem dJ9_min_7cf53_1 : decode cJ9_min_7cf53 1 = .ok (.iload_n 1, 1) := by decide +kernel
theorem dJ9_min_7cf53_2 : decode cJ9_min_7cf53 2 = .ok (.if_icmp .gt 7, 3) := by decide +kernel
theorem dJ9_min_7cf53_5 : decode cJ9_min_7cf53 5 = .ok (.iload_n 0, 1) := by decide +kernel
theorem dJ9_min_7cf53_6 : decode cJ9_min_7cf53 6 = .ok (.goto 4, 3) := by decide +kernel
theorem dJ9_min_7cf53_9 : decode cJ9_min_7cf53 9 = .ok (.iload_n 1, 1) := by decide +kernel
theorem dJ9_min_7cf53_10 : decode cJ9_min_7cf53 10 = .ok (.ireturn, 1) := by decide +kernel
theorem dJ0_length_8abf5_0 : decode cJ0_length_8abf5 0 = .ok (.aload_n 0, 1) := by decide +kernel
theorem dJ0_length_8abf5_1 : decode cJ0_length_8abf5 1 = .ok (.getfield 9, 3) := by decide +kernel
theorem dJ0_length_8abf5_4 : decode cJ0_length_8abf5 4 = .ok (.arraylength, 1) := by decide +kernel
theorem dJ0_length_8abf5_5 : decode cJ0_length_8abf5 5 = .ok (.aload_n 0, 1) := by decide +kernel
theorem dJ0_length_8abf5_6 : decode cJ0_length_8abf5 6 = .ok (.invokevirtual 335, 3) := by decide +kernel
theorem dJ0_length_8abf5_9 : decode cJ0_length_8abf5 9 = .ok (.ishr, 1) := by decide +kernel
theorem dJ0_length_8abf5_10 : decode cJ0_length_8abf5 10 = .ok (.ireturn, 1) := by decide +kernel
theorem dJ0_charAt_5068e_0 : decode cJ0_charAt_5068e 0 = .ok (.aload_n 0, 1) := by decide +kernel
theorem dJ0_charAt_5068e_1 : decode cJ0_charAt_5068e 1 = .ok (.invokevirtual 492, 3) := by decide +kernel
theorem dJ0_charAt_5068e_4 : decode cJ0_charAt_5068e 4 = .ok (.ifCond .eq 12, 3) := by decide +kernel
theorem dJ0_charAt_5068e_7 : decode cJ0_charAt_5068e 7 = .ok (.aload_n 0, 1) := by decide +kernel
theorem dJ0_charAt_5068e_8 : decode cJ0_charAt_5068e 8 = .ok (.getfield 9, 3) := by decide +kernel
theorem dJ0_charAt_5068e_11 : decode cJ0_charAt_5068e 11 = .ok (.iload_n 1, 1) := by decide +kernel
theorem dJ0_charAt_5068e_12 : decode cJ0_charAt_5068e 12 = .ok (.invokestatic 495, 3) := by decide +kernel
theorem dJ0_charAt_5068e_15 : decode cJ0_charAt_5068e 15 = .ok (.ireturn, 1) := by decide +kernel
theorem dJ0_charAt_5068e_16 : decode cJ0_charAt_5068e 16 = .ok (.aload_n 0, 1) := by decide +kernel
theorem dJ0_charAt_5068e_17 : decode cJ0_charAt_5068e 17 = .ok (.getfield 9, 3) := by decide +kernel
theorem dJ0_charAt_5068e_20 : decode cJ0_charAt_5068e 20 = .ok (.iload_n 1, 1) := by decide +kernel
theorem dJ0_charAt_5068e_21 : decode cJ0_charAt_5068e 21 = .ok (.invokestatic 498, 3) := by decide +kernel
theorem dJ0_charAt_5068e_24 : decode cJ0_charAt_5068e 24 = .ok (.ireturn, 1) := by decide +kernel
theorem dJ0_coder_7d493_0 : decode cJ0_coder_7d493 0 = .ok (.getstatic 38, 3) := by decide +kernel
theorem dJ0_coder_7d493_3 : decode cJ0_coder_7d493 3 = .ok (.ifCond .eq 10, 3) := by decide +kernel
theorem dJ0_coder_7d493_6 : decode cJ0_coder_7d493 6 = .ok (.aload_n 0, 1) := by decide +kernel
theorem dJ0_coder_7d493_7 : decode cJ0_coder_7d493 7 = .ok (.getfield 15, 3) := by decide +kernel
theorem dJ0_coder_7d493_10 : decode cJ0_coder_7d493 10 = .ok (.goto 4, 3) := by decide +kernel
theorem dJ0_coder_7d493_13 : decode cJ0_coder_7d493 13 = .ok (.iconst 1, 1) := by decide +kernel
theorem dJ0_coder_7d493_14 : decode cJ0_coder_7d493 14 = .ok (.ireturn, 1) := by decide +kernel
theorem dJ0_isLatin1_aae02_0 : decode cJ0_isLatin1_aae02 0 = .ok (.getstatic 38, 3) := by decide +kernel
theorem dJ0_isLatin1_aae02_3 : decode cJ0_isLatin1_aae02 3 = .ok (.ifCond .eq 14, 3) := by decide +kernel
theorem dJ0_isLatin1_aae02_6 : decode cJ0_isLatin1_aae02 6 = .ok (.aload_n 0, 1) := by decide +kernel
theorem dJ0_isLatin1_aae02_7 : decode cJ0_isLatin1_aae02 7 = .ok (.getfield 15, 3) := by decide +kernel
theorem dJ0_isLatin1_aae02_10 : decode cJ0_isLatin1_aae02 10 = .ok (.ifCond .ne 7, 3) := by decide +kernel
theorem dJ0_isLatin1_aae02_13 : decode cJ0_isLatin1_aae02 13 = .ok (.iconst 1, 1) := by decide +kernel
theorem dJ0_isLatin1_aae02_14 : decode cJ0_isLatin1_aae02 14 = .ok (.goto 4, 3) := by decide +kernel
theorem dJ0_isLatin1_aae02_17 : decode cJ0_isLatin1_aae02 17 = .ok (.iconst 0, 1) := by decide +kernel
theorem dJ0_isLatin1_aae02_18 : decode cJ0_isLatin1_aae02 18 = .ok (.ireturn, 1) := by decide +kernel
theorem dJ0_checkIndex_df160_0 : decode cJ0_checkIndex_df160 0 = .ok (.iload_n 0, 1) := by decide +kernel
theorem dJ0_checkIndex_df160_1 : decode cJ0_checkIndex_df160 1 = .ok (.iload_n 1, 1) := by decide +kernel
theorem dJ0_checkIndex_df160_2 : decode cJ0_checkIndex_df160 2 = .ok (.getstatic 1053, 3) := by decide +kernel
theorem dJ0_checkIndex_df160_5 : decode cJ0_checkIndex_df160 5 = .ok (.invokestatic 1059, 3) := by decide +kernel
theorem dJ0_checkIndex_df160_8 : decode cJ0_checkIndex_df160 8 = .ok (.pop, 1) := by decide +kernel
theorem dJ0_checkIndex_df160_9 : decode cJ0_checkIndex_df160 9 = .ok (.return_, 1) := by decide +kernel
theorem dJ1_charAt_3b067_0 : decode cJ1_charAt_3b067 0 = .ok (.iload_n 1, 1) := by decide +kernel
theorem dJ1_charAt_3b067_1 : decode cJ1_charAt_3b067 1 = .ok (.aload_n 0, 1) := by decide +kernel
theorem dJ1_charAt_3b067_2 : decode cJ1_charAt_3b067 2 = .ok (.arraylength, 1) := by decide +kernel
theorem dJ1_charAt_3b067_3 : decode cJ1_charAt_3b067 3 = .ok (.invokestatic 9, 3) := by decide +kernel
theorem dJ1_charAt_3b067_6 : decode cJ1_charAt_3b067 6 = .ok (.aload_n 0, 1) := by decide +kernel
theorem dJ1_charAt_3b067_7 : decode cJ1_charAt_3b067 7 = .ok (.iload_n 1, 1) := by decide +kernel
theorem dJ1_charAt_3b067_8 : decode cJ1_charAt_3b067 8 = .ok (.baload, 1) := by decide +kernel
theorem dJ1_charAt_3b067_9 : decode cJ1_charAt_3b067 9 = .ok (.sipush 255, 3) := by decide +kernel
theorem dJ1_charAt_3b067_12 : decode cJ1_charAt_3b067 12 = .ok (.iand, 1) := by decide +kernel
theorem dJ1_charAt_3b067_13 : decode cJ1_charAt_3b067 13 = .ok (.i2c, 1) := by decide +kernel
theorem dJ1_charAt_3b067_14 : decode cJ1_charAt_3b067 14 = .ok (.ireturn, 1) := by decide +kernel
theorem dJ2_getChar_3b067_0 : decode cJ2_getChar_3b067 0 = .ok (.getstatic 44, 3) := by decide +kernel
theorem dJ2_getChar_3b067_3 : decode cJ2_getChar_3b067 3 = .ok (.ifCond .ne 25, 3) := by decide +kernel
theorem dJ2_getChar_3b067_6 : decode cJ2_getChar_3b067 6 = .ok (.iload_n 1, 1) := by decide +kernel
theorem dJ2_getChar_3b067_7 : decode cJ2_getChar_3b067 7 = .ok (.ifCond .lt 11, 3) := by decide +kernel
theorem dJ2_getChar_3b067_10 : decode cJ2_getChar_3b067 10 = .ok (.iload_n 1, 1) := by decide +kernel
theorem dJ2_getChar_3b067_11 : decode cJ2_getChar_3b067 11 = .ok (.aload_n 0, 1) := by decide +kernel
theorem dJ2_getChar_3b067_12 : decode cJ2_getChar_3b067 12 = .ok (.invokestatic 48, 3) := by decide +kernel
theorem dJ2_getChar_3b067_15 : decode cJ2_getChar_3b067 15 = .ok (.if_icmp .lt 13, 3) := by decide +kernel
theorem dJ2_getChar_3b067_18 : decode cJ2_getChar_3b067 18 = .ok (.new 52, 3) := by decide +kernel
theorem dJ2_getChar_3b067_21 : decode cJ2_getChar_3b067 21 = .ok (.dup, 1) := by decide +kernel
theorem dJ2_getChar_3b067_22 : decode cJ2_getChar_3b067 22 = .ok (.ldc 54, 2) := by decide +kernel
theorem dJ2_getChar_3b067_24 : decode cJ2_getChar_3b067 24 = .ok (.invokespecial 56, 3) := by decide +kernel
theorem dJ2_getChar_3b067_27 : decode cJ2_getChar_3b067 27 = .ok (.athrow, 1) := by decide +kernel
theorem dJ2_getChar_3b067_28 : decode cJ2_getChar_3b067 28 = .ok (.iload_n 1, 1) := by decide +kernel
theorem dJ2_getChar_3b067_29 : decode cJ2_getChar_3b067 29 = .ok (.iconst 1, 1) := by decide +kernel
theorem dJ2_getChar_3b067_30 : decode cJ2_getChar_3b067 30 = .ok (.ishl, 1) := by decide +kernel
theorem dJ2_getChar_3b067_31 : decode cJ2_getChar_3b067 31 = .ok (.istore_n 1, 1) := by decide +kernel
theorem dJ2_getChar_3b067_32 : decode cJ2_getChar_3b067 32 = .ok (.aload_n 0, 1) := by decide +kernel
theorem dJ2_getChar_3b067_33 : decode cJ2_getChar_3b067 33 = .ok (.iload_n 1, 1) := by decide +kernel
theorem dJ2_getChar_3b067_34 : decode cJ2_getChar_3b067 34 = .ok (.iinc 1 1, 3) := by decide +kernel
theorem dJ2_getChar_3b067_37 : decode cJ2_getChar_3b067 37 = .ok (.baload, 1) := by decide +kernel
theorem dJ2_getChar_3b067_38 : decode cJ2_getChar_3b067 38 = .ok (.sipush 255, 3) := by decide +kernel
theorem dJ2_getChar_3b067_41 : decode cJ2_getChar_3b067 41 = .ok (.iand, 1) := by decide +kernel
theorem dJ2_getChar_3b067_42 : decode cJ2_getChar_3b067 42 = .ok (.getstatic 59, 3) := by decide +kernel
theorem dJ2_getChar_3b067_45 : decode cJ2_getChar_3b067 45 = .ok (.ishl, 1) := by decide +kernel
theorem dJ2_getChar_3b067_46 : decode cJ2_getChar_3b067 46 = .ok (.aload_n 0, 1) := by decide +kernel
theorem dJ2_getChar_3b067_47 : decode cJ2_getChar_3b067 47 = .ok (.iload_n 1, 1) := by decide +kernel
theorem dJ2_getChar_3b067_48 : decode cJ2_getChar_3b067 48 = .ok (.baload, 1) := by decide +kernel
theorem dJ2_getChar_3b067_49 : decode cJ2_getChar_3b067 49 = .ok (.sipush 255, 3) := by decide +kernel
theorem dJ2_getChar_3b067_52 : decode cJ2_getChar_3b067 52 = .ok (.iand, 1) := by decide +kernel
theorem dJ2_getChar_3b067_53 : decode cJ2_getChar_3b067 53 = .ok (.getstatic 63, 3) := by decide +kernel
theorem dJ2_getChar_3b067_56 : decode cJ2_getChar_3b067 56 = .ok (.ishl, 1) := by decide +kernel
theorem dJ2_getChar_3b067_57 : decode cJ2_getChar_3b067 57 = .ok (.ior, 1) := by decide +kernel
theorem dJ2_getChar_3b067_58 : decode cJ2_getChar_3b067 58 = .ok (.i2c, 1) := by decide +kernel
theorem dJ2_getChar_3b067_59 : decode cJ2_getChar_3b067 59 = .ok (.ireturn, 1) := by decide +kernel
theorem dJ2_length_9d52b_0 : decode cJ2_length_9d52b 0 = .ok (.aload_n 0, 1) := by decide +kernel
theorem dJ2_length_9d52b_1 : decode cJ2_length_9d52b 1 = .ok (.arraylength, 1) := by decide +kernel
theorem dJ2_length_9d52b_2 : decode cJ2_length_9d52b 2 = .ok (.iconst 1, 1) := by decide +kernel
theorem dJ2_length_9d52b_3 : decode cJ2_length_9d52b 3 = .ok (.ishr, 1) := by decide +kernel
theorem dJ2_length_9d52b_4 : decode cJ2_length_9d52b 4 = .ok (.ireturn, 1) := by decide +kernel
theorem dJ2_charAt_3b067_0 : decode cJ2_charAt_3b067 0 = .ok (.iload_n 1, 1) := by decide +kernel
theorem dJ2_charAt_3b067_1 : decode cJ2_charAt_3b067 1 = .ok (.aload_n 0, 1) := by decide +kernel
theorem dJ2_charAt_3b067_2 : decode cJ2_charAt_3b067 2 = .ok (.invokestatic 67, 3) := by decide +kernel
theorem dJ2_charAt_3b067_5 : decode cJ2_charAt_3b067 5 = .ok (.aload_n 0, 1) := by decide +kernel
theorem dJ2_charAt_3b067_6 : decode cJ2_charAt_3b067 6 = .ok (.iload_n 1, 1) := by decide +kernel
theorem dJ2_charAt_3b067_7 : decode cJ2_charAt_3b067 7 = .ok (.invokestatic 71, 3) := by decide +kernel
theorem dJ2_charAt_3b067_10 : decode cJ2_charAt_3b067 10 = .ok (.ireturn, 1) := by decide +kernel
theorem dJ2_checkIndex_2214a_0 : decode cJ2_checkIndex_2214a 0 = .ok (.iload_n 0, 1) := by decide +kernel
theorem dJ2_checkIndex_2214a_1 : decode cJ2_checkIndex_2214a 1 = .ok (.aload_n 1, 1) := by decide +kernel
theorem dJ2_checkIndex_2214a_2 : decode cJ2_checkIndex_2214a 2 = .ok (.invokestatic 48, 3) := by decide +kernel
theorem dJ2_checkIndex_2214a_5 : decode cJ2_checkIndex_2214a 5 = .ok (.invokestatic 414, 3) := by decide +kernel
theorem dJ2_checkIndex_2214a_8 : decode cJ2_checkIndex_2214a 8 = .ok (.return_, 1) := by decide +kernel
theorem dJ7_fill_53178_0 : decode cJ7_fill_53178 0 = .ok (.iconst 0, 1) := by decide +kernel
theorem dJ7_fill_53178_1 : decode cJ7_fill_53178 1 = .ok (.istore_n 2, 1) := by decide +kernel
theorem dJ7_fill_53178_2 : decode cJ7_fill_53178 2 = .ok (.aload_n 0, 1) := by decide +kernel
theorem dJ7_fill_53178_3 : decode cJ7_fill_53178 3 = .ok (.arraylength, 1) := by decide +kernel
theorem dJ7_fill_53178_4 : decode cJ7_fill_53178 4 = .ok (.istore_n 3, 1) := by decide +kernel
theorem dJ7_fill_53178_5 : decode cJ7_fill_53178 5 = .ok (.iload_n 2, 1) := by decide +kernel
theorem dJ7_fill_53178_6 : decode cJ7_fill_53178 6 = .ok (.iload_n 3, 1) := by decide +kernel
theorem dJ7_fill_53178_7 : decode cJ7_fill_53178 7 = .ok (.if_icmp .ge 13, 3) := by decide +kernel
theorem dJ7_fill_53178_10 : decode cJ7_fill_53178 10 = .ok (.aload_n 0, 1) := by decide +kernel
theorem dJ7_fill_53178_11 : decode cJ7_fill_53178 11 = .ok (.iload_n 2, 1) := by decide +kernel
theorem dJ7_fill_53178_12 : decode cJ7_fill_53178 12 = .ok (.iload_n 1, 1) := by decide +kernel
theorem dJ7_fill_53178_13 : decode cJ7_fill_53178 13 = .ok (.iastore, 1) := by decide +kernel
theorem dJ7_fill_53178_14 : decode cJ7_fill_53178 14 = .ok (.iinc 2 1, 3) := by decide +kernel
theorem dJ7_fill_53178_17 : decode cJ7_fill_53178 17 = .ok (.goto (-12), 3) := by decide +kernel
theorem dJ7_fill_53178_20 : decode cJ7_fill_53178 20 = .ok (.return_, 1) := by decide +kernel
theorem dJ3_checkIndex_8e157_0 : decode cJ3_checkIndex_8e157 0 = .ok (.iload_n 0, 1) := by decide +kernel
theorem dJ3_checkIndex_8e157_1 : decode cJ3_checkIndex_8e157 1 = .ok (.ifCond .lt 8, 3) := by decide +kernel
theorem dJ3_checkIndex_8e157_4 : decode cJ3_checkIndex_8e157 4 = .ok (.iload_n 0, 1) := by decide +kernel
theorem dJ3_checkIndex_8e157_5 : decode cJ3_checkIndex_8e157 5 = .ok (.iload_n 1, 1) := by decide +kernel
theorem dJ3_checkIndex_8e157_6 : decode cJ3_checkIndex_8e157 6 = .ok (.if_icmp .lt 10, 3) := by decide +kernel
theorem dJ3_checkIndex_8e157_9 : decode cJ3_checkIndex_8e157 9 = .ok (.aload_n 2, 1) := by decide +kernel
theorem dJ3_checkIndex_8e157_10 : decode cJ3_checkIndex_8e157 10 = .ok (.iload_n 0, 1) := by decide +kernel
theorem dJ3_checkIndex_8e157_11 : decode cJ3_checkIndex_8e157 11 = .ok (.iload_n 1, 1) := by decide +kernel
theorem dJ3_checkIndex_8e157_12 : decode cJ3_checkIndex_8e157 12 = .ok (.invokestatic 95, 3) := by decide +kernel
theorem dJ3_checkIndex_8e157_15 : decode cJ3_checkIndex_8e157 15 = .ok (.athrow, 1) := by decide +kernel
theorem dJ3_checkIndex_8e157_16 : decode cJ3_checkIndex_8e157 16 = .ok (.iload_n 0, 1) := by decide +kernel
theorem dJ3_checkIndex_8e157_17 : decode cJ3_checkIndex_8e157 17 = .ok (.ireturn, 1) := by decide +kernel
theorem dL_led_0 : decode cL_led 0 = .ok (.aload_n 2, 1) := by decide +kernel
theorem dL_led_1 : decode cL_led 1 = .ok (.iconst 0, 1) := by decide +kernel
theorem dL_led_2 : decode cL_led 2 = .ok (.aload_n 0, 1) := by decide +kernel
theorem dL_led_3 : decode cL_led 3 = .ok (.iload_n 1, 1) := by decide +kernel
theorem dL_led_4 : decode cL_led 4 = .ok (.invokevirtual 7, 3) := by decide +kernel
theorem dL_led_7 : decode cL_led 7 = .ok (.i2l, 1) := by decide +kernel
theorem dL_led_8 : decode cL_led 8 = .ok (.lastore, 1) := by decide +kernel
theorem dL_led_9 : decode cL_led 9 = .ok (.goto 6, 3) := by decide +kernel
theorem dL_led_12 : decode cL_led 12 = .ok (.astore_n 3, 1) := by decide +kernel
theorem dL_led_13 : decode cL_led 13 = .ok (.iconst 1, 1) := by decide +kernel
theorem dL_led_14 : decode cL_led 14 = .ok (.ireturn, 1) := by decide +kernel
theorem dL_led_15 : decode cL_led 15 = .ok (.iconst 0, 1) := by decide +kernel
theorem dL_led_16 : decode cL_led 16 = .ok (.ireturn, 1) := by decide +kernel
theorem dL_law_0 : decode cL_law 0 = .ok (.new 8, 3) := by decide +kernel
theorem dL_law_3 : decode cL_law 3 = .ok (.dup, 1) := by decide +kernel
theorem dL_law_4 : decode cL_law 4 = .ok (.invokespecial 15, 3) := by decide +kernel
theorem dL_law_7 : decode cL_law 7 = .ok (.astore_n 1, 1) := by decide +kernel
theorem dL_law_8 : decode cL_law 8 = .ok (.new 16, 3) := by decide +kernel
theorem dL_law_11 : decode cL_law 11 = .ok (.dup, 1) := by decide +kernel
theorem dL_law_12 : decode cL_law 12 = .ok (.invokespecial 18, 3) := by decide +kernel
theorem dL_law_15 : decode cL_law 15 = .ok (.astore_n 2, 1) := by decide +kernel
theorem dL_law_16 : decode cL_law 16 = .ok (.iconst 1, 1) := by decide +kernel
theorem dL_law_17 : decode cL_law 17 = .ok (.newarray .long, 2) := by decide +kernel
theorem dL_law_19 : decode cL_law 19 = .ok (.astore_n 3, 1) := by decide +kernel
theorem dL_law_20 : decode cL_law 20 = .ok (.iconst 0, 1) := by decide +kernel
theorem dL_law_21 : decode cL_law 21 = .ok (.istore 4, 2) := by decide +kernel
theorem dL_law_23 : decode cL_law 23 = .ok (.iload 4, 2) := by decide +kernel
theorem dL_law_25 : decode cL_law 25 = .ok (.aload_n 0, 1) := by decide +kernel
theorem dL_law_26 : decode cL_law 26 = .ok (.arraylength, 1) := by decide +kernel
theorem dL_law_27 : decode cL_law 27 = .ok (.bipush 6, 2) := by decide +kernel
theorem dL_law_29 : decode cL_law 29 = .ok (.isub, 1) := by decide +kernel
theorem dL_law_30 : decode cL_law 30 = .ok (.if_icmp .gt 1385, 3) := by decide +kernel
theorem dL_law_33 : decode cL_law 33 = .ok (.aload_n 0, 1) := by decide +kernel
theorem dL_law_34 : decode cL_law 34 = .ok (.iload 4, 2) := by decide +kernel
theorem dL_law_36 : decode cL_law 36 = .ok (.iaload, 1) := by decide +kernel
theorem dL_law_37 : decode cL_law 37 = .ok (.bipush 31, 2) := by decide +kernel
theorem dL_law_39 : decode cL_law 39 = .ok (.iand, 1) := by decide +kernel
theorem dL_law_40 : decode cL_law 40 = .ok (.tableswitch 1369 0 29 #[136, 209, 234, 247, 260, 321, 382, 455, 544, 593, 654, 703, 740, 765, 778, 815, 864, 889, 926, 951, 988, 1049, 1086, 1139, 1164, 1201, 1238, 1275, 1331, 1356], 136) := by decide +kernel
theorem dL_law_176 : decode cL_law 176 = .ok (.aload_n 1, 1) := by decide +kernel
theorem dL_law_177 : decode cL_law 177 = .ok (.aload_n 0, 1) := by decide +kernel
theorem dL_law_178 : decode cL_law 178 = .ok (.iload 4, 2) := by decide +kernel
theorem dL_law_180 : decode cL_law 180 = .ok (.iconst 1, 1) := by decide +kernel
theorem dL_law_181 : decode cL_law 181 = .ok (.iadd, 1) := by decide +kernel
theorem dL_law_182 : decode cL_law 182 = .ok (.iaload, 1) := by decide +kernel
theorem dL_law_183 : decode cL_law 183 = .ok (.aload_n 0, 1) := by decide +kernel
theorem dL_law_184 : decode cL_law 184 = .ok (.iload 4, 2) := by decide +kernel
theorem dL_law_186 : decode cL_law 186 = .ok (.iconst 2, 1) := by decide +kernel
theorem dL_law_187 : decode cL_law 187 = .ok (.iadd, 1) := by decide +kernel
theorem dL_law_188 : decode cL_law 188 = .ok (.iaload, 1) := by decide +kernel
theorem dL_law_189 : decode cL_law 189 = .ok (.aload_n 0, 1) := by decide +kernel
theorem dL_law_190 : decode cL_law 190 = .ok (.iload 4, 2) := by decide +kernel
theorem dL_law_192 : decode cL_law 192 = .ok (.iconst 3, 1) := by decide +kernel
theorem dL_law_193 : decode cL_law 193 = .ok (.iadd, 1) := by decide +kernel
theorem dL_law_194 : decode cL_law 194 = .ok (.iaload, 1) := by decide +kernel
theorem dL_law_195 : decode cL_law 195 = .ok (.aload_n 0, 1) := by decide +kernel
theorem dL_law_196 : decode cL_law 196 = .ok (.iload 4, 2) := by decide +kernel
theorem dL_law_198 : decode cL_law 198 = .ok (.iconst 4, 1) := by decide +kernel
theorem dL_law_199 : decode cL_law 199 = .ok (.iadd, 1) := by decide +kernel
theorem dL_law_200 : decode cL_law 200 = .ok (.iaload, 1) := by decide +kernel
theorem dL_law_201 : decode cL_law 201 = .ok (.aload_n 0, 1) := by decide +kernel
theorem dL_law_202 : decode cL_law 202 = .ok (.iload 4, 2) := by decide +kernel
theorem dL_law_204 : decode cL_law 204 = .ok (.iconst 5, 1) := by decide +kernel
theorem dL_law_205 : decode cL_law 205 = .ok (.iadd, 1) := by decide +kernel
theorem dL_law_206 : decode cL_law 206 = .ok (.iaload, 1) := by decide +kernel
theorem dL_law_207 : decode cL_law 207 = .ok (.invokevirtual 19, 3) := by decide +kernel
theorem dL_law_210 : decode cL_law 210 = .ok (.aload_n 2, 1) := by decide +kernel
theorem dL_law_211 : decode cL_law 211 = .ok (.aload_n 0, 1) := by decide +kernel
theorem dL_law_212 : decode cL_law 212 = .ok (.iload 4, 2) := by decide +kernel
theorem dL_law_214 : decode cL_law 214 = .ok (.iconst 1, 1) := by decide +kernel
theorem dL_law_215 : decode cL_law 215 = .ok (.iadd, 1) := by decide +kernel
theorem dL_law_216 : decode cL_law 216 = .ok (.iaload, 1) := by decide +kernel
theorem dL_law_217 : decode cL_law 217 = .ok (.aload_n 0, 1) := by decide +kernel
theorem dL_law_218 : decode cL_law 218 = .ok (.iload 4, 2) := by decide +kernel
theorem dL_law_220 : decode cL_law 220 = .ok (.iconst 2, 1) := by decide +kernel
theorem dL_law_221 : decode cL_law 221 = .ok (.iadd, 1) := by decide +kernel
theorem dL_law_222 : decode cL_law 222 = .ok (.iaload, 1) := by decide +kernel
theorem dL_law_223 : decode cL_law 223 = .ok (.aload_n 0, 1) := by decide +kernel
theorem dL_law_224 : decode cL_law 224 = .ok (.iload 4, 2) := by decide +kernel
theorem dL_law_226 : decode cL_law 226 = .ok (.iconst 3, 1) := by decide +kernel
theorem dL_law_227 : decode cL_law 227 = .ok (.iadd, 1) := by decide +kernel
theorem dL_law_228 : decode cL_law 228 = .ok (.iaload, 1) := by decide +kernel
theorem dL_law_229 : decode cL_law 229 = .ok (.aload_n 0, 1) := by decide +kernel
theorem dL_law_230 : decode cL_law 230 = .ok (.iload 4, 2) := by decide +kernel
theorem dL_law_232 : decode cL_law 232 = .ok (.iconst 4, 1) := by decide +kernel
theorem dL_law_233 : decode cL_law 233 = .ok (.iadd, 1) := by decide +kernel
theorem dL_law_234 : decode cL_law 234 = .ok (.iaload, 1) := by decide +kernel
theorem dL_law_235 : decode cL_law 235 = .ok (.aload_n 0, 1) := by decide +kernel
theorem dL_law_236 : decode cL_law 236 = .ok (.iload 4, 2) := by decide +kernel
theorem dL_law_238 : decode cL_law 238 = .ok (.iconst 5, 1) := by decide +kernel
theorem dL_law_239 : decode cL_law 239 = .ok (.iadd, 1) := by decide +kernel
theorem dL_law_240 : decode cL_law 240 = .ok (.iaload, 1) := by decide +kernel
theorem dL_law_241 : decode cL_law 241 = .ok (.invokevirtual 23, 3) := by decide +kernel
theorem dL_law_244 : decode cL_law 244 = .ok (.if_icmp .eq 1165, 3) := by decide +kernel
theorem dL_law_247 : decode cL_law 247 = .ok (.iconst 0, 1) := by decide +kernel
theorem dL_law_248 : decode cL_law 248 = .ok (.ireturn, 1) := by decide +kernel
theorem dL_law_249 : decode cL_law 249 = .ok (.aload_n 1, 1) := by decide +kernel
theorem dL_law_250 : decode cL_law 250 = .ok (.aload_n 0, 1) := by decide +kernel
theorem dL_law_251 : decode cL_law 251 = .ok (.iload 4, 2) := by decide +kernel
theorem dL_law_253 : decode cL_law 253 = .ok (.iconst 1, 1) := by decide +kernel
theorem dL_law_254 : decode cL_law 254 = .ok (.iadd, 1) := by decide +kernel
theorem dL_law_255 : decode cL_law 255 = .ok (.iaload, 1) := by decide +kernel
theorem dL_law_256 : decode cL_law 256 = .ok (.invokevirtual 24, 3) := by decide +kernel
theorem dL_law_259 : decode cL_law 259 = .ok (.aload_n 2, 1) := by decide +kernel
theorem dL_law_260 : decode cL_law 260 = .ok (.aload_n 0, 1) := by decide +kernel
theorem dL_law_261 : decode cL_law 261 = .ok (.iload 4, 2) := by decide +kernel
theorem dL_law_263 : decode cL_law 263 = .ok (.iconst 1, 1) := by decide +kernel
theorem dL_law_264 : decode cL_law 264 = .ok (.iadd, 1) := by decide +kernel
theorem dL_law_265 : decode cL_law 265 = .ok (.iaload, 1) := by decide +kernel
theorem dL_law_266 : decode cL_law 266 = .ok (.invokevirtual 27, 3) := by decide +kernel
theorem dL_law_269 : decode cL_law 269 = .ok (.if_icmp .eq 1140, 3) := by decide +kernel
theorem dL_law_272 : decode cL_law 272 = .ok (.iconst 0, 1) := by decide +kernel
theorem dL_law_273 : decode cL_law 273 = .ok (.ireturn, 1) := by decide +kernel
theorem dL_law_274 : decode cL_law 274 = .ok (.aload_n 1, 1) := by decide +kernel
theorem dL_law_275 : decode cL_law 275 = .ok (.invokevirtual 28, 3) := by decide +kernel
theorem dL_law_278 : decode cL_law 278 = .ok (.aload_n 2, 1) := by decide +kernel
theorem dL_law_279 : decode cL_law 279 = .ok (.invokevirtual 32, 3) := by decide +kernel
theorem dL_law_282 : decode cL_law 282 = .ok (.if_icmp .eq 1127, 3) := by decide +kernel
theorem dL_law_285 : decode cL_law 285 = .ok (.iconst 0, 1) := by decide +kernel
theorem dL_law_286 : decode cL_law 286 = .ok (.ireturn, 1) := by decide +kernel
theorem dL_law_287 : decode cL_law 287 = .ok (.aload_n 1, 1) := by decide +kernel
theorem dL_law_288 : decode cL_law 288 = .ok (.invokevirtual 33, 3) := by decide +kernel
theorem dL_law_291 : decode cL_law 291 = .ok (.aload_n 2, 1) := by decide +kernel
theorem dL_law_292 : decode cL_law 292 = .ok (.invokevirtual 36, 3) := by decide +kernel
theorem dL_law_295 : decode cL_law 295 = .ok (.if_icmp .eq 1114, 3) := by decide +kernel
theorem dL_law_298 : decode cL_law 298 = .ok (.iconst 0, 1) := by decide +kernel
theorem dL_law_299 : decode cL_law 299 = .ok (.ireturn, 1) := by decide +kernel
theorem dL_law_300 : decode cL_law 300 = .ok (.aload_n 1, 1) := by decide +kernel
theorem dL_law_301 : decode cL_law 301 = .ok (.aload_n 0, 1) := by decide +kernel
theorem dL_law_302 : decode cL_law 302 = .ok (.iload 4, 2) := by decide +kernel
theorem dL_law_304 : decode cL_law 304 = .ok (.iconst 1, 1) := by decide +kernel
theorem dL_law_305 : decode cL_law 305 = .ok (.iadd, 1) := by decide +kernel
theorem dL_law_306 : decode cL_law 306 = .ok (.iaload, 1) := by decide +kernel
theorem dL_law_307 : decode cL_law 307 = .ok (.aload_n 0, 1) := by decide +kernel
theorem dL_law_308 : decode cL_law 308 = .ok (.iload 4, 2) := by decide +kernel
theorem dL_law_310 : decode cL_law 310 = .ok (.iconst 2, 1) := by decide +kernel
theorem dL_law_311 : decode cL_law 311 = .ok (.iadd, 1) := by decide +kernel
theorem dL_law_312 : decode cL_law 312 = .ok (.iaload, 1) := by decide +kernel
theorem dL_law_313 : decode cL_law 313 = .ok (.aload_n 0, 1) := by decide +kernel
theorem dL_law_314 : decode cL_law 314 = .ok (.iload 4, 2) := by decide +kernel
theorem dL_law_316 : decode cL_law 316 = .ok (.iconst 3, 1) := by decide +kernel
theorem dL_law_317 : decode cL_law 317 = .ok (.iadd, 1) := by decide +kernel
theorem dL_law_318 : decode cL_law 318 = .ok (.iaload, 1) := by decide +kernel
theorem dL_law_319 : decode cL_law 319 = .ok (.aload_n 0, 1) := by decide +kernel
theorem dL_law_320 : decode cL_law 320 = .ok (.iload 4, 2) := by decide +kernel
theorem dL_law_322 : decode cL_law 322 = .ok (.iconst 4, 1) := by decide +kernel
theorem dL_law_323 : decode cL_law 323 = .ok (.iadd, 1) := by decide +kernel
theorem dL_law_324 : decode cL_law 324 = .ok (.iaload, 1) := by decide +kernel
theorem dL_law_325 : decode cL_law 325 = .ok (.invokevirtual 37, 3) := by decide +kernel
theorem dL_law_328 : decode cL_law 328 = .ok (.aload_n 2, 1) := by decide +kernel
theorem dL_law_329 : decode cL_law 329 = .ok (.aload_n 0, 1) := by decide +kernel
theorem dL_law_330 : decode cL_law 330 = .ok (.iload 4, 2) := by decide +kernel
theorem dL_law_332 : decode cL_law 332 = .ok (.iconst 1, 1) := by decide +kernel
theorem dL_law_333 : decode cL_law 333 = .ok (.iadd, 1) := by decide +kernel
theorem dL_law_334 : decode cL_law 334 = .ok (.iaload, 1) := by decide +kernel
theorem dL_law_335 : decode cL_law 335 = .ok (.aload_n 0, 1) := by decide +kernel
theorem dL_law_336 : decode cL_law 336 = .ok (.iload 4, 2) := by decide +kernel
theorem dL_law_338 : decode cL_law 338 = .ok (.iconst 2, 1) := by decide +kernel
theorem dL_law_339 : decode cL_law 339 = .ok (.iadd, 1) := by decide +kernel
theorem dL_law_340 : decode cL_law 340 = .ok (.iaload, 1) := by decide +kernel
theorem dL_law_341 : decode cL_law 341 = .ok (.aload_n 0, 1) := by decide +kernel
theorem dL_law_342 : decode cL_law 342 = .ok (.iload 4, 2) := by decide +kernel
theorem dL_law_344 : decode cL_law 344 = .ok (.iconst 3, 1) := by decide +kernel
theorem dL_law_345 : decode cL_law 345 = .ok (.iadd, 1) := by decide +kernel
theorem dL_law_346 : decode cL_law 346 = .ok (.iaload, 1) := by decide +kernel
theorem dL_law_347 : decode cL_law 347 = .ok (.aload_n 0, 1) := by decide +kernel
theorem dL_law_348 : decode cL_law 348 = .ok (.iload 4, 2) := by decide +kernel
theorem dL_law_350 : decode cL_law 350 = .ok (.iconst 4, 1) := by decide +kernel
theorem dL_law_351 : decode cL_law 351 = .ok (.iadd, 1) := by decide +kernel
theorem dL_law_352 : decode cL_law 352 = .ok (.iaload, 1) := by decide +kernel
theorem dL_law_353 : decode cL_law 353 = .ok (.invokevirtual 41, 3) := by decide +kernel
theorem dL_law_356 : decode cL_law 356 = .ok (.if_icmp .eq 1053, 3) := by decide +kernel
theorem dL_law_359 : decode cL_law 359 = .ok (.iconst 0, 1) := by decide +kernel
theorem dL_law_360 : decode cL_law 360 = .ok (.ireturn, 1) := by decide +kernel
theorem dL_law_361 : decode cL_law 361 = .ok (.aload_n 1, 1) := by decide +kernel
theorem dL_law_362 : decode cL_law 362 = .ok (.aload_n 0, 1) := by decide +kernel
theorem dL_law_363 : decode cL_law 363 = .ok (.iload 4, 2) := by decide +kernel
theorem dL_law_365 : decode cL_law 365 = .ok (.iconst 1, 1) := by decide +kernel
theorem dL_law_366 : decode cL_law 366 = .ok (.iadd, 1) := by decide +kernel
theorem dL_law_367 : decode cL_law 367 = .ok (.iaload, 1) := by decide +kernel
theorem dL_law_368 : decode cL_law 368 = .ok (.aload_n 0, 1) := by decide +kernel
theorem dL_law_369 : decode cL_law 369 = .ok (.iload 4, 2) := by decide +kernel
theorem dL_law_371 : decode cL_law 371 = .ok (.iconst 2, 1) := by decide +kernel
theorem dL_law_372 : decode cL_law 372 = .ok (.iadd, 1) := by decide +kernel
theorem dL_law_373 : decode cL_law 373 = .ok (.iaload, 1) := by decide +kernel
theorem dL_law_374 : decode cL_law 374 = .ok (.aload_n 0, 1) := by decide +kernel
theorem dL_law_375 : decode cL_law 375 = .ok (.iload 4, 2) := by decide +kernel
theorem dL_law_377 : decode cL_law 377 = .ok (.iconst 3, 1) := by decide +kernel
theorem dL_law_378 : decode cL_law 378 = .ok (.iadd, 1) := by decide +kernel
theorem dL_law_379 : decode cL_law 379 = .ok (.iaload, 1) := by decide +kernel
theorem dL_law_380 : decode cL_law 380 = .ok (.aload_n 0, 1) := by decide +kernel
theorem dL_law_381 : decode cL_law 381 = .ok (.iload 4, 2) := by decide +kernel
theorem dL_law_383 : decode cL_law 383 = .ok (.iconst 4, 1) := by decide +kernel
theorem dL_law_384 : decode cL_law 384 = .ok (.iadd, 1) := by decide +kernel
theorem dL_law_385 : decode cL_law 385 = .ok (.iaload, 1) := by decide +kernel
theorem dL_law_386 : decode cL_law 386 = .ok (.invokevirtual 42, 3) := by decide +kernel
theorem dL_law_389 : decode cL_law 389 = .ok (.aload_n 2, 1) := by decide +kernel
theorem dL_law_390 : decode cL_law 390 = .ok (.aload_n 0, 1) := by decide +kernel
theorem dL_law_391 : decode cL_law 391 = .ok (.iload 4, 2) := by decide +kernel
theorem dL_law_393 : decode cL_law 393 = .ok (.iconst 1, 1) := by decide +kernel
theorem dL_law_394 : decode cL_law 394 = .ok (.iadd, 1) := by decide +kernel
theorem dL_law_395 : decode cL_law 395 = .ok (.iaload, 1) := by decide +kernel
theorem dL_law_396 : decode cL_law 396 = .ok (.aload_n 0, 1) := by decide +kernel
theorem dL_law_397 : decode cL_law 397 = .ok (.iload 4, 2) := by decide +kernel
theorem dL_law_399 : decode cL_law 399 = .ok (.iconst 2, 1) := by decide +kernel
theorem dL_law_400 : decode cL_law 400 = .ok (.iadd, 1) := by decide +kernel
theorem dL_law_401 : decode cL_law 401 = .ok (.iaload, 1) := by decide +kernel
theorem dL_law_402 : decode cL_law 402 = .ok (.aload_n 0, 1) := by decide +kernel
theorem dL_law_403 : decode cL_law 403 = .ok (.iload 4, 2) := by decide +kernel
theorem dL_law_405 : decode cL_law 405 = .ok (.iconst 3, 1) := by decide +kernel
theorem dL_law_406 : decode cL_law 406 = .ok (.iadd, 1) := by decide +kernel
theorem dL_law_407 : decode cL_law 407 = .ok (.iaload, 1) := by decide +kernel
theorem dL_law_408 : decode cL_law 408 = .ok (.aload_n 0, 1) := by decide +kernel
theorem dL_law_409 : decode cL_law 409 = .ok (.iload 4, 2) := by decide +kernel
theorem dL_law_411 : decode cL_law 411 = .ok (.iconst 4, 1) := by decide +kernel
theorem dL_law_412 : decode cL_law 412 = .ok (.iadd, 1) := by decide +kernel
theorem dL_law_413 : decode cL_law 413 = .ok (.iaload, 1) := by decide +kernel
theorem dL_law_414 : decode cL_law 414 = .ok (.invokevirtual 45, 3) := by decide +kernel
theorem dL_law_417 : decode cL_law 417 = .ok (.if_icmp .eq 992, 3) := by decide +kernel
theorem dL_law_420 : decode cL_law 420 = .ok (.iconst 0, 1) := by decide +kernel
theorem dL_law_421 : decode cL_law 421 = .ok (.ireturn, 1) := by decide +kernel
theorem dL_law_422 : decode cL_law 422 = .ok (.aload_n 1, 1) := by decide +kernel
theorem dL_law_423 : decode cL_law 423 = .ok (.aload_n 0, 1) := by decide +kernel
theorem dL_law_424 : decode cL_law 424 = .ok (.iload 4, 2) := by decide +kernel
theorem dL_law_426 : decode cL_law 426 = .ok (.iconst 1, 1) := by decide +kernel
theorem dL_law_427 : decode cL_law 427 = .ok (.iadd, 1) := by decide +kernel
theorem dL_law_428 : decode cL_law 428 = .ok (.iaload, 1) := by decide +kernel
theorem dL_law_429 : decode cL_law 429 = .ok (.aload_n 0, 1) := by decide +kernel
theorem dL_law_430 : decode cL_law 430 = .ok (.iload 4, 2) := by decide +kernel
theorem dL_law_432 : decode cL_law 432 = .ok (.iconst 2, 1) := by decide +kernel
theorem dL_law_433 : decode cL_law 433 = .ok (.iadd, 1) := by decide +kernel
theorem dL_law_434 : decode cL_law 434 = .ok (.iaload, 1) := by decide +kernel
theorem dL_law_435 : decode cL_law 435 = .ok (.aload_n 0, 1) := by decide +kernel
theorem dL_law_436 : decode cL_law 436 = .ok (.iload 4, 2) := by decide +kernel
theorem dL_law_438 : decode cL_law 438 = .ok (.iconst 3, 1) := by decide +kernel
theorem dL_law_439 : decode cL_law 439 = .ok (.iadd, 1) := by decide +kernel
theorem dL_law_440 : decode cL_law 440 = .ok (.iaload, 1) := by decide +kernel
theorem dL_law_441 : decode cL_law 441 = .ok (.aload_n 0, 1) := by decide +kernel
theorem dL_law_442 : decode cL_law 442 = .ok (.iload 4, 2) := by decide +kernel
theorem dL_law_444 : decode cL_law 444 = .ok (.iconst 4, 1) := by decide +kernel
theorem dL_law_445 : decode cL_law 445 = .ok (.iadd, 1) := by decide +kernel
theorem dL_law_446 : decode cL_law 446 = .ok (.iaload, 1) := by decide +kernel
theorem dL_law_447 : decode cL_law 447 = .ok (.aload_n 0, 1) := by decide +kernel
theorem dL_law_448 : decode cL_law 448 = .ok (.iload 4, 2) := by decide +kernel
theorem dL_law_450 : decode cL_law 450 = .ok (.iconst 5, 1) := by decide +kernel
theorem dL_law_451 : decode cL_law 451 = .ok (.iadd, 1) := by decide +kernel
theorem dL_law_452 : decode cL_law 452 = .ok (.iaload, 1) := by decide +kernel
theorem dL_law_453 : decode cL_law 453 = .ok (.invokevirtual 46, 3) := by decide +kernel
theorem dL_law_456 : decode cL_law 456 = .ok (.aload_n 2, 1) := by decide +kernel
theorem dL_law_457 : decode cL_law 457 = .ok (.aload_n 0, 1) := by decide +kernel
theorem dL_law_458 : decode cL_law 458 = .ok (.iload 4, 2) := by decide +kernel
theorem dL_law_460 : decode cL_law 460 = .ok (.iconst 1, 1) := by decide +kernel
theorem dL_law_461 : decode cL_law 461 = .ok (.iadd, 1) := by decide +kernel
theorem dL_law_462 : decode cL_law 462 = .ok (.iaload, 1) := by decide +kernel
theorem dL_law_463 : decode cL_law 463 = .ok (.aload_n 0, 1) := by decide +kernel
theorem dL_law_464 : decode cL_law 464 = .ok (.iload 4, 2) := by decide +kernel
theorem dL_law_466 : decode cL_law 466 = .ok (.iconst 2, 1) := by decide +kernel
theorem dL_law_467 : decode cL_law 467 = .ok (.iadd, 1) := by decide +kernel
theorem dL_law_468 : decode cL_law 468 = .ok (.iaload, 1) := by decide +kernel
theorem dL_law_469 : decode cL_law 469 = .ok (.aload_n 0, 1) := by decide +kernel
theorem dL_law_470 : decode cL_law 470 = .ok (.iload 4, 2) := by decide +kernel
theorem dL_law_472 : decode cL_law 472 = .ok (.iconst 3, 1) := by decide +kernel
theorem dL_law_473 : decode cL_law 473 = .ok (.iadd, 1) := by decide +kernel
theorem dL_law_474 : decode cL_law 474 = .ok (.iaload, 1) := by decide +kernel
theorem dL_law_475 : decode cL_law 475 = .ok (.aload_n 0, 1) := by decide +kernel
theorem dL_law_476 : decode cL_law 476 = .ok (.iload 4, 2) := by decide +kernel
theorem dL_law_478 : decode cL_law 478 = .ok (.iconst 4, 1) := by decide +kernel
theorem dL_law_479 : decode cL_law 479 = .ok (.iadd, 1) := by decide +kernel
theorem dL_law_480 : decode cL_law 480 = .ok (.iaload, 1) := by decide +kernel
theorem dL_law_481 : decode cL_law 481 = .ok (.aload_n 0, 1) := by decide +kernel
theorem dL_law_482 : decode cL_law 482 = .ok (.iload 4, 2) := by decide +kernel
theorem dL_law_484 : decode cL_law 484 = .ok (.iconst 5, 1) := by decide +kernel
theorem dL_law_485 : decode cL_law 485 = .ok (.iadd, 1) := by decide +kernel
theorem dL_law_486 : decode cL_law 486 = .ok (.iaload, 1) := by decide +kernel
theorem dL_law_487 : decode cL_law 487 = .ok (.invokevirtual 49, 3) := by decide +kernel
theorem dL_law_490 : decode cL_law 490 = .ok (.if_icmp .eq 919, 3) := by decide +kernel
theorem dL_law_493 : decode cL_law 493 = .ok (.iconst 0, 1) := by decide +kernel
theorem dL_law_494 : decode cL_law 494 = .ok (.ireturn, 1) := by decide +kernel
theorem dL_law_495 : decode cL_law 495 = .ok (.aload_n 1, 1) := by decide +kernel
theorem dL_law_496 : decode cL_law 496 = .ok (.aload_n 0, 1) := by decide +kernel
theorem dL_law_497 : decode cL_law 497 = .ok (.iload 4, 2) := by decide +kernel
theorem dL_law_499 : decode cL_law 499 = .ok (.iconst 1, 1) := by decide +kernel
theorem dL_law_500 : decode cL_law 500 = .ok (.iadd, 1) := by decide +kernel
theorem dL_law_501 : decode cL_law 501 = .ok (.iaload, 1) := by decide +kernel
theorem dL_law_502 : decode cL_law 502 = .ok (.aload_n 0, 1) := by decide +kernel
theorem dL_law_503 : decode cL_law 503 = .ok (.iload 4, 2) := by decide +kernel
theorem dL_law_505 : decode cL_law 505 = .ok (.iconst 2, 1) := by decide +kernel
theorem dL_law_506 : decode cL_law 506 = .ok (.iadd, 1) := by decide +kernel
theorem dL_law_507 : decode cL_law 507 = .ok (.iaload, 1) := by decide +kernel
theorem dL_law_508 : decode cL_law 508 = .ok (.aload_n 0, 1) := by decide +kernel
theorem dL_law_509 : decode cL_law 509 = .ok (.iload 4, 2) := by decide +kernel
theorem dL_law_511 : decode cL_law 511 = .ok (.iconst 3, 1) := by decide +kernel
theorem dL_law_512 : decode cL_law 512 = .ok (.iadd, 1) := by decide +kernel
theorem dL_law_513 : decode cL_law 513 = .ok (.iaload, 1) := by decide +kernel
theorem dL_law_514 : decode cL_law 514 = .ok (.aload_n 0, 1) := by decide +kernel
theorem dL_law_515 : decode cL_law 515 = .ok (.iload 4, 2) := by decide +kernel
theorem dL_law_517 : decode cL_law 517 = .ok (.iconst 4, 1) := by decide +kernel
theorem dL_law_518 : decode cL_law 518 = .ok (.iadd, 1) := by decide +kernel
theorem dL_law_519 : decode cL_law 519 = .ok (.iaload, 1) := by decide +kernel
theorem dL_law_520 : decode cL_law 520 = .ok (.aload_n 0, 1) := by decide +kernel
theorem dL_law_521 : decode cL_law 521 = .ok (.iload 4, 2) := by decide +kernel
theorem dL_law_523 : decode cL_law 523 = .ok (.iconst 5, 1) := by decide +kernel
theorem dL_law_524 : decode cL_law 524 = .ok (.iadd, 1) := by decide +kernel
theorem dL_law_525 : decode cL_law 525 = .ok (.iaload, 1) := by decide +kernel
theorem dL_law_526 : decode cL_law 526 = .ok (.ifCond .eq 7, 3) := by decide +kernel
theorem dL_law_529 : decode cL_law 529 = .ok (.iconst 1, 1) := by decide +kernel
theorem dL_law_530 : decode cL_law 530 = .ok (.goto 4, 3) := by decide +kernel
theorem dL_law_533 : decode cL_law 533 = .ok (.iconst 0, 1) := by decide +kernel
theorem dL_law_534 : decode cL_law 534 = .ok (.invokevirtual 50, 3) := by decide +kernel
theorem dL_law_537 : decode cL_law 537 = .ok (.aload_n 2, 1) := by decide +kernel
theorem dL_law_538 : decode cL_law 538 = .ok (.aload_n 0, 1) := by decide +kernel
theorem dL_law_539 : decode cL_law 539 = .ok (.iload 4, 2) := by decide +kernel
theorem dL_law_541 : decode cL_law 541 = .ok (.iconst 1, 1) := by decide +kernel
theorem dL_law_542 : decode cL_law 542 = .ok (.iadd, 1) := by decide +kernel
theorem dL_law_543 : decode cL_law 543 = .ok (.iaload, 1) := by decide +kernel
theorem dL_law_544 : decode cL_law 544 = .ok (.aload_n 0, 1) := by decide +kernel
theorem dL_law_545 : decode cL_law 545 = .ok (.iload 4, 2) := by decide +kernel
theorem dL_law_547 : decode cL_law 547 = .ok (.iconst 2, 1) := by decide +kernel
theorem dL_law_548 : decode cL_law 548 = .ok (.iadd, 1) := by decide +kernel
theorem dL_law_549 : decode cL_law 549 = .ok (.iaload, 1) := by decide +kernel
theorem dL_law_550 : decode cL_law 550 = .ok (.aload_n 0, 1) := by decide +kernel
theorem dL_law_551 : decode cL_law 551 = .ok (.iload 4, 2) := by decide +kernel
theorem dL_law_553 : decode cL_law 553 = .ok (.iconst 3, 1) := by decide +kernel
theorem dL_law_554 : decode cL_law 554 = .ok (.iadd, 1) := by decide +kernel
theorem dL_law_555 : decode cL_law 555 = .ok (.iaload, 1) := by decide +kernel
theorem dL_law_556 : decode cL_law 556 = .ok (.aload_n 0, 1) := by decide +kernel
theorem dL_law_557 : decode cL_law 557 = .ok (.iload 4, 2) := by decide +kernel
theorem dL_law_559 : decode cL_law 559 = .ok (.iconst 4, 1) := by decide +kernel
theorem dL_law_560 : decode cL_law 560 = .ok (.iadd, 1) := by decide +kernel
theorem dL_law_561 : decode cL_law 561 = .ok (.iaload, 1) := by decide +kernel
theorem dL_law_562 : decode cL_law 562 = .ok (.aload_n 0, 1) := by decide +kernel
theorem dL_law_563 : decode cL_law 563 = .ok (.iload 4, 2) := by decide +kernel
theorem dL_law_565 : decode cL_law 565 = .ok (.iconst 5, 1) := by decide +kernel
theorem dL_law_566 : decode cL_law 566 = .ok (.iadd, 1) := by decide +kernel
theorem dL_law_567 : decode cL_law 567 = .ok (.iaload, 1) := by decide +kernel
theorem dL_law_568 : decode cL_law 568 = .ok (.ifCond .eq 7, 3) := by decide +kernel
theorem dL_law_571 : decode cL_law 571 = .ok (.iconst 1, 1) := by decide +kernel
theorem dL_law_572 : decode cL_law 572 = .ok (.goto 4, 3) := by decide +kernel
theorem dL_law_575 : decode cL_law 575 = .ok (.iconst 0, 1) := by decide +kernel
theorem dL_law_576 : decode cL_law 576 = .ok (.invokevirtual 54, 3) := by decide +kernel
theorem dL_law_579 : decode cL_law 579 = .ok (.if_icmp .eq 830, 3) := by decide +kernel
theorem dL_law_582 : decode cL_law 582 = .ok (.iconst 0, 1) := by decide +kernel
theorem dL_law_583 : decode cL_law 583 = .ok (.ireturn, 1) := by decide +kernel
theorem dL_law_584 : decode cL_law 584 = .ok (.aload_n 1, 1) := by decide +kernel
theorem dL_law_585 : decode cL_law 585 = .ok (.aload_n 0, 1) := by decide +kernel
theorem dL_law_586 : decode cL_law 586 = .ok (.iload 4, 2) := by decide +kernel
theorem dL_law_588 : decode cL_law 588 = .ok (.iconst 1, 1) := by decide +kernel
theorem dL_law_589 : decode cL_law 589 = .ok (.iadd, 1) := by decide +kernel
theorem dL_law_590 : decode cL_law 590 = .ok (.iaload, 1) := by decide +kernel
theorem dL_law_591 : decode cL_law 591 = .ok (.aload_n 0, 1) := by decide +kernel
theorem dL_law_592 : decode cL_law 592 = .ok (.iload 4, 2) := by decide +kernel
theorem dL_law_594 : decode cL_law 594 = .ok (.iconst 2, 1) := by decide +kernel
theorem dL_law_595 : decode cL_law 595 = .ok (.iadd, 1) := by decide +kernel
theorem dL_law_596 : decode cL_law 596 = .ok (.iaload, 1) := by decide +kernel
theorem dL_law_597 : decode cL_law 597 = .ok (.aload_n 0, 1) := by decide +kernel
theorem dL_law_598 : decode cL_law 598 = .ok (.iload 4, 2) := by decide +kernel
theorem dL_law_600 : decode cL_law 600 = .ok (.iconst 3, 1) := by decide +kernel
theorem dL_law_601 : decode cL_law 601 = .ok (.iadd, 1) := by decide +kernel
theorem dL_law_602 : decode cL_law 602 = .ok (.iaload, 1) := by decide +kernel
theorem dL_law_603 : decode cL_law 603 = .ok (.invokevirtual 55, 3) := by decide +kernel
theorem dL_law_606 : decode cL_law 606 = .ok (.aload_n 2, 1) := by decide +kernel
theorem dL_law_607 : decode cL_law 607 = .ok (.aload_n 0, 1) := by decide +kernel
theorem dL_law_608 : decode cL_law 608 = .ok (.iload 4, 2) := by decide +kernel
theorem dL_law_610 : decode cL_law 610 = .ok (.iconst 1, 1) := by decide +kernel
theorem dL_law_611 : decode cL_law 611 = .ok (.iadd, 1) := by decide +kernel
theorem dL_law_612 : decode cL_law 612 = .ok (.iaload, 1) := by decide +kernel
theorem dL_law_613 : decode cL_law 613 = .ok (.aload_n 0, 1) := by decide +kernel
theorem dL_law_614 : decode cL_law 614 = .ok (.iload 4, 2) := by decide +kernel
theorem dL_law_616 : decode cL_law 616 = .ok (.iconst 2, 1) := by decide +kernel
theorem dL_law_617 : decode cL_law 617 = .ok (.iadd, 1) := by decide +kernel
theorem dL_law_618 : decode cL_law 618 = .ok (.iaload, 1) := by decide +kernel
theorem dL_law_619 : decode cL_law 619 = .ok (.aload_n 0, 1) := by decide +kernel
theorem dL_law_620 : decode cL_law 620 = .ok (.iload 4, 2) := by decide +kernel
theorem dL_law_622 : decode cL_law 622 = .ok (.iconst 3, 1) := by decide +kernel
theorem dL_law_623 : decode cL_law 623 = .ok (.iadd, 1) := by decide +kernel
theorem dL_law_624 : decode cL_law 624 = .ok (.iaload, 1) := by decide +kernel
theorem dL_law_625 : decode cL_law 625 = .ok (.invokevirtual 59, 3) := by decide +kernel
theorem dL_law_628 : decode cL_law 628 = .ok (.if_icmp .eq 781, 3) := by decide +kernel
theorem dL_law_631 : decode cL_law 631 = .ok (.iconst 0, 1) := by decide +kernel
theorem dL_law_632 : decode cL_law 632 = .ok (.ireturn, 1) := by decide +kernel
theorem dL_law_633 : decode cL_law 633 = .ok (.aload_n 1, 1) := by decide +kernel
theorem dL_law_634 : decode cL_law 634 = .ok (.aload_n 0, 1) := by decide +kernel
theorem dL_law_635 : decode cL_law 635 = .ok (.iload 4, 2) := by decide +kernel
theorem dL_law_637 : decode cL_law 637 = .ok (.iconst 1, 1) := by decide +kernel
theorem dL_law_638 : decode cL_law 638 = .ok (.iadd, 1) := by decide +kernel
theorem dL_law_639 : decode cL_law 639 = .ok (.iaload, 1) := by decide +kernel
theorem dL_law_640 : decode cL_law 640 = .ok (.aload_n 0, 1) := by decide +kernel
theorem dL_law_641 : decode cL_law 641 = .ok (.iload 4, 2) := by decide +kernel
theorem dL_law_643 : decode cL_law 643 = .ok (.iconst 2, 1) := by decide +kernel
theorem dL_law_644 : decode cL_law 644 = .ok (.iadd, 1) := by decide +kernel
theorem dL_law_645 : decode cL_law 645 = .ok (.iaload, 1) := by decide +kernel
theorem dL_law_646 : decode cL_law 646 = .ok (.aload_n 0, 1) := by decide +kernel
theorem dL_law_647 : decode cL_law 647 = .ok (.iload 4, 2) := by decide +kernel
theorem dL_law_649 : decode cL_law 649 = .ok (.iconst 3, 1) := by decide +kernel
theorem dL_law_650 : decode cL_law 650 = .ok (.iadd, 1) := by decide +kernel
theorem dL_law_651 : decode cL_law 651 = .ok (.iaload, 1) := by decide +kernel
theorem dL_law_652 : decode cL_law 652 = .ok (.aload_n 0, 1) := by decide +kernel
theorem dL_law_653 : decode cL_law 653 = .ok (.iload 4, 2) := by decide +kernel
theorem dL_law_655 : decode cL_law 655 = .ok (.iconst 4, 1) := by decide +kernel
theorem dL_law_656 : decode cL_law 656 = .ok (.iadd, 1) := by decide +kernel
theorem dL_law_657 : decode cL_law 657 = .ok (.iaload, 1) := by decide +kernel
theorem dL_law_658 : decode cL_law 658 = .ok (.invokevirtual 60, 3) := by decide +kernel
theorem dL_law_661 : decode cL_law 661 = .ok (.aload_n 2, 1) := by decide +kernel
theorem dL_law_662 : decode cL_law 662 = .ok (.aload_n 0, 1) := by decide +kernel
theorem dL_law_663 : decode cL_law 663 = .ok (.iload 4, 2) := by decide +kernel
theorem dL_law_665 : decode cL_law 665 = .ok (.iconst 1, 1) := by decide +kernel
theorem dL_law_666 : decode cL_law 666 = .ok (.iadd, 1) := by decide +kernel
theorem dL_law_667 : decode cL_law 667 = .ok (.iaload, 1) := by decide +kernel
theorem dL_law_668 : decode cL_law 668 = .ok (.aload_n 0, 1) := by decide +kernel
theorem dL_law_669 : decode cL_law 669 = .ok (.iload 4, 2) := by decide +kernel
theorem dL_law_671 : decode cL_law 671 = .ok (.iconst 2, 1) := by decide +kernel
theorem dL_law_672 : decode cL_law 672 = .ok (.iadd, 1) := by decide +kernel
theorem dL_law_673 : decode cL_law 673 = .ok (.iaload, 1) := by decide +kernel
theorem dL_law_674 : decode cL_law 674 = .ok (.aload_n 0, 1) := by decide +kernel
theorem dL_law_675 : decode cL_law 675 = .ok (.iload 4, 2) := by decide +kernel
theorem dL_law_677 : decode cL_law 677 = .ok (.iconst 3, 1) := by decide +kernel
theorem dL_law_678 : decode cL_law 678 = .ok (.iadd, 1) := by decide +kernel
theorem dL_law_679 : decode cL_law 679 = .ok (.iaload, 1) := by decide +kernel
theorem dL_law_680 : decode cL_law 680 = .ok (.aload_n 0, 1) := by decide +kernel
theorem dL_law_681 : decode cL_law 681 = .ok (.iload 4, 2) := by decide +kernel
theorem dL_law_683 : decode cL_law 683 = .ok (.iconst 4, 1) := by decide +kernel
theorem dL_law_684 : decode cL_law 684 = .ok (.iadd, 1) := by decide +kernel
theorem dL_law_685 : decode cL_law 685 = .ok (.iaload, 1) := by decide +kernel
theorem dL_law_686 : decode cL_law 686 = .ok (.invokevirtual 63, 3) := by decide +kernel
theorem dL_law_689 : decode cL_law 689 = .ok (.if_icmp .eq 720, 3) := by decide +kernel
theorem dL_law_692 : decode cL_law 692 = .ok (.iconst 0, 1) := by decide +kernel
theorem dL_law_693 : decode cL_law 693 = .ok (.ireturn, 1) := by decide +kernel
theorem dL_law_694 : decode cL_law 694 = .ok (.aload_n 1, 1) := by decide +kernel
theorem dL_law_695 : decode cL_law 695 = .ok (.aload_n 0, 1) := by decide +kernel
theorem dL_law_696 : decode cL_law 696 = .ok (.iload 4, 2) := by decide +kernel
theorem dL_law_698 : decode cL_law 698 = .ok (.iconst 1, 1) := by decide +kernel
theorem dL_law_699 : decode cL_law 699 = .ok (.iadd, 1) := by decide +kernel
theorem dL_law_700 : decode cL_law 700 = .ok (.iaload, 1) := by decide +kernel
theorem dL_law_701 : decode cL_law 701 = .ok (.aload_n 0, 1) := by decide +kernel
theorem dL_law_702 : decode cL_law 702 = .ok (.iload 4, 2) := by decide +kernel
theorem dL_law_704 : decode cL_law 704 = .ok (.iconst 2, 1) := by decide +kernel
theorem dL_law_705 : decode cL_law 705 = .ok (.iadd, 1) := by decide +kernel
theorem dL_law_706 : decode cL_law 706 = .ok (.iaload, 1) := by decide +kernel
theorem dL_law_707 : decode cL_law 707 = .ok (.aload_n 0, 1) := by decide +kernel
theorem dL_law_708 : decode cL_law 708 = .ok (.iload 4, 2) := by decide +kernel
theorem dL_law_710 : decode cL_law 710 = .ok (.iconst 3, 1) := by decide +kernel
theorem dL_law_711 : decode cL_law 711 = .ok (.iadd, 1) := by decide +kernel
theorem dL_law_712 : decode cL_law 712 = .ok (.iaload, 1) := by decide +kernel
theorem dL_law_713 : decode cL_law 713 = .ok (.invokevirtual 64, 3) := by decide +kernel
theorem dL_law_716 : decode cL_law 716 = .ok (.aload_n 2, 1) := by decide +kernel
theorem dL_law_717 : decode cL_law 717 = .ok (.aload_n 0, 1) := by decide +kernel
theorem dL_law_718 : decode cL_law 718 = .ok (.iload 4, 2) := by decide +kernel
theorem dL_law_720 : decode cL_law 720 = .ok (.iconst 1, 1) := by decide +kernel
theorem dL_law_721 : decode cL_law 721 = .ok (.iadd, 1) := by decide +kernel
theorem dL_law_722 : decode cL_law 722 = .ok (.iaload, 1) := by decide +kernel
theorem dL_law_723 : decode cL_law 723 = .ok (.aload_n 0, 1) := by decide +kernel
theorem dL_law_724 : decode cL_law 724 = .ok (.iload 4, 2) := by decide +kernel
theorem dL_law_726 : decode cL_law 726 = .ok (.iconst 2, 1) := by decide +kernel
theorem dL_law_727 : decode cL_law 727 = .ok (.iadd, 1) := by decide +kernel
theorem dL_law_728 : decode cL_law 728 = .ok (.iaload, 1) := by decide +kernel
theorem dL_law_729 : decode cL_law 729 = .ok (.aload_n 0, 1) := by decide +kernel
theorem dL_law_730 : decode cL_law 730 = .ok (.iload 4, 2) := by decide +kernel
theorem dL_law_732 : decode cL_law 732 = .ok (.iconst 3, 1) := by decide +kernel
theorem dL_law_733 : decode cL_law 733 = .ok (.iadd, 1) := by decide +kernel
theorem dL_law_734 : decode cL_law 734 = .ok (.iaload, 1) := by decide +kernel
theorem dL_law_735 : decode cL_law 735 = .ok (.invokevirtual 67, 3) := by decide +kernel
theorem dL_law_738 : decode cL_law 738 = .ok (.if_icmp .eq 671, 3) := by decide +kernel
theorem dL_law_741 : decode cL_law 741 = .ok (.iconst 0, 1) := by decide +kernel
theorem dL_law_742 : decode cL_law 742 = .ok (.ireturn, 1) := by decide +kernel
theorem dL_law_743 : decode cL_law 743 = .ok (.aload_n 1, 1) := by decide +kernel
theorem dL_law_744 : decode cL_law 744 = .ok (.aload_n 0, 1) := by decide +kernel
theorem dL_law_745 : decode cL_law 745 = .ok (.iload 4, 2) := by decide +kernel
theorem dL_law_747 : decode cL_law 747 = .ok (.iconst 1, 1) := by decide +kernel
theorem dL_law_748 : decode cL_law 748 = .ok (.iadd, 1) := by decide +kernel
theorem dL_law_749 : decode cL_law 749 = .ok (.iaload, 1) := by decide +kernel
theorem dL_law_750 : decode cL_law 750 = .ok (.aload_n 0, 1) := by decide +kernel
theorem dL_law_751 : decode cL_law 751 = .ok (.iload 4, 2) := by decide +kernel
theorem dL_law_753 : decode cL_law 753 = .ok (.iconst 2, 1) := by decide +kernel
theorem dL_law_754 : decode cL_law 754 = .ok (.iadd, 1) := by decide +kernel
theorem dL_law_755 : decode cL_law 755 = .ok (.iaload, 1) := by decide +kernel
theorem dL_law_756 : decode cL_law 756 = .ok (.invokevirtual 68, 3) := by decide +kernel
theorem dL_law_759 : decode cL_law 759 = .ok (.aload_n 2, 1) := by decide +kernel
theorem dL_law_760 : decode cL_law 760 = .ok (.aload_n 0, 1) := by decide +kernel
theorem dL_law_761 : decode cL_law 761 = .ok (.iload 4, 2) := by decide +kernel
theorem dL_law_763 : decode cL_law 763 = .ok (.iconst 1, 1) := by decide +kernel
theorem dL_law_764 : decode cL_law 764 = .ok (.iadd, 1) := by decide +kernel
theorem dL_law_765 : decode cL_law 765 = .ok (.iaload, 1) := by decide +kernel
theorem dL_law_766 : decode cL_law 766 = .ok (.aload_n 0, 1) := by decide +kernel
theorem dL_law_767 : decode cL_law 767 = .ok (.iload 4, 2) := by decide +kernel
theorem dL_law_769 : decode cL_law 769 = .ok (.iconst 2, 1) := by decide +kernel
theorem dL_law_770 : decode cL_law 770 = .ok (.iadd, 1) := by decide +kernel
theorem dL_law_771 : decode cL_law 771 = .ok (.iaload, 1) := by decide +kernel
theorem dL_law_772 : decode cL_law 772 = .ok (.invokevirtual 72, 3) := by decide +kernel
theorem dL_law_775 : decode cL_law 775 = .ok (.if_icmp .eq 634, 3) := by decide +kernel
theorem dL_law_778 : decode cL_law 778 = .ok (.iconst 0, 1) := by decide +kernel
theorem dL_law_779 : decode cL_law 779 = .ok (.ireturn, 1) := by decide +kernel
theorem dL_law_780 : decode cL_law 780 = .ok (.aload_n 1, 1) := by decide +kernel
theorem dL_law_781 : decode cL_law 781 = .ok (.aload_n 0, 1) := by decide +kernel
theorem dL_law_782 : decode cL_law 782 = .ok (.iload 4, 2) := by decide +kernel
theorem dL_law_784 : decode cL_law 784 = .ok (.iconst 1, 1) := by decide +kernel
theorem dL_law_785 : decode cL_law 785 = .ok (.iadd, 1) := by decide +kernel
theorem dL_law_786 : decode cL_law 786 = .ok (.iaload, 1) := by decide +kernel
theorem dL_law_787 : decode cL_law 787 = .ok (.invokevirtual 73, 3) := by decide +kernel
theorem dL_law_790 : decode cL_law 790 = .ok (.aload_n 2, 1) := by decide +kernel
theorem dL_law_791 : decode cL_law 791 = .ok (.aload_n 0, 1) := by decide +kernel
theorem dL_law_792 : decode cL_law 792 = .ok (.iload 4, 2) := by decide +kernel
theorem dL_law_794 : decode cL_law 794 = .ok (.iconst 1, 1) := by decide +kernel
theorem dL_law_795 : decode cL_law 795 = .ok (.iadd, 1) := by decide +kernel
theorem dL_law_796 : decode cL_law 796 = .ok (.iaload, 1) := by decide +kernel
theorem dL_law_797 : decode cL_law 797 = .ok (.invokevirtual 76, 3) := by decide +kernel
theorem dL_law_800 : decode cL_law 800 = .ok (.if_icmp .eq 609, 3) := by decide +kernel
theorem dL_law_803 : decode cL_law 803 = .ok (.iconst 0, 1) := by decide +kernel
theorem dL_law_804 : decode cL_law 804 = .ok (.ireturn, 1) := by decide +kernel
theorem dL_law_805 : decode cL_law 805 = .ok (.aload_n 1, 1) := by decide +kernel
theorem dL_law_806 : decode cL_law 806 = .ok (.invokevirtual 77, 3) := by decide +kernel
theorem dL_law_809 : decode cL_law 809 = .ok (.aload_n 2, 1) := by decide +kernel
theorem dL_law_810 : decode cL_law 810 = .ok (.invokevirtual 80, 3) := by decide +kernel
theorem dL_law_813 : decode cL_law 813 = .ok (.if_icmp .eq 596, 3) := by decide +kernel
theorem dL_law_816 : decode cL_law 816 = .ok (.iconst 0, 1) := by decide +kernel
theorem dL_law_817 : decode cL_law 817 = .ok (.ireturn, 1) := by decide +kernel
theorem dL_law_818 : decode cL_law 818 = .ok (.aload_n 1, 1) := by decide +kernel
theorem dL_law_819 : decode cL_law 819 = .ok (.aload_n 0, 1) := by decide +kernel
theorem dL_law_820 : decode cL_law 820 = .ok (.iload 4, 2) := by decide +kernel
theorem dL_law_822 : decode cL_law 822 = .ok (.iconst 1, 1) := by decide +kernel
theorem dL_law_823 : decode cL_law 823 = .ok (.iadd, 1) := by decide +kernel
theorem dL_law_824 : decode cL_law 824 = .ok (.iaload, 1) := by decide +kernel
theorem dL_law_825 : decode cL_law 825 = .ok (.aload_n 0, 1) := by decide +kernel
theorem dL_law_826 : decode cL_law 826 = .ok (.iload 4, 2) := by decide +kernel
theorem dL_law_828 : decode cL_law 828 = .ok (.iconst 2, 1) := by decide +kernel
theorem dL_law_829 : decode cL_law 829 = .ok (.iadd, 1) := by decide +kernel
theorem dL_law_830 : decode cL_law 830 = .ok (.iaload, 1) := by decide +kernel
theorem dL_law_831 : decode cL_law 831 = .ok (.invokevirtual 81, 3) := by decide +kernel
theorem dL_law_834 : decode cL_law 834 = .ok (.aload_n 2, 1) := by decide +kernel
theorem dL_law_835 : decode cL_law 835 = .ok (.aload_n 0, 1) := by decide +kernel
theorem dL_law_836 : decode cL_law 836 = .ok (.iload 4, 2) := by decide +kernel
theorem dL_law_838 : decode cL_law 838 = .ok (.iconst 1, 1) := by decide +kernel
theorem dL_law_839 : decode cL_law 839 = .ok (.iadd, 1) := by decide +kernel
theorem dL_law_840 : decode cL_law 840 = .ok (.iaload, 1) := by decide +kernel
theorem dL_law_841 : decode cL_law 841 = .ok (.aload_n 0, 1) := by decide +kernel
theorem dL_law_842 : decode cL_law 842 = .ok (.iload 4, 2) := by decide +kernel
theorem dL_law_844 : decode cL_law 844 = .ok (.iconst 2, 1) := by decide +kernel
theorem dL_law_845 : decode cL_law 845 = .ok (.iadd, 1) := by decide +kernel
theorem dL_law_846 : decode cL_law 846 = .ok (.iaload, 1) := by decide +kernel
theorem dL_law_847 : decode cL_law 847 = .ok (.invokevirtual 84, 3) := by decide +kernel
theorem dL_law_850 : decode cL_law 850 = .ok (.if_icmp .eq 559, 3) := by decide +kernel
theorem dL_law_853 : decode cL_law 853 = .ok (.iconst 0, 1) := by decide +kernel
theorem dL_law_854 : decode cL_law 854 = .ok (.ireturn, 1) := by decide +kernel
theorem dL_law_855 : decode cL_law 855 = .ok (.aload_n 1, 1) := by decide +kernel
theorem dL_law_856 : decode cL_law 856 = .ok (.aload_n 0, 1) := by decide +kernel
theorem dL_law_857 : decode cL_law 857 = .ok (.iload 4, 2) := by decide +kernel
theorem dL_law_859 : decode cL_law 859 = .ok (.iconst 1, 1) := by decide +kernel
theorem dL_law_860 : decode cL_law 860 = .ok (.iadd, 1) := by decide +kernel
theorem dL_law_861 : decode cL_law 861 = .ok (.iaload, 1) := by decide +kernel
theorem dL_law_862 : decode cL_law 862 = .ok (.aload_n 0, 1) := by decide +kernel
theorem dL_law_863 : decode cL_law 863 = .ok (.iload 4, 2) := by decide +kernel
theorem dL_law_865 : decode cL_law 865 = .ok (.iconst 2, 1) := by decide +kernel
theorem dL_law_866 : decode cL_law 866 = .ok (.iadd, 1) := by decide +kernel
theorem dL_law_867 : decode cL_law 867 = .ok (.iaload, 1) := by decide +kernel
theorem dL_law_868 : decode cL_law 868 = .ok (.aload_n 0, 1) := by decide +kernel
theorem dL_law_869 : decode cL_law 869 = .ok (.iload 4, 2) := by decide +kernel
theorem dL_law_871 : decode cL_law 871 = .ok (.iconst 3, 1) := by decide +kernel
theorem dL_law_872 : decode cL_law 872 = .ok (.iadd, 1) := by decide +kernel
theorem dL_law_873 : decode cL_law 873 = .ok (.iaload, 1) := by decide +kernel
theorem dL_law_874 : decode cL_law 874 = .ok (.invokevirtual 85, 3) := by decide +kernel
theorem dL_law_877 : decode cL_law 877 = .ok (.aload_n 2, 1) := by decide +kernel
theorem dL_law_878 : decode cL_law 878 = .ok (.aload_n 0, 1) := by decide +kernel
theorem dL_law_879 : decode cL_law 879 = .ok (.iload 4, 2) := by decide +kernel
theorem dL_law_881 : decode cL_law 881 = .ok (.iconst 1, 1) := by decide +kernel
theorem dL_law_882 : decode cL_law 882 = .ok (.iadd, 1) := by decide +kernel
theorem dL_law_883 : decode cL_law 883 = .ok (.iaload, 1) := by decide +kernel
theorem dL_law_884 : decode cL_law 884 = .ok (.aload_n 0, 1) := by decide +kernel
theorem dL_law_885 : decode cL_law 885 = .ok (.iload 4, 2) := by decide +kernel
theorem dL_law_887 : decode cL_law 887 = .ok (.iconst 2, 1) := by decide +kernel
theorem dL_law_888 : decode cL_law 888 = .ok (.iadd, 1) := by decide +kernel
theorem dL_law_889 : decode cL_law 889 = .ok (.iaload, 1) := by decide +kernel
theorem dL_law_890 : decode cL_law 890 = .ok (.aload_n 0, 1) := by decide +kernel
theorem dL_law_891 : decode cL_law 891 = .ok (.iload 4, 2) := by decide +kernel
theorem dL_law_893 : decode cL_law 893 = .ok (.iconst 3, 1) := by decide +kernel
theorem dL_law_894 : decode cL_law 894 = .ok (.iadd, 1) := by decide +kernel
theorem dL_law_895 : decode cL_law 895 = .ok (.iaload, 1) := by decide +kernel
theorem dL_law_896 : decode cL_law 896 = .ok (.invokevirtual 88, 3) := by decide +kernel
theorem dL_law_899 : decode cL_law 899 = .ok (.if_icmp .eq 510, 3) := by decide +kernel
theorem dL_law_902 : decode cL_law 902 = .ok (.iconst 0, 1) := by decide +kernel
theorem dL_law_903 : decode cL_law 903 = .ok (.ireturn, 1) := by decide +kernel
theorem dL_law_904 : decode cL_law 904 = .ok (.aload_n 1, 1) := by decide +kernel
theorem dL_law_905 : decode cL_law 905 = .ok (.aload_n 0, 1) := by decide +kernel
theorem dL_law_906 : decode cL_law 906 = .ok (.iload 4, 2) := by decide +kernel
theorem dL_law_908 : decode cL_law 908 = .ok (.iconst 1, 1) := by decide +kernel
theorem dL_law_909 : decode cL_law 909 = .ok (.iadd, 1) := by decide +kernel
theorem dL_law_910 : decode cL_law 910 = .ok (.iaload, 1) := by decide +kernel
theorem dL_law_911 : decode cL_law 911 = .ok (.invokevirtual 89, 3) := by decide +kernel
theorem dL_law_914 : decode cL_law 914 = .ok (.aload_n 2, 1) := by decide +kernel
theorem dL_law_915 : decode cL_law 915 = .ok (.aload_n 0, 1) := by decide +kernel
theorem dL_law_916 : decode cL_law 916 = .ok (.iload 4, 2) := by decide +kernel
theorem dL_law_918 : decode cL_law 918 = .ok (.iconst 1, 1) := by decide +kernel
theorem dL_law_919 : decode cL_law 919 = .ok (.iadd, 1) := by decide +kernel
theorem dL_law_920 : decode cL_law 920 = .ok (.iaload, 1) := by decide +kernel
theorem dL_law_921 : decode cL_law 921 = .ok (.invokevirtual 92, 3) := by decide +kernel
theorem dL_law_924 : decode cL_law 924 = .ok (.if_icmp .eq 485, 3) := by decide +kernel
theorem dL_law_927 : decode cL_law 927 = .ok (.iconst 0, 1) := by decide +kernel
theorem dL_law_928 : decode cL_law 928 = .ok (.ireturn, 1) := by decide +kernel
theorem dL_law_929 : decode cL_law 929 = .ok (.aload_n 1, 1) := by decide +kernel
theorem dL_law_930 : decode cL_law 930 = .ok (.aload_n 0, 1) := by decide +kernel
theorem dL_law_931 : decode cL_law 931 = .ok (.iload 4, 2) := by decide +kernel
theorem dL_law_933 : decode cL_law 933 = .ok (.iconst 1, 1) := by decide +kernel
theorem dL_law_934 : decode cL_law 934 = .ok (.iadd, 1) := by decide +kernel
theorem dL_law_935 : decode cL_law 935 = .ok (.iaload, 1) := by decide +kernel
theorem dL_law_936 : decode cL_law 936 = .ok (.aload_n 0, 1) := by decide +kernel
theorem dL_law_937 : decode cL_law 937 = .ok (.iload 4, 2) := by decide +kernel
theorem dL_law_939 : decode cL_law 939 = .ok (.iconst 2, 1) := by decide +kernel
theorem dL_law_940 : decode cL_law 940 = .ok (.iadd, 1) := by decide +kernel
theorem dL_law_941 : decode cL_law 941 = .ok (.iaload, 1) := by decide +kernel
theorem dL_law_942 : decode cL_law 942 = .ok (.invokevirtual 93, 3) := by decide +kernel
theorem dL_law_945 : decode cL_law 945 = .ok (.aload_n 2, 1) := by decide +kernel
theorem dL_law_946 : decode cL_law 946 = .ok (.aload_n 0, 1) := by decide +kernel
theorem dL_law_947 : decode cL_law 947 = .ok (.iload 4, 2) := by decide +kernel
theorem dL_law_949 : decode cL_law 949 = .ok (.iconst 1, 1) := by decide +kernel
theorem dL_law_950 : decode cL_law 950 = .ok (.iadd, 1) := by decide +kernel
theorem dL_law_951 : decode cL_law 951 = .ok (.iaload, 1) := by decide +kernel
theorem dL_law_952 : decode cL_law 952 = .ok (.aload_n 0, 1) := by decide +kernel
theorem dL_law_953 : decode cL_law 953 = .ok (.iload 4, 2) := by decide +kernel
theorem dL_law_955 : decode cL_law 955 = .ok (.iconst 2, 1) := by decide +kernel
theorem dL_law_956 : decode cL_law 956 = .ok (.iadd, 1) := by decide +kernel
theorem dL_law_957 : decode cL_law 957 = .ok (.iaload, 1) := by decide +kernel
theorem dL_law_958 : decode cL_law 958 = .ok (.invokevirtual 96, 3) := by decide +kernel
theorem dL_law_961 : decode cL_law 961 = .ok (.if_icmp .eq 448, 3) := by decide +kernel
theorem dL_law_964 : decode cL_law 964 = .ok (.iconst 0, 1) := by decide +kernel
theorem dL_law_965 : decode cL_law 965 = .ok (.ireturn, 1) := by decide +kernel
theorem dL_law_966 : decode cL_law 966 = .ok (.aload_n 1, 1) := by decide +kernel
theorem dL_law_967 : decode cL_law 967 = .ok (.aload_n 0, 1) := by decide +kernel
theorem dL_law_968 : decode cL_law 968 = .ok (.iload 4, 2) := by decide +kernel
theorem dL_law_970 : decode cL_law 970 = .ok (.iconst 1, 1) := by decide +kernel
theorem dL_law_971 : decode cL_law 971 = .ok (.iadd, 1) := by decide +kernel
theorem dL_law_972 : decode cL_law 972 = .ok (.iaload, 1) := by decide +kernel
theorem dL_law_973 : decode cL_law 973 = .ok (.invokevirtual 97, 3) := by decide +kernel
theorem dL_law_976 : decode cL_law 976 = .ok (.aload_n 2, 1) := by decide +kernel
theorem dL_law_977 : decode cL_law 977 = .ok (.aload_n 0, 1) := by decide +kernel
theorem dL_law_978 : decode cL_law 978 = .ok (.iload 4, 2) := by decide +kernel
theorem dL_law_980 : decode cL_law 980 = .ok (.iconst 1, 1) := by decide +kernel
theorem dL_law_981 : decode cL_law 981 = .ok (.iadd, 1) := by decide +kernel
theorem dL_law_982 : decode cL_law 982 = .ok (.iaload, 1) := by decide +kernel
theorem dL_law_983 : decode cL_law 983 = .ok (.invokevirtual 100, 3) := by decide +kernel
theorem dL_law_986 : decode cL_law 986 = .ok (.if_icmp .eq 423, 3) := by decide +kernel
theorem dL_law_989 : decode cL_law 989 = .ok (.iconst 0, 1) := by decide +kernel
theorem dL_law_990 : decode cL_law 990 = .ok (.ireturn, 1) := by decide +kernel
theorem dL_law_991 : decode cL_law 991 = .ok (.aload_n 1, 1) := by decide +kernel
theorem dL_law_992 : decode cL_law 992 = .ok (.aload_n 0, 1) := by decide +kernel
theorem dL_law_993 : decode cL_law 993 = .ok (.iload 4, 2) := by decide +kernel
theorem dL_law_995 : decode cL_law 995 = .ok (.iconst 1, 1) := by decide +kernel
theorem dL_law_996 : decode cL_law 996 = .ok (.iadd, 1) := by decide +kernel
theorem dL_law_997 : decode cL_law 997 = .ok (.iaload, 1) := by decide +kernel
theorem dL_law_998 : decode cL_law 998 = .ok (.aload_n 0, 1) := by decide +kernel
theorem dL_law_999 : decode cL_law 999 = .ok (.iload 4, 2) := by decide +kernel
theorem dL_law_1001 : decode cL_law 1001 = .ok (.iconst 2, 1) := by decide +kernel
theorem dL_law_1002 : decode cL_law 1002 = .ok (.iadd, 1) := by decide +kernel
theorem dL_law_1003 : decode cL_law 1003 = .ok (.iaload, 1) := by decide +kernel
theorem dL_law_1004 : decode cL_law 1004 = .ok (.invokevirtual 101, 3) := by decide +kernel
theorem dL_law_1007 : decode cL_law 1007 = .ok (.aload_n 2, 1) := by decide +kernel
theorem dL_law_1008 : decode cL_law 1008 = .ok (.aload_n 0, 1) := by decide +kernel
theorem dL_law_1009 : decode cL_law 1009 = .ok (.iload 4, 2) := by decide +kernel
theorem dL_law_1011 : decode cL_law 1011 = .ok (.iconst 1, 1) := by decide +kernel
theorem dL_law_1012 : decode cL_law 1012 = .ok (.iadd, 1) := by decide +kernel
theorem dL_law_1013 : decode cL_law 1013 = .ok (.iaload, 1) := by decide +kernel
theorem dL_law_1014 : decode cL_law 1014 = .ok (.aload_n 0, 1) := by decide +kernel
theorem dL_law_1015 : decode cL_law 1015 = .ok (.iload 4, 2) := by decide +kernel
theorem dL_law_1017 : decode cL_law 1017 = .ok (.iconst 2, 1) := by decide +kernel
theorem dL_law_1018 : decode cL_law 1018 = .ok (.iadd, 1) := by decide +kernel
theorem dL_law_1019 : decode cL_law 1019 = .ok (.iaload, 1) := by decide +kernel
theorem dL_law_1020 : decode cL_law 1020 = .ok (.invokevirtual 104, 3) := by decide +kernel
theorem dL_law_1023 : decode cL_law 1023 = .ok (.if_icmp .eq 386, 3) := by decide +kernel
theorem dL_law_1026 : decode cL_law 1026 = .ok (.iconst 0, 1) := by decide +kernel
theorem dL_law_1027 : decode cL_law 1027 = .ok (.ireturn, 1) := by decide +kernel
theorem dL_law_1028 : decode cL_law 1028 = .ok (.aload_n 1, 1) := by decide +kernel
theorem dL_law_1029 : decode cL_law 1029 = .ok (.aload_n 0, 1) := by decide +kernel
theorem dL_law_1030 : decode cL_law 1030 = .ok (.iload 4, 2) := by decide +kernel
theorem dL_law_1032 : decode cL_law 1032 = .ok (.iconst 1, 1) := by decide +kernel
theorem dL_law_1033 : decode cL_law 1033 = .ok (.iadd, 1) := by decide +kernel
theorem dL_law_1034 : decode cL_law 1034 = .ok (.iaload, 1) := by decide +kernel
theorem dL_law_1035 : decode cL_law 1035 = .ok (.aload_n 0, 1) := by decide +kernel
theorem dL_law_1036 : decode cL_law 1036 = .ok (.iload 4, 2) := by decide +kernel
theorem dL_law_1038 : decode cL_law 1038 = .ok (.iconst 2, 1) := by decide +kernel
theorem dL_law_1039 : decode cL_law 1039 = .ok (.iadd, 1) := by decide +kernel
theorem dL_law_1040 : decode cL_law 1040 = .ok (.iaload, 1) := by decide +kernel
theorem dL_law_1041 : decode cL_law 1041 = .ok (.aload_n 0, 1) := by decide +kernel
theorem dL_law_1042 : decode cL_law 1042 = .ok (.iload 4, 2) := by decide +kernel
theorem dL_law_1044 : decode cL_law 1044 = .ok (.iconst 3, 1) := by decide +kernel
theorem dL_law_1045 : decode cL_law 1045 = .ok (.iadd, 1) := by decide +kernel
theorem dL_law_1046 : decode cL_law 1046 = .ok (.iaload, 1) := by decide +kernel
theorem dL_law_1047 : decode cL_law 1047 = .ok (.aload_n 0, 1) := by decide +kernel
theorem dL_law_1048 : decode cL_law 1048 = .ok (.iload 4, 2) := by decide +kernel
theorem dL_law_1050 : decode cL_law 1050 = .ok (.iconst 4, 1) := by decide +kernel
theorem dL_law_1051 : decode cL_law 1051 = .ok (.iadd, 1) := by decide +kernel
theorem dL_law_1052 : decode cL_law 1052 = .ok (.iaload, 1) := by decide +kernel
theorem dL_law_1053 : decode cL_law 1053 = .ok (.invokevirtual 105, 3) := by decide +kernel
theorem dL_law_1056 : decode cL_law 1056 = .ok (.aload_n 2, 1) := by decide +kernel
theorem dL_law_1057 : decode cL_law 1057 = .ok (.aload_n 0, 1) := by decide +kernel
theorem dL_law_1058 : decode cL_law 1058 = .ok (.iload 4, 2) := by decide +kernel
theorem dL_law_1060 : decode cL_law 1060 = .ok (.iconst 1, 1) := by decide +kernel
theorem dL_law_1061 : decode cL_law 1061 = .ok (.iadd, 1) := by decide +kernel
theorem dL_law_1062 : decode cL_law 1062 = .ok (.iaload, 1) := by decide +kernel
theorem dL_law_1063 : decode cL_law 1063 = .ok (.aload_n 0, 1) := by decide +kernel
theorem dL_law_1064 : decode cL_law 1064 = .ok (.iload 4, 2) := by decide +kernel
theorem dL_law_1066 : decode cL_law 1066 = .ok (.iconst 2, 1) := by decide +kernel
theorem dL_law_1067 : decode cL_law 1067 = .ok (.iadd, 1) := by decide +kernel
theorem dL_law_1068 : decode cL_law 1068 = .ok (.iaload, 1) := by decide +kernel
theorem dL_law_1069 : decode cL_law 1069 = .ok (.aload_n 0, 1) := by decide +kernel
theorem dL_law_1070 : decode cL_law 1070 = .ok (.iload 4, 2) := by decide +kernel
theorem dL_law_1072 : decode cL_law 1072 = .ok (.iconst 3, 1) := by decide +kernel
theorem dL_law_1073 : decode cL_law 1073 = .ok (.iadd, 1) := by decide +kernel
theorem dL_law_1074 : decode cL_law 1074 = .ok (.iaload, 1) := by decide +kernel
theorem dL_law_1075 : decode cL_law 1075 = .ok (.aload_n 0, 1) := by decide +kernel
theorem dL_law_1076 : decode cL_law 1076 = .ok (.iload 4, 2) := by decide +kernel
theorem dL_law_1078 : decode cL_law 1078 = .ok (.iconst 4, 1) := by decide +kernel
theorem dL_law_1079 : decode cL_law 1079 = .ok (.iadd, 1) := by decide +kernel
theorem dL_law_1080 : decode cL_law 1080 = .ok (.iaload, 1) := by decide +kernel
theorem dL_law_1081 : decode cL_law 1081 = .ok (.invokevirtual 108, 3) := by decide +kernel
theorem dL_law_1084 : decode cL_law 1084 = .ok (.if_icmp .eq 325, 3) := by decide +kernel
theorem dL_law_1087 : decode cL_law 1087 = .ok (.iconst 0, 1) := by decide +kernel
theorem dL_law_1088 : decode cL_law 1088 = .ok (.ireturn, 1) := by decide +kernel
theorem dL_law_1089 : decode cL_law 1089 = .ok (.aload_n 1, 1) := by decide +kernel
theorem dL_law_1090 : decode cL_law 1090 = .ok (.aload_n 0, 1) := by decide +kernel
theorem dL_law_1091 : decode cL_law 1091 = .ok (.iload 4, 2) := by decide +kernel
theorem dL_law_1093 : decode cL_law 1093 = .ok (.iconst 1, 1) := by decide +kernel
theorem dL_law_1094 : decode cL_law 1094 = .ok (.iadd, 1) := by decide +kernel
theorem dL_law_1095 : decode cL_law 1095 = .ok (.iaload, 1) := by decide +kernel
theorem dL_law_1096 : decode cL_law 1096 = .ok (.aload_n 0, 1) := by decide +kernel
theorem dL_law_1097 : decode cL_law 1097 = .ok (.iload 4, 2) := by decide +kernel
theorem dL_law_1099 : decode cL_law 1099 = .ok (.iconst 2, 1) := by decide +kernel
theorem dL_law_1100 : decode cL_law 1100 = .ok (.iadd, 1) := by decide +kernel
theorem dL_law_1101 : decode cL_law 1101 = .ok (.iaload, 1) := by decide +kernel
theorem dL_law_1102 : decode cL_law 1102 = .ok (.invokevirtual 109, 3) := by decide +kernel
theorem dL_law_1105 : decode cL_law 1105 = .ok (.aload_n 2, 1) := by decide +kernel
theorem dL_law_1106 : decode cL_law 1106 = .ok (.aload_n 0, 1) := by decide +kernel
theorem dL_law_1107 : decode cL_law 1107 = .ok (.iload 4, 2) := by decide +kernel
theorem dL_law_1109 : decode cL_law 1109 = .ok (.iconst 1, 1) := by decide +kernel
theorem dL_law_1110 : decode cL_law 1110 = .ok (.iadd, 1) := by decide +kernel
theorem dL_law_1111 : decode cL_law 1111 = .ok (.iaload, 1) := by decide +kernel
theorem dL_law_1112 : decode cL_law 1112 = .ok (.aload_n 0, 1) := by decide +kernel
theorem dL_law_1113 : decode cL_law 1113 = .ok (.iload 4, 2) := by decide +kernel
theorem dL_law_1115 : decode cL_law 1115 = .ok (.iconst 2, 1) := by decide +kernel
theorem dL_law_1116 : decode cL_law 1116 = .ok (.iadd, 1) := by decide +kernel
theorem dL_law_1117 : decode cL_law 1117 = .ok (.iaload, 1) := by decide +kernel
theorem dL_law_1118 : decode cL_law 1118 = .ok (.invokevirtual 112, 3) := by decide +kernel
theorem dL_law_1121 : decode cL_law 1121 = .ok (.if_icmp .eq 288, 3) := by decide +kernel
theorem dL_law_1124 : decode cL_law 1124 = .ok (.iconst 0, 1) := by decide +kernel
theorem dL_law_1125 : decode cL_law 1125 = .ok (.ireturn, 1) := by decide +kernel
theorem dL_law_1126 : decode cL_law 1126 = .ok (.aload_n 1, 1) := by decide +kernel
theorem dL_law_1127 : decode cL_law 1127 = .ok (.aload_n 0, 1) := by decide +kernel
theorem dL_law_1128 : decode cL_law 1128 = .ok (.iload 4, 2) := by decide +kernel
theorem dL_law_1130 : decode cL_law 1130 = .ok (.iconst 1, 1) := by decide +kernel
theorem dL_law_1131 : decode cL_law 1131 = .ok (.iadd, 1) := by decide +kernel
theorem dL_law_1132 : decode cL_law 1132 = .ok (.iaload, 1) := by decide +kernel
theorem dL_law_1133 : decode cL_law 1133 = .ok (.aload_n 0, 1) := by decide +kernel
theorem dL_law_1134 : decode cL_law 1134 = .ok (.iload 4, 2) := by decide +kernel
theorem dL_law_1136 : decode cL_law 1136 = .ok (.iconst 2, 1) := by decide +kernel
theorem dL_law_1137 : decode cL_law 1137 = .ok (.iadd, 1) := by decide +kernel
theorem dL_law_1138 : decode cL_law 1138 = .ok (.iaload, 1) := by decide +kernel
theorem dL_law_1139 : decode cL_law 1139 = .ok (.ifCond .eq 7, 3) := by decide +kernel
theorem dL_law_1142 : decode cL_law 1142 = .ok (.iconst 1, 1) := by decide +kernel
theorem dL_law_1143 : decode cL_law 1143 = .ok (.goto 4, 3) := by decide +kernel
theorem dL_law_1146 : decode cL_law 1146 = .ok (.iconst 0, 1) := by decide +kernel
theorem dL_law_1147 : decode cL_law 1147 = .ok (.invokevirtual 113, 3) := by decide +kernel
theorem dL_law_1150 : decode cL_law 1150 = .ok (.aload_n 2, 1) := by decide +kernel
theorem dL_law_1151 : decode cL_law 1151 = .ok (.aload_n 0, 1) := by decide +kernel
theorem dL_law_1152 : decode cL_law 1152 = .ok (.iload 4, 2) := by decide +kernel
theorem dL_law_1154 : decode cL_law 1154 = .ok (.iconst 1, 1) := by decide +kernel
theorem dL_law_1155 : decode cL_law 1155 = .ok (.iadd, 1) := by decide +kernel
theorem dL_law_1156 : decode cL_law 1156 = .ok (.iaload, 1) := by decide +kernel
theorem dL_law_1157 : decode cL_law 1157 = .ok (.aload_n 0, 1) := by decide +kernel
theorem dL_law_1158 : decode cL_law 1158 = .ok (.iload 4, 2) := by decide +kernel
theorem dL_law_1160 : decode cL_law 1160 = .ok (.iconst 2, 1) := by decide +kernel
theorem dL_law_1161 : decode cL_law 1161 = .ok (.iadd, 1) := by decide +kernel
theorem dL_law_1162 : decode cL_law 1162 = .ok (.iaload, 1) := by decide +kernel
theorem dL_law_1163 : decode cL_law 1163 = .ok (.ifCond .eq 7, 3) := by decide +kernel
theorem dL_law_1166 : decode cL_law 1166 = .ok (.iconst 1, 1) := by decide +kernel
theorem dL_law_1167 : decode cL_law 1167 = .ok (.goto 4, 3) := by decide +kernel
theorem dL_law_1170 : decode cL_law 1170 = .ok (.iconst 0, 1) := by decide +kernel
theorem dL_law_1171 : decode cL_law 1171 = .ok (.invokevirtual 117, 3) := by decide +kernel
theorem dL_law_1174 : decode cL_law 1174 = .ok (.if_icmp .eq 235, 3) := by decide +kernel
theorem dL_law_1177 : decode cL_law 1177 = .ok (.iconst 0, 1) := by decide +kernel
theorem dL_law_1178 : decode cL_law 1178 = .ok (.ireturn, 1) := by decide +kernel
theorem dL_law_1179 : decode cL_law 1179 = .ok (.aload_n 1, 1) := by decide +kernel
theorem dL_law_1180 : decode cL_law 1180 = .ok (.aload_n 0, 1) := by decide +kernel
theorem dL_law_1181 : decode cL_law 1181 = .ok (.iload 4, 2) := by decide +kernel
theorem dL_law_1183 : decode cL_law 1183 = .ok (.iconst 1, 1) := by decide +kernel
theorem dL_law_1184 : decode cL_law 1184 = .ok (.iadd, 1) := by decide +kernel
theorem dL_law_1185 : decode cL_law 1185 = .ok (.iaload, 1) := by decide +kernel
theorem dL_law_1186 : decode cL_law 1186 = .ok (.invokevirtual 118, 3) := by decide +kernel
theorem dL_law_1189 : decode cL_law 1189 = .ok (.aload_n 2, 1) := by decide +kernel
theorem dL_law_1190 : decode cL_law 1190 = .ok (.aload_n 0, 1) := by decide +kernel
theorem dL_law_1191 : decode cL_law 1191 = .ok (.iload 4, 2) := by decide +kernel
theorem dL_law_1193 : decode cL_law 1193 = .ok (.iconst 1, 1) := by decide +kernel
theorem dL_law_1194 : decode cL_law 1194 = .ok (.iadd, 1) := by decide +kernel
theorem dL_law_1195 : decode cL_law 1195 = .ok (.iaload, 1) := by decide +kernel
theorem dL_law_1196 : decode cL_law 1196 = .ok (.invokevirtual 122, 3) := by decide +kernel
theorem dL_law_1199 : decode cL_law 1199 = .ok (.if_icmp .eq 210, 3) := by decide +kernel
theorem dL_law_1202 : decode cL_law 1202 = .ok (.iconst 0, 1) := by decide +kernel
theorem dL_law_1203 : decode cL_law 1203 = .ok (.ireturn, 1) := by decide +kernel
theorem dL_law_1204 : decode cL_law 1204 = .ok (.aload_n 1, 1) := by decide +kernel
theorem dL_law_1205 : decode cL_law 1205 = .ok (.aload_n 0, 1) := by decide +kernel
theorem dL_law_1206 : decode cL_law 1206 = .ok (.iload 4, 2) := by decide +kernel
theorem dL_law_1208 : decode cL_law 1208 = .ok (.iconst 1, 1) := by decide +kernel
theorem dL_law_1209 : decode cL_law 1209 = .ok (.iadd, 1) := by decide +kernel
theorem dL_law_1210 : decode cL_law 1210 = .ok (.iaload, 1) := by decide +kernel
theorem dL_law_1211 : decode cL_law 1211 = .ok (.aload_n 0, 1) := by decide +kernel
theorem dL_law_1212 : decode cL_law 1212 = .ok (.iload 4, 2) := by decide +kernel
theorem dL_law_1214 : decode cL_law 1214 = .ok (.iconst 2, 1) := by decide +kernel
theorem dL_law_1215 : decode cL_law 1215 = .ok (.iadd, 1) := by decide +kernel
theorem dL_law_1216 : decode cL_law 1216 = .ok (.iaload, 1) := by decide +kernel
theorem dL_law_1217 : decode cL_law 1217 = .ok (.invokevirtual 123, 3) := by decide +kernel
theorem dL_law_1220 : decode cL_law 1220 = .ok (.aload_n 2, 1) := by decide +kernel
theorem dL_law_1221 : decode cL_law 1221 = .ok (.aload_n 0, 1) := by decide +kernel
theorem dL_law_1222 : decode cL_law 1222 = .ok (.iload 4, 2) := by decide +kernel
theorem dL_law_1224 : decode cL_law 1224 = .ok (.iconst 1, 1) := by decide +kernel
theorem dL_law_1225 : decode cL_law 1225 = .ok (.iadd, 1) := by decide +kernel
theorem dL_law_1226 : decode cL_law 1226 = .ok (.iaload, 1) := by decide +kernel
theorem dL_law_1227 : decode cL_law 1227 = .ok (.aload_n 0, 1) := by decide +kernel
theorem dL_law_1228 : decode cL_law 1228 = .ok (.iload 4, 2) := by decide +kernel
theorem dL_law_1230 : decode cL_law 1230 = .ok (.iconst 2, 1) := by decide +kernel
theorem dL_law_1231 : decode cL_law 1231 = .ok (.iadd, 1) := by decide +kernel
theorem dL_law_1232 : decode cL_law 1232 = .ok (.iaload, 1) := by decide +kernel
theorem dL_law_1233 : decode cL_law 1233 = .ok (.invokevirtual 127, 3) := by decide +kernel
theorem dL_law_1236 : decode cL_law 1236 = .ok (.if_icmp .eq 173, 3) := by decide +kernel
theorem dL_law_1239 : decode cL_law 1239 = .ok (.iconst 0, 1) := by decide +kernel
theorem dL_law_1240 : decode cL_law 1240 = .ok (.ireturn, 1) := by decide +kernel
theorem dL_law_1241 : decode cL_law 1241 = .ok (.aload_n 1, 1) := by decide +kernel
theorem dL_law_1242 : decode cL_law 1242 = .ok (.aload_n 0, 1) := by decide +kernel
theorem dL_law_1243 : decode cL_law 1243 = .ok (.iload 4, 2) := by decide +kernel
theorem dL_law_1245 : decode cL_law 1245 = .ok (.iconst 1, 1) := by decide +kernel
theorem dL_law_1246 : decode cL_law 1246 = .ok (.iadd, 1) := by decide +kernel
theorem dL_law_1247 : decode cL_law 1247 = .ok (.iaload, 1) := by decide +kernel
theorem dL_law_1248 : decode cL_law 1248 = .ok (.aload_n 0, 1) := by decide +kernel
theorem dL_law_1249 : decode cL_law 1249 = .ok (.iload 4, 2) := by decide +kernel
theorem dL_law_1251 : decode cL_law 1251 = .ok (.iconst 2, 1) := by decide +kernel
theorem dL_law_1252 : decode cL_law 1252 = .ok (.iadd, 1) := by decide +kernel
theorem dL_law_1253 : decode cL_law 1253 = .ok (.iaload, 1) := by decide +kernel
theorem dL_law_1254 : decode cL_law 1254 = .ok (.invokevirtual 128, 3) := by decide +kernel
theorem dL_law_1257 : decode cL_law 1257 = .ok (.aload_n 2, 1) := by decide +kernel
theorem dL_law_1258 : decode cL_law 1258 = .ok (.aload_n 0, 1) := by decide +kernel
theorem dL_law_1259 : decode cL_law 1259 = .ok (.iload 4, 2) := by decide +kernel
theorem dL_law_1261 : decode cL_law 1261 = .ok (.iconst 1, 1) := by decide +kernel
theorem dL_law_1262 : decode cL_law 1262 = .ok (.iadd, 1) := by decide +kernel
theorem dL_law_1263 : decode cL_law 1263 = .ok (.iaload, 1) := by decide +kernel
theorem dL_law_1264 : decode cL_law 1264 = .ok (.aload_n 0, 1) := by decide +kernel
theorem dL_law_1265 : decode cL_law 1265 = .ok (.iload 4, 2) := by decide +kernel
theorem dL_law_1267 : decode cL_law 1267 = .ok (.iconst 2, 1) := by decide +kernel
theorem dL_law_1268 : decode cL_law 1268 = .ok (.iadd, 1) := by decide +kernel
theorem dL_law_1269 : decode cL_law 1269 = .ok (.iaload, 1) := by decide +kernel
theorem dL_law_1270 : decode cL_law 1270 = .ok (.invokevirtual 131, 3) := by decide +kernel
theorem dL_law_1273 : decode cL_law 1273 = .ok (.if_icmp .eq 136, 3) := by decide +kernel
theorem dL_law_1276 : decode cL_law 1276 = .ok (.iconst 0, 1) := by decide +kernel
theorem dL_law_1277 : decode cL_law 1277 = .ok (.ireturn, 1) := by decide +kernel
theorem dL_law_1278 : decode cL_law 1278 = .ok (.aload_n 1, 1) := by decide +kernel
theorem dL_law_1279 : decode cL_law 1279 = .ok (.aload_n 0, 1) := by decide +kernel
theorem dL_law_1280 : decode cL_law 1280 = .ok (.iload 4, 2) := by decide +kernel
theorem dL_law_1282 : decode cL_law 1282 = .ok (.iconst 1, 1) := by decide +kernel
theorem dL_law_1283 : decode cL_law 1283 = .ok (.iadd, 1) := by decide +kernel
theorem dL_law_1284 : decode cL_law 1284 = .ok (.iaload, 1) := by decide +kernel
theorem dL_law_1285 : decode cL_law 1285 = .ok (.aload_n 0, 1) := by decide +kernel
theorem dL_law_1286 : decode cL_law 1286 = .ok (.iload 4, 2) := by decide +kernel
theorem dL_law_1288 : decode cL_law 1288 = .ok (.iconst 2, 1) := by decide +kernel
theorem dL_law_1289 : decode cL_law 1289 = .ok (.iadd, 1) := by decide +kernel
theorem dL_law_1290 : decode cL_law 1290 = .ok (.iaload, 1) := by decide +kernel
theorem dL_law_1291 : decode cL_law 1291 = .ok (.invokevirtual 132, 3) := by decide +kernel
theorem dL_law_1294 : decode cL_law 1294 = .ok (.aload_n 2, 1) := by decide +kernel
theorem dL_law_1295 : decode cL_law 1295 = .ok (.aload_n 0, 1) := by decide +kernel
theorem dL_law_1296 : decode cL_law 1296 = .ok (.iload 4, 2) := by decide +kernel
theorem dL_law_1298 : decode cL_law 1298 = .ok (.iconst 1, 1) := by decide +kernel
theorem dL_law_1299 : decode cL_law 1299 = .ok (.iadd, 1) := by decide +kernel
theorem dL_law_1300 : decode cL_law 1300 = .ok (.iaload, 1) := by decide +kernel
theorem dL_law_1301 : decode cL_law 1301 = .ok (.aload_n 0, 1) := by decide +kernel
theorem dL_law_1302 : decode cL_law 1302 = .ok (.iload 4, 2) := by decide +kernel
theorem dL_law_1304 : decode cL_law 1304 = .ok (.iconst 2, 1) := by decide +kernel
theorem dL_law_1305 : decode cL_law 1305 = .ok (.iadd, 1) := by decide +kernel
theorem dL_law_1306 : decode cL_law 1306 = .ok (.iaload, 1) := by decide +kernel
theorem dL_law_1307 : decode cL_law 1307 = .ok (.invokevirtual 135, 3) := by decide +kernel
theorem dL_law_1310 : decode cL_law 1310 = .ok (.if_icmp .eq 99, 3) := by decide +kernel
theorem dL_law_1313 : decode cL_law 1313 = .ok (.iconst 0, 1) := by decide +kernel
theorem dL_law_1314 : decode cL_law 1314 = .ok (.ireturn, 1) := by decide +kernel
theorem dL_law_1315 : decode cL_law 1315 = .ok (.aload_n 1, 1) := by decide +kernel
theorem dL_law_1316 : decode cL_law 1316 = .ok (.aload_n 0, 1) := by decide +kernel
theorem dL_law_1317 : decode cL_law 1317 = .ok (.iload 4, 2) := by decide +kernel
theorem dL_law_1319 : decode cL_law 1319 = .ok (.iconst 1, 1) := by decide +kernel
theorem dL_law_1320 : decode cL_law 1320 = .ok (.iadd, 1) := by decide +kernel
theorem dL_law_1321 : decode cL_law 1321 = .ok (.iaload, 1) := by decide +kernel
theorem dL_law_1322 : decode cL_law 1322 = .ok (.aload_n 3, 1) := by decide +kernel
theorem dL_law_1323 : decode cL_law 1323 = .ok (.invokestatic 136, 3) := by decide +kernel
theorem dL_law_1326 : decode cL_law 1326 = .ok (.istore 5, 2) := by decide +kernel
theorem dL_law_1328 : decode cL_law 1328 = .ok (.aload_n 2, 1) := by decide +kernel
theorem dL_law_1329 : decode cL_law 1329 = .ok (.aload_n 0, 1) := by decide +kernel
theorem dL_law_1330 : decode cL_law 1330 = .ok (.iload 4, 2) := by decide +kernel
theorem dL_law_1332 : decode cL_law 1332 = .ok (.iconst 1, 1) := by decide +kernel
theorem dL_law_1333 : decode cL_law 1333 = .ok (.iadd, 1) := by decide +kernel
theorem dL_law_1334 : decode cL_law 1334 = .ok (.iaload, 1) := by decide +kernel
theorem dL_law_1335 : decode cL_law 1335 = .ok (.invokevirtual 141, 3) := by decide +kernel
theorem dL_law_1338 : decode cL_law 1338 = .ok (.istore 6, 2) := by decide +kernel
theorem dL_law_1340 : decode cL_law 1340 = .ok (.aload_n 2, 1) := by decide +kernel
theorem dL_law_1341 : decode cL_law 1341 = .ok (.invokevirtual 142, 3) := by decide +kernel
theorem dL_law_1344 : decode cL_law 1344 = .ok (.iload 5, 2) := by decide +kernel
theorem dL_law_1346 : decode cL_law 1346 = .ok (.if_icmp .eq 5, 3) := by decide +kernel
theorem dL_law_1349 : decode cL_law 1349 = .ok (.iconst 0, 1) := by decide +kernel
theorem dL_law_1350 : decode cL_law 1350 = .ok (.ireturn, 1) := by decide +kernel
theorem dL_law_1351 : decode cL_law 1351 = .ok (.iload 5, 2) := by decide +kernel
theorem dL_law_1353 : decode cL_law 1353 = .ok (.ifCond .ne 15, 3) := by decide +kernel
theorem dL_law_1356 : decode cL_law 1356 = .ok (.aload_n 3, 1) := by decide +kernel
theorem dL_law_1357 : decode cL_law 1357 = .ok (.iconst 0, 1) := by decide +kernel
theorem dL_law_1358 : decode cL_law 1358 = .ok (.laload, 1) := by decide +kernel
theorem dL_law_1359 : decode cL_law 1359 = .ok (.iload 6, 2) := by decide +kernel
theorem dL_law_1361 : decode cL_law 1361 = .ok (.i2l, 1) := by decide +kernel
theorem dL_law_1362 : decode cL_law 1362 = .ok (.lcmp, 1) := by decide +kernel
theorem dL_law_1363 : decode cL_law 1363 = .ok (.ifCond .eq 5, 3) := by decide +kernel
theorem dL_law_1366 : decode cL_law 1366 = .ok (.iconst 0, 1) := by decide +kernel
theorem dL_law_1367 : decode cL_law 1367 = .ok (.ireturn, 1) := by decide +kernel
theorem dL_law_1368 : decode cL_law 1368 = .ok (.goto 41, 3) := by decide +kernel
theorem dL_law_1371 : decode cL_law 1371 = .ok (.aload_n 1, 1) := by decide +kernel
theorem dL_law_1372 : decode cL_law 1372 = .ok (.aload_n 0, 1) := by decide +kernel
theorem dL_law_1373 : decode cL_law 1373 = .ok (.iload 4, 2) := by decide +kernel
theorem dL_law_1375 : decode cL_law 1375 = .ok (.iconst 1, 1) := by decide +kernel
theorem dL_law_1376 : decode cL_law 1376 = .ok (.iadd, 1) := by decide +kernel
theorem dL_law_1377 : decode cL_law 1377 = .ok (.iaload, 1) := by decide +kernel
theorem dL_law_1378 : decode cL_law 1378 = .ok (.invokevirtual 145, 3) := by decide +kernel
theorem dL_law_1381 : decode cL_law 1381 = .ok (.aload_n 2, 1) := by decide +kernel
theorem dL_law_1382 : decode cL_law 1382 = .ok (.aload_n 0, 1) := by decide +kernel
theorem dL_law_1383 : decode cL_law 1383 = .ok (.iload 4, 2) := by decide +kernel
theorem dL_law_1385 : decode cL_law 1385 = .ok (.iconst 1, 1) := by decide +kernel
theorem dL_law_1386 : decode cL_law 1386 = .ok (.iadd, 1) := by decide +kernel
theorem dL_law_1387 : decode cL_law 1387 = .ok (.iaload, 1) := by decide +kernel
theorem dL_law_1388 : decode cL_law 1388 = .ok (.invokevirtual 148, 3) := by decide +kernel
theorem dL_law_1391 : decode cL_law 1391 = .ok (.if_icmp .eq 18, 3) := by decide +kernel
theorem dL_law_1394 : decode cL_law 1394 = .ok (.iconst 0, 1) := by decide +kernel
theorem dL_law_1395 : decode cL_law 1395 = .ok (.ireturn, 1) := by decide +kernel
theorem dL_law_1396 : decode cL_law 1396 = .ok (.aload_n 1, 1) := by decide +kernel
theorem dL_law_1397 : decode cL_law 1397 = .ok (.invokevirtual 149, 3) := by decide +kernel
theorem dL_law_1400 : decode cL_law 1400 = .ok (.aload_n 2, 1) := by decide +kernel
theorem dL_law_1401 : decode cL_law 1401 = .ok (.invokevirtual 152, 3) := by decide +kernel
theorem dL_law_1404 : decode cL_law 1404 = .ok (.if_icmp .eq 5, 3) := by decide +kernel
theorem dL_law_1407 : decode cL_law 1407 = .ok (.iconst 0, 1) := by decide +kernel
theorem dL_law_1408 : decode cL_law 1408 = .ok (.ireturn, 1) := by decide +kernel
theorem dL_law_1409 : decode cL_law 1409 = .ok (.iinc 4 6, 3) := by decide +kernel
theorem dL_law_1412 : decode cL_law 1412 = .ok (.goto (-1389), 3) := by decide +kernel
theorem dL_law_1415 : decode cL_law 1415 = .ok (.iconst 1, 1) := by decide +kernel
theorem dL_law_1416 : decode cL_law 1416 = .ok (.ireturn, 1) := by decide +kernel
