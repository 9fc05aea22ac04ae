theorem dX5_work_0 : decode cX5_work 0 = .ok (.aload_n 0, 1) := by decide +kernel
theorem dX5_work_1 : decode cX5_work 1 = .ok (.getfield 20, 3) := by decide +kernel
theorem dX5_work_4 : decode cX5_work 4 = .ok (.iload_n 1, 1) := by decide +kernel
theorem dX5_work_5 : decode cX5_work 5 = .ok (.iaload, 1) := by decide +kernel
theorem dX5_work_6 : decode cX5_work 6 = .ok (.istore_n 2, 1) := by decide +kernel
theorem dX5_work_7 : decode cX5_work 7 = .ok (.aload_n 0, 1) := by decide +kernel
theorem dX5_work_8 : decode cX5_work 8 = .ok (.getfield 23, 3) := by decide +kernel
theorem dX5_work_11 : decode cX5_work 11 = .ok (.iload_n 1, 1) := by decide +kernel
theorem dX5_work_12 : decode cX5_work 12 = .ok (.iaload, 1) := by decide +kernel
theorem dX5_work_13 : decode cX5_work 13 = .ok (.istore_n 3, 1) := by decide +kernel
theorem dX5_work_14 : decode cX5_work 14 = .ok (.aload_n 0, 1) := by decide +kernel
theorem dX5_work_15 : decode cX5_work 15 = .ok (.getfield 38, 3) := by decide +kernel
theorem dX5_work_18 : decode cX5_work 18 = .ok (.iload_n 2, 1) := by decide +kernel
theorem dX5_work_19 : decode cX5_work 19 = .ok (.iaload, 1) := by decide +kernel
theorem dX5_work_20 : decode cX5_work 20 = .ok (.istore 4, 2) := by decide +kernel
theorem dX5_work_22 : decode cX5_work 22 = .ok (.aload_n 0, 1) := by decide +kernel
theorem dX5_work_23 : decode cX5_work 23 = .ok (.getfield 17, 3) := by decide +kernel
theorem dX5_work_26 : decode cX5_work 26 = .ok (.iload_n 1, 1) := by decide +kernel
theorem dX5_work_27 : decode cX5_work 27 = .ok (.iaload, 1) := by decide +kernel
theorem dX5_work_28 : decode cX5_work 28 = .ok (.ifCond .ne 22, 3) := by decide +kernel
theorem dX5_work_31 : decode cX5_work 31 = .ok (.iload 4, 2) := by decide +kernel
theorem dX5_work_33 : decode cX5_work 33 = .ok (.ifCond .lt 5, 3) := by decide +kernel
theorem dX5_work_36 : decode cX5_work 36 = .ok (.iconst 1, 1) := by decide +kernel
theorem dX5_work_37 : decode cX5_work 37 = .ok (.ireturn, 1) := by decide +kernel
theorem dX5_work_38 : decode cX5_work 38 = .ok (.aload_n 0, 1) := by decide +kernel
theorem dX5_work_39 : decode cX5_work 39 = .ok (.getfield 38, 3) := by decide +kernel
theorem dX5_work_42 : decode cX5_work 42 = .ok (.iload_n 2, 1) := by decide +kernel
theorem dX5_work_43 : decode cX5_work 43 = .ok (.bipush 8, 2) := by decide +kernel
theorem dX5_work_45 : decode cX5_work 45 = .ok (.iload_n 3, 1) := by decide +kernel
theorem dX5_work_46 : decode cX5_work 46 = .ok (.imul, 1) := by decide +kernel
theorem dX5_work_47 : decode cX5_work 47 = .ok (.iastore, 1) := by decide +kernel
theorem dX5_work_48 : decode cX5_work 48 = .ok (.iconst 0, 1) := by decide +kernel
theorem dX5_work_49 : decode cX5_work 49 = .ok (.ireturn, 1) := by decide +kernel
theorem dX5_work_50 : decode cX5_work 50 = .ok (.iload 4, 2) := by decide +kernel
theorem dX5_work_52 : decode cX5_work 52 = .ok (.ifCond .ge 5, 3) := by decide +kernel
theorem dX5_work_55 : decode cX5_work 55 = .ok (.iconst 2, 1) := by decide +kernel
theorem dX5_work_56 : decode cX5_work 56 = .ok (.ireturn, 1) := by decide +kernel
theorem dX5_work_57 : decode cX5_work 57 = .ok (.aload_n 0, 1) := by decide +kernel
theorem dX5_work_58 : decode cX5_work 58 = .ok (.getfield 17, 3) := by decide +kernel
theorem dX5_work_61 : decode cX5_work 61 = .ok (.iload_n 1, 1) := by decide +kernel
theorem dX5_work_62 : decode cX5_work 62 = .ok (.iaload, 1) := by decide +kernel
theorem dX5_work_63 : decode cX5_work 63 = .ok (.iconst 1, 1) := by decide +kernel
theorem dX5_work_64 : decode cX5_work 64 = .ok (.if_icmp .ne 57, 3) := by decide +kernel
theorem dX5_work_67 : decode cX5_work 67 = .ok (.aload_n 0, 1) := by decide +kernel
theorem dX5_work_68 : decode cX5_work 68 = .ok (.getfield 7, 3) := by decide +kernel
theorem dX5_work_71 : decode cX5_work 71 = .ok (.iload 4, 2) := by decide +kernel
theorem dX5_work_73 : decode cX5_work 73 = .ok (.bipush 8, 2) := by decide +kernel
theorem dX5_work_75 : decode cX5_work 75 = .ok (.idiv, 1) := by decide +kernel
theorem dX5_work_76 : decode cX5_work 76 = .ok (.bipush 20, 2) := by decide +kernel
theorem dX5_work_78 : decode cX5_work 78 = .ok (.imul, 1) := by decide +kernel
theorem dX5_work_79 : decode cX5_work 79 = .ok (.iload 4, 2) := by decide +kernel
theorem dX5_work_81 : decode cX5_work 81 = .ok (.bipush 8, 2) := by decide +kernel
theorem dX5_work_83 : decode cX5_work 83 = .ok (.irem, 1) := by decide +kernel
theorem dX5_work_84 : decode cX5_work 84 = .ok (.iconst 4, 1) := by decide +kernel
theorem dX5_work_85 : decode cX5_work 85 = .ok (.imul, 1) := by decide +kernel
theorem dX5_work_86 : decode cX5_work 86 = .ok (.iadd, 1) := by decide +kernel
theorem dX5_work_87 : decode cX5_work 87 = .ok (.iload_n 3, 1) := by decide +kernel
theorem dX5_work_88 : decode cX5_work 88 = .ok (.iadd, 1) := by decide +kernel
theorem dX5_work_89 : decode cX5_work 89 = .ok (.iaload, 1) := by decide +kernel
theorem dX5_work_90 : decode cX5_work 90 = .ok (.istore 5, 2) := by decide +kernel
theorem dX5_work_92 : decode cX5_work 92 = .ok (.iload 5, 2) := by decide +kernel
theorem dX5_work_94 : decode cX5_work 94 = .ok (.ifCond .ne 5, 3) := by decide +kernel
theorem dX5_work_97 : decode cX5_work 97 = .ok (.iconst 3, 1) := by decide +kernel
theorem dX5_work_98 : decode cX5_work 98 = .ok (.ireturn, 1) := by decide +kernel
theorem dX5_work_99 : decode cX5_work 99 = .ok (.aload_n 0, 1) := by decide +kernel
theorem dX5_work_100 : decode cX5_work 100 = .ok (.getfield 38, 3) := by decide +kernel
theorem dX5_work_103 : decode cX5_work 103 = .ok (.iload_n 2, 1) := by decide +kernel
theorem dX5_work_104 : decode cX5_work 104 = .ok (.iload 4, 2) := by decide +kernel
theorem dX5_work_106 : decode cX5_work 106 = .ok (.bipush 8, 2) := by decide +kernel
theorem dX5_work_108 : decode cX5_work 108 = .ok (.idiv, 1) := by decide +kernel
theorem dX5_work_109 : decode cX5_work 109 = .ok (.bipush 8, 2) := by decide +kernel
theorem dX5_work_111 : decode cX5_work 111 = .ok (.imul, 1) := by decide +kernel
theorem dX5_work_112 : decode cX5_work 112 = .ok (.iload 5, 2) := by decide +kernel
theorem dX5_work_114 : decode cX5_work 114 = .ok (.iadd, 1) := by decide +kernel
theorem dX5_work_115 : decode cX5_work 115 = .ok (.iconst 1, 1) := by decide +kernel
theorem dX5_work_116 : decode cX5_work 116 = .ok (.isub, 1) := by decide +kernel
theorem dX5_work_117 : decode cX5_work 117 = .ok (.iastore, 1) := by decide +kernel
theorem dX5_work_118 : decode cX5_work 118 = .ok (.goto 72, 3) := by decide +kernel
theorem dX5_work_121 : decode cX5_work 121 = .ok (.aload_n 0, 1) := by decide +kernel
theorem dX5_work_122 : decode cX5_work 122 = .ok (.getfield 17, 3) := by decide +kernel
theorem dX5_work_125 : decode cX5_work 125 = .ok (.iload_n 1, 1) := by decide +kernel
theorem dX5_work_126 : decode cX5_work 126 = .ok (.iaload, 1) := by decide +kernel
theorem dX5_work_127 : decode cX5_work 127 = .ok (.iconst 2, 1) := by decide +kernel
theorem dX5_work_128 : decode cX5_work 128 = .ok (.if_icmp .ne 32, 3) := by decide +kernel
theorem dX5_work_131 : decode cX5_work 131 = .ok (.aload_n 0, 1) := by decide +kernel
theorem dX5_work_132 : decode cX5_work 132 = .ok (.getfield 38, 3) := by decide +kernel
theorem dX5_work_135 : decode cX5_work 135 = .ok (.iload_n 3, 1) := by decide +kernel
theorem dX5_work_136 : decode cX5_work 136 = .ok (.iaload, 1) := by decide +kernel
theorem dX5_work_137 : decode cX5_work 137 = .ok (.ifCond .lt 5, 3) := by decide +kernel
theorem dX5_work_140 : decode cX5_work 140 = .ok (.iconst 1, 1) := by decide +kernel
theorem dX5_work_141 : decode cX5_work 141 = .ok (.ireturn, 1) := by decide +kernel
theorem dX5_work_142 : decode cX5_work 142 = .ok (.aload_n 0, 1) := by decide +kernel
theorem dX5_work_143 : decode cX5_work 143 = .ok (.getfield 38, 3) := by decide +kernel
theorem dX5_work_146 : decode cX5_work 146 = .ok (.iload_n 3, 1) := by decide +kernel
theorem dX5_work_147 : decode cX5_work 147 = .ok (.iload 4, 2) := by decide +kernel
theorem dX5_work_149 : decode cX5_work 149 = .ok (.iastore, 1) := by decide +kernel
theorem dX5_work_150 : decode cX5_work 150 = .ok (.aload_n 0, 1) := by decide +kernel
theorem dX5_work_151 : decode cX5_work 151 = .ok (.getfield 38, 3) := by decide +kernel
theorem dX5_work_154 : decode cX5_work 154 = .ok (.iload_n 2, 1) := by decide +kernel
theorem dX5_work_155 : decode cX5_work 155 = .ok (.iconst (-1), 1) := by decide +kernel
theorem dX5_work_156 : decode cX5_work 156 = .ok (.iastore, 1) := by decide +kernel
theorem dX5_work_157 : decode cX5_work 157 = .ok (.goto 33, 3) := by decide +kernel
theorem dX5_work_160 : decode cX5_work 160 = .ok (.aload_n 0, 1) := by decide +kernel
theorem dX5_work_161 : decode cX5_work 161 = .ok (.getfield 13, 3) := by decide +kernel
theorem dX5_work_164 : decode cX5_work 164 = .ok (.iload 4, 2) := by decide +kernel
theorem dX5_work_166 : decode cX5_work 166 = .ok (.bipush 8, 2) := by decide +kernel
theorem dX5_work_168 : decode cX5_work 168 = .ok (.idiv, 1) := by decide +kernel
theorem dX5_work_169 : decode cX5_work 169 = .ok (.iconst 5, 1) := by decide +kernel
theorem dX5_work_170 : decode cX5_work 170 = .ok (.imul, 1) := by decide +kernel
theorem dX5_work_171 : decode cX5_work 171 = .ok (.iload 4, 2) := by decide +kernel
theorem dX5_work_173 : decode cX5_work 173 = .ok (.bipush 8, 2) := by decide +kernel
theorem dX5_work_175 : decode cX5_work 175 = .ok (.irem, 1) := by decide +kernel
theorem dX5_work_176 : decode cX5_work 176 = .ok (.iadd, 1) := by decide +kernel
theorem dX5_work_177 : decode cX5_work 177 = .ok (.baload, 1) := by decide +kernel
theorem dX5_work_178 : decode cX5_work 178 = .ok (.ifCond .ne 5, 3) := by decide +kernel
theorem dX5_work_181 : decode cX5_work 181 = .ok (.iconst 4, 1) := by decide +kernel
theorem dX5_work_182 : decode cX5_work 182 = .ok (.ireturn, 1) := by decide +kernel
theorem dX5_work_183 : decode cX5_work 183 = .ok (.aload_n 0, 1) := by decide +kernel
theorem dX5_work_184 : decode cX5_work 184 = .ok (.getfield 38, 3) := by decide +kernel
theorem dX5_work_187 : decode cX5_work 187 = .ok (.iload_n 2, 1) := by decide +kernel
theorem dX5_work_188 : decode cX5_work 188 = .ok (.iconst (-1), 1) := by decide +kernel
theorem dX5_work_189 : decode cX5_work 189 = .ok (.iastore, 1) := by decide +kernel
theorem dX5_work_190 : decode cX5_work 190 = .ok (.iconst 0, 1) := by decide +kernel
theorem dX5_work_191 : decode cX5_work 191 = .ok (.ireturn, 1) := by decide +kernel
theorem dX5_unfinished_0 : decode cX5_unfinished 0 = .ok (.iconst 0, 1) := by decide +kernel
theorem dX5_unfinished_1 : decode cX5_unfinished 1 = .ok (.istore_n 1, 1) := by decide +kernel
theorem dX5_unfinished_2 : decode cX5_unfinished 2 = .ok (.iload_n 1, 1) := by decide +kernel
theorem dX5_unfinished_3 : decode cX5_unfinished 3 = .ok (.iconst 4, 1) := by decide +kernel
theorem dX5_unfinished_4 : decode cX5_unfinished 4 = .ok (.if_icmp .ge 49, 3) := by decide +kernel
theorem dX5_unfinished_7 : decode cX5_unfinished 7 = .ok (.aload_n 0, 1) := by decide +kernel
theorem dX5_unfinished_8 : decode cX5_unfinished 8 = .ok (.getfield 38, 3) := by decide +kernel
theorem dX5_unfinished_11 : decode cX5_unfinished 11 = .ok (.iload_n 1, 1) := by decide +kernel
theorem dX5_unfinished_12 : decode cX5_unfinished 12 = .ok (.iaload, 1) := by decide +kernel
theorem dX5_unfinished_13 : decode cX5_unfinished 13 = .ok (.ifCond .lt 34, 3) := by decide +kernel
theorem dX5_unfinished_16 : decode cX5_unfinished 16 = .ok (.aload_n 0, 1) := by decide +kernel
theorem dX5_unfinished_17 : decode cX5_unfinished 17 = .ok (.getfield 13, 3) := by decide +kernel
theorem dX5_unfinished_20 : decode cX5_unfinished 20 = .ok (.aload_n 0, 1) := by decide +kernel
theorem dX5_unfinished_21 : decode cX5_unfinished 21 = .ok (.getfield 38, 3) := by decide +kernel
theorem dX5_unfinished_24 : decode cX5_unfinished 24 = .ok (.iload_n 1, 1) := by decide +kernel
theorem dX5_unfinished_25 : decode cX5_unfinished 25 = .ok (.iaload, 1) := by decide +kernel
theorem dX5_unfinished_26 : decode cX5_unfinished 26 = .ok (.bipush 8, 2) := by decide +kernel
theorem dX5_unfinished_28 : decode cX5_unfinished 28 = .ok (.idiv, 1) := by decide +kernel
theorem dX5_unfinished_29 : decode cX5_unfinished 29 = .ok (.iconst 5, 1) := by decide +kernel
theorem dX5_unfinished_30 : decode cX5_unfinished 30 = .ok (.imul, 1) := by decide +kernel
theorem dX5_unfinished_31 : decode cX5_unfinished 31 = .ok (.aload_n 0, 1) := by decide +kernel
theorem dX5_unfinished_32 : decode cX5_unfinished 32 = .ok (.getfield 38, 3) := by decide +kernel
theorem dX5_unfinished_35 : decode cX5_unfinished 35 = .ok (.iload_n 1, 1) := by decide +kernel
theorem dX5_unfinished_36 : decode cX5_unfinished 36 = .ok (.iaload, 1) := by decide +kernel
theorem dX5_unfinished_37 : decode cX5_unfinished 37 = .ok (.bipush 8, 2) := by decide +kernel
theorem dX5_unfinished_39 : decode cX5_unfinished 39 = .ok (.irem, 1) := by decide +kernel
theorem dX5_unfinished_40 : decode cX5_unfinished 40 = .ok (.iadd, 1) := by decide +kernel
theorem dX5_unfinished_41 : decode cX5_unfinished 41 = .ok (.baload, 1) := by decide +kernel
theorem dX5_unfinished_42 : decode cX5_unfinished 42 = .ok (.ifCond .ne 5, 3) := by decide +kernel
theorem dX5_unfinished_45 : decode cX5_unfinished 45 = .ok (.iconst 1, 1) := by decide +kernel
theorem dX5_unfinished_46 : decode cX5_unfinished 46 = .ok (.ireturn, 1) := by decide +kernel
theorem dX5_unfinished_47 : decode cX5_unfinished 47 = .ok (.iinc 1 1, 3) := by decide +kernel
theorem dX5_unfinished_50 : decode cX5_unfinished 50 = .ok (.goto (-48), 3) := by decide +kernel
theorem dX5_unfinished_53 : decode cX5_unfinished 53 = .ok (.iconst 0, 1) := by decide +kernel
theorem dX5_unfinished_54 : decode cX5_unfinished 54 = .ok (.ireturn, 1) := by decide +kernel
theorem dX5_nothing_0 : decode cX5_nothing 0 = .ok (.iconst 0, 1) := by decide +kernel
theorem dX5_nothing_1 : decode cX5_nothing 1 = .ok (.istore_n 1, 1) := by decide +kernel
theorem dX5_nothing_2 : decode cX5_nothing 2 = .ok (.iload_n 1, 1) := by decide +kernel
theorem dX5_nothing_3 : decode cX5_nothing 3 = .ok (.iconst 4, 1) := by decide +kernel
theorem dX5_nothing_4 : decode cX5_nothing 4 = .ok (.if_icmp .ge 16, 3) := by decide +kernel
theorem dX5_nothing_7 : decode cX5_nothing 7 = .ok (.aload_n 0, 1) := by decide +kernel
theorem dX5_nothing_8 : decode cX5_nothing 8 = .ok (.getfield 38, 3) := by decide +kernel
theorem dX5_nothing_11 : decode cX5_nothing 11 = .ok (.iload_n 1, 1) := by decide +kernel
theorem dX5_nothing_12 : decode cX5_nothing 12 = .ok (.iconst (-1), 1) := by decide +kernel
theorem dX5_nothing_13 : decode cX5_nothing 13 = .ok (.iastore, 1) := by decide +kernel
theorem dX5_nothing_14 : decode cX5_nothing 14 = .ok (.iinc 1 1, 3) := by decide +kernel
theorem dX5_nothing_17 : decode cX5_nothing 17 = .ok (.goto (-15), 3) := by decide +kernel
theorem dX5_nothing_20 : decode cX5_nothing 20 = .ok (.aload_n 0, 1) := by decide +kernel
theorem dX5_nothing_21 : decode cX5_nothing 21 = .ok (.iconst 0, 1) := by decide +kernel
theorem dX5_nothing_22 : decode cX5_nothing 22 = .ok (.putfield 87, 3) := by decide +kernel
theorem dX5_nothing_25 : decode cX5_nothing 25 = .ok (.return_, 1) := by decide +kernel
theorem dX5_same_0 : decode cX5_same 0 = .ok (.iconst 0, 1) := by decide +kernel
theorem dX5_same_1 : decode cX5_same 1 = .ok (.istore_n 3, 1) := by decide +kernel
theorem dX5_same_2 : decode cX5_same 2 = .ok (.iload_n 3, 1) := by decide +kernel
theorem dX5_same_3 : decode cX5_same 3 = .ok (.iconst 4, 1) := by decide +kernel
theorem dX5_same_4 : decode cX5_same 4 = .ok (.if_icmp .ge 25, 3) := by decide +kernel
theorem dX5_same_7 : decode cX5_same 7 = .ok (.aload_n 0, 1) := by decide +kernel
theorem dX5_same_8 : decode cX5_same 8 = .ok (.getfield 38, 3) := by decide +kernel
theorem dX5_same_11 : decode cX5_same 11 = .ok (.iload_n 3, 1) := by decide +kernel
theorem dX5_same_12 : decode cX5_same 12 = .ok (.iaload, 1) := by decide +kernel
theorem dX5_same_13 : decode cX5_same 13 = .ok (.aload_n 1, 1) := by decide +kernel
theorem dX5_same_14 : decode cX5_same 14 = .ok (.iload_n 2, 1) := by decide +kernel
theorem dX5_same_15 : decode cX5_same 15 = .ok (.iload_n 3, 1) := by decide +kernel
theorem dX5_same_16 : decode cX5_same 16 = .ok (.iadd, 1) := by decide +kernel
theorem dX5_same_17 : decode cX5_same 17 = .ok (.iaload, 1) := by decide +kernel
theorem dX5_same_18 : decode cX5_same 18 = .ok (.if_icmp .eq 5, 3) := by decide +kernel
theorem dX5_same_21 : decode cX5_same 21 = .ok (.iconst 0, 1) := by decide +kernel
theorem dX5_same_22 : decode cX5_same 22 = .ok (.ireturn, 1) := by decide +kernel
theorem dX5_same_23 : decode cX5_same 23 = .ok (.iinc 3 1, 3) := by decide +kernel
theorem dX5_same_26 : decode cX5_same 26 = .ok (.goto (-24), 3) := by decide +kernel
theorem dX5_same_29 : decode cX5_same 29 = .ok (.iconst 1, 1) := by decide +kernel
theorem dX5_same_30 : decode cX5_same 30 = .ok (.ireturn, 1) := by decide +kernel
theorem dX5_blockEnd_0 : decode cX5_blockEnd 0 = .ok (.aload_n 0, 1) := by decide +kernel
theorem dX5_blockEnd_1 : decode cX5_blockEnd 1 = .ok (.getfield 47, 3) := by decide +kernel
theorem dX5_blockEnd_4 : decode cX5_blockEnd 4 = .ok (.aload_n 0, 1) := by decide +kernel
theorem dX5_blockEnd_5 : decode cX5_blockEnd 5 = .ok (.getfield 87, 3) := by decide +kernel
theorem dX5_blockEnd_8 : decode cX5_blockEnd 8 = .ok (.iconst 1, 1) := by decide +kernel
theorem dX5_blockEnd_9 : decode cX5_blockEnd 9 = .ok (.isub, 1) := by decide +kernel
theorem dX5_blockEnd_10 : decode cX5_blockEnd 10 = .ok (.iaload, 1) := by decide +kernel
theorem dX5_blockEnd_11 : decode cX5_blockEnd 11 = .ok (.istore_n 1, 1) := by decide +kernel
theorem dX5_blockEnd_12 : decode cX5_blockEnd 12 = .ok (.aload_n 0, 1) := by decide +kernel
theorem dX5_blockEnd_13 : decode cX5_blockEnd 13 = .ok (.getfield 17, 3) := by decide +kernel
theorem dX5_blockEnd_16 : decode cX5_blockEnd 16 = .ok (.iload_n 1, 1) := by decide +kernel
theorem dX5_blockEnd_17 : decode cX5_blockEnd 17 = .ok (.iaload, 1) := by decide +kernel
theorem dX5_blockEnd_18 : decode cX5_blockEnd 18 = .ok (.iconst 4, 1) := by decide +kernel
theorem dX5_blockEnd_19 : decode cX5_blockEnd 19 = .ok (.if_icmp .ne 26, 3) := by decide +kernel
theorem dX5_blockEnd_22 : decode cX5_blockEnd 22 = .ok (.aload_n 0, 1) := by decide +kernel
theorem dX5_blockEnd_23 : decode cX5_blockEnd 23 = .ok (.getfield 50, 3) := by decide +kernel
theorem dX5_blockEnd_26 : decode cX5_blockEnd 26 = .ok (.aload_n 0, 1) := by decide +kernel
theorem dX5_blockEnd_27 : decode cX5_blockEnd 27 = .ok (.getfield 87, 3) := by decide +kernel
theorem dX5_blockEnd_30 : decode cX5_blockEnd 30 = .ok (.iconst 1, 1) := by decide +kernel
theorem dX5_blockEnd_31 : decode cX5_blockEnd 31 = .ok (.isub, 1) := by decide +kernel
theorem dX5_blockEnd_32 : decode cX5_blockEnd 32 = .ok (.baload, 1) := by decide +kernel
theorem dX5_blockEnd_33 : decode cX5_blockEnd 33 = .ok (.ifCond .ne 12, 3) := by decide +kernel
theorem dX5_blockEnd_36 : decode cX5_blockEnd 36 = .ok (.aload_n 0, 1) := by decide +kernel
theorem dX5_blockEnd_37 : decode cX5_blockEnd 37 = .ok (.getfield 26, 3) := by decide +kernel
theorem dX5_blockEnd_40 : decode cX5_blockEnd 40 = .ok (.iload_n 1, 1) := by decide +kernel
theorem dX5_blockEnd_41 : decode cX5_blockEnd 41 = .ok (.iaload, 1) := by decide +kernel
theorem dX5_blockEnd_42 : decode cX5_blockEnd 42 = .ok (.goto 9, 3) := by decide +kernel
theorem dX5_blockEnd_45 : decode cX5_blockEnd 45 = .ok (.aload_n 0, 1) := by decide +kernel
theorem dX5_blockEnd_46 : decode cX5_blockEnd 46 = .ok (.getfield 29, 3) := by decide +kernel
theorem dX5_blockEnd_49 : decode cX5_blockEnd 49 = .ok (.iload_n 1, 1) := by decide +kernel
theorem dX5_blockEnd_50 : decode cX5_blockEnd 50 = .ok (.iaload, 1) := by decide +kernel
theorem dX5_blockEnd_51 : decode cX5_blockEnd 51 = .ok (.ireturn, 1) := by decide +kernel
set_option maxRecDepth 20000 in
theorem ggX5_ended_X5_same : GoodIn wsX5_ended wsX5_same := goodIn_r _ [13, 6, 14, 15, 16, 17, 18, 19, 20, 21, 22, 23, 24, 25, 26, 27, 28, 29, 30, 31, 32, 33, 34, 35, 36, 37, 38] (by decide +kernel) (by decide +kernel)
set_option maxRecDepth 20000 in
theorem gX5_ended_X5_same : GoodIn wsX5_ended (wsV RX5 90 RX5 yX5_same wsX5_same) := goodIn_app (goodIn_of _ (by decide +kernel)) ggX5_ended_X5_same
theorem dX5_ended_0 : decode cX5_ended 0 = .ok (.aload_n 0, 1) := by decide +kernel
theorem dX5_ended_1 : decode cX5_ended 1 = .ok (.getfield 87, 3) := by decide +kernel
theorem dX5_ended_4 : decode cX5_ended 4 = .ok (.iconst 1, 1) := by decide +kernel
theorem dX5_ended_5 : decode cX5_ended 5 = .ok (.isub, 1) := by decide +kernel
theorem dX5_ended_6 : decode cX5_ended 6 = .ok (.istore_n 1, 1) := by decide +kernel
theorem dX5_ended_7 : decode cX5_ended 7 = .ok (.aload_n 0, 1) := by decide +kernel
theorem dX5_ended_8 : decode cX5_ended 8 = .ok (.getfield 47, 3) := by decide +kernel
theorem dX5_ended_11 : decode cX5_ended 11 = .ok (.iload_n 1, 1) := by decide +kernel
theorem dX5_ended_12 : decode cX5_ended 12 = .ok (.iaload, 1) := by decide +kernel
theorem dX5_ended_13 : decode cX5_ended 13 = .ok (.istore_n 2, 1) := by decide +kernel
theorem dX5_ended_14 : decode cX5_ended 14 = .ok (.aload_n 0, 1) := by decide +kernel
theorem dX5_ended_15 : decode cX5_ended 15 = .ok (.getfield 17, 3) := by decide +kernel
theorem dX5_ended_18 : decode cX5_ended 18 = .ok (.iload_n 2, 1) := by decide +kernel
theorem dX5_ended_19 : decode cX5_ended 19 = .ok (.iaload, 1) := by decide +kernel
theorem dX5_ended_20 : decode cX5_ended 20 = .ok (.iconst 4, 1) := by decide +kernel
theorem dX5_ended_21 : decode cX5_ended 21 = .ok (.if_icmp .ne 66, 3) := by decide +kernel
theorem dX5_ended_24 : decode cX5_ended 24 = .ok (.aload_n 0, 1) := by decide +kernel
theorem dX5_ended_25 : decode cX5_ended 25 = .ok (.getfield 50, 3) := by decide +kernel
theorem dX5_ended_28 : decode cX5_ended 28 = .ok (.iload_n 1, 1) := by decide +kernel
theorem dX5_ended_29 : decode cX5_ended 29 = .ok (.baload, 1) := by decide +kernel
theorem dX5_ended_30 : decode cX5_ended 30 = .ok (.ifCond .ne 57, 3) := by decide +kernel
theorem dX5_ended_33 : decode cX5_ended 33 = .ok (.aload_n 0, 1) := by decide +kernel
theorem dX5_ended_34 : decode cX5_ended 34 = .ok (.getfield 50, 3) := by decide +kernel
theorem dX5_ended_37 : decode cX5_ended 37 = .ok (.iload_n 1, 1) := by decide +kernel
theorem dX5_ended_38 : decode cX5_ended 38 = .ok (.iconst 1, 1) := by decide +kernel
theorem dX5_ended_39 : decode cX5_ended 39 = .ok (.bastore, 1) := by decide +kernel
theorem dX5_ended_40 : decode cX5_ended 40 = .ok (.iconst 0, 1) := by decide +kernel
theorem dX5_ended_41 : decode cX5_ended 41 = .ok (.istore_n 3, 1) := by decide +kernel
theorem dX5_ended_42 : decode cX5_ended 42 = .ok (.iload_n 3, 1) := by decide +kernel
theorem dX5_ended_43 : decode cX5_ended 43 = .ok (.iconst 4, 1) := by decide +kernel
theorem dX5_ended_44 : decode cX5_ended 44 = .ok (.if_icmp .ge 41, 3) := by decide +kernel
theorem dX5_ended_47 : decode cX5_ended 47 = .ok (.aload_n 0, 1) := by decide +kernel
theorem dX5_ended_48 : decode cX5_ended 48 = .ok (.getfield 56, 3) := by decide +kernel
theorem dX5_ended_51 : decode cX5_ended 51 = .ok (.iconst 4, 1) := by decide +kernel
theorem dX5_ended_52 : decode cX5_ended 52 = .ok (.iload_n 1, 1) := by decide +kernel
theorem dX5_ended_53 : decode cX5_ended 53 = .ok (.imul, 1) := by decide +kernel
theorem dX5_ended_54 : decode cX5_ended 54 = .ok (.iload_n 3, 1) := by decide +kernel
theorem dX5_ended_55 : decode cX5_ended 55 = .ok (.iadd, 1) := by decide +kernel
theorem dX5_ended_56 : decode cX5_ended 56 = .ok (.aload_n 0, 1) := by decide +kernel
theorem dX5_ended_57 : decode cX5_ended 57 = .ok (.getfield 38, 3) := by decide +kernel
theorem dX5_ended_60 : decode cX5_ended 60 = .ok (.iload_n 3, 1) := by decide +kernel
theorem dX5_ended_61 : decode cX5_ended 61 = .ok (.iaload, 1) := by decide +kernel
theorem dX5_ended_62 : decode cX5_ended 62 = .ok (.iastore, 1) := by decide +kernel
theorem dX5_ended_63 : decode cX5_ended 63 = .ok (.aload_n 0, 1) := by decide +kernel
theorem dX5_ended_64 : decode cX5_ended 64 = .ok (.getfield 38, 3) := by decide +kernel
theorem dX5_ended_67 : decode cX5_ended 67 = .ok (.iload_n 3, 1) := by decide +kernel
theorem dX5_ended_68 : decode cX5_ended 68 = .ok (.aload_n 0, 1) := by decide +kernel
theorem dX5_ended_69 : decode cX5_ended 69 = .ok (.getfield 53, 3) := by decide +kernel
theorem dX5_ended_72 : decode cX5_ended 72 = .ok (.iconst 4, 1) := by decide +kernel
theorem dX5_ended_73 : decode cX5_ended 73 = .ok (.iload_n 1, 1) := by decide +kernel
theorem dX5_ended_74 : decode cX5_ended 74 = .ok (.imul, 1) := by decide +kernel
theorem dX5_ended_75 : decode cX5_ended 75 = .ok (.iload_n 3, 1) := by decide +kernel
theorem dX5_ended_76 : decode cX5_ended 76 = .ok (.iadd, 1) := by decide +kernel
theorem dX5_ended_77 : decode cX5_ended 77 = .ok (.iaload, 1) := by decide +kernel
theorem dX5_ended_78 : decode cX5_ended 78 = .ok (.iastore, 1) := by decide +kernel
theorem dX5_ended_79 : decode cX5_ended 79 = .ok (.iinc 3 1, 3) := by decide +kernel
theorem dX5_ended_82 : decode cX5_ended 82 = .ok (.goto (-40), 3) := by decide +kernel
theorem dX5_ended_85 : decode cX5_ended 85 = .ok (.iconst 0, 1) := by decide +kernel
theorem dX5_ended_86 : decode cX5_ended 86 = .ok (.ireturn, 1) := by decide +kernel
theorem dX5_ended_87 : decode cX5_ended 87 = .ok (.aload_n 0, 1) := by decide +kernel
theorem dX5_ended_88 : decode cX5_ended 88 = .ok (.iload_n 1, 1) := by decide +kernel
theorem dX5_ended_89 : decode cX5_ended 89 = .ok (.putfield 87, 3) := by decide +kernel
theorem dX5_ended_92 : decode cX5_ended 92 = .ok (.aload_n 0, 1) := by decide +kernel
theorem dX5_ended_93 : decode cX5_ended 93 = .ok (.iload_n 2, 1) := by decide +kernel
theorem dX5_ended_94 : decode cX5_ended 94 = .ok (.putfield 59, 3) := by decide +kernel
theorem dX5_ended_97 : decode cX5_ended 97 = .ok (.aload_n 0, 1) := by decide +kernel
theorem dX5_ended_98 : decode cX5_ended 98 = .ok (.getfield 17, 3) := by decide +kernel
theorem dX5_ended_101 : decode cX5_ended 101 = .ok (.iload_n 2, 1) := by decide +kernel
theorem dX5_ended_102 : decode cX5_ended 102 = .ok (.iaload, 1) := by decide +kernel
theorem dX5_ended_103 : decode cX5_ended 103 = .ok (.iconst 4, 1) := by decide +kernel
theorem dX5_ended_104 : decode cX5_ended 104 = .ok (.if_icmp .ne 23, 3) := by decide +kernel
theorem dX5_ended_107 : decode cX5_ended 107 = .ok (.aload_n 0, 1) := by decide +kernel
theorem dX5_ended_108 : decode cX5_ended 108 = .ok (.aload_n 0, 1) := by decide +kernel
theorem dX5_ended_109 : decode cX5_ended 109 = .ok (.getfield 56, 3) := by decide +kernel
theorem dX5_ended_112 : decode cX5_ended 112 = .ok (.iconst 4, 1) := by decide +kernel
theorem dX5_ended_113 : decode cX5_ended 113 = .ok (.iload_n 1, 1) := by decide +kernel
theorem dX5_ended_114 : decode cX5_ended 114 = .ok (.imul, 1) := by decide +kernel
theorem dX5_ended_115 : decode cX5_ended 115 = .ok (.invokevirtual 90, 3) := by decide +kernel
theorem dX5_ended_118 : decode cX5_ended 118 = .ok (.ifCond .eq 7, 3) := by decide +kernel
theorem dX5_ended_121 : decode cX5_ended 121 = .ok (.iconst 0, 1) := by decide +kernel
theorem dX5_ended_122 : decode cX5_ended 122 = .ok (.goto 4, 3) := by decide +kernel
theorem dX5_ended_125 : decode cX5_ended 125 = .ok (.iconst 5, 1) := by decide +kernel
theorem dX5_ended_126 : decode cX5_ended 126 = .ok (.ireturn, 1) := by decide +kernel
theorem dX5_ended_127 : decode cX5_ended 127 = .ok (.aload_n 0, 1) := by decide +kernel
theorem dX5_ended_128 : decode cX5_ended 128 = .ok (.aload_n 0, 1) := by decide +kernel
theorem dX5_ended_129 : decode cX5_ended 129 = .ok (.getfield 53, 3) := by decide +kernel
theorem dX5_ended_132 : decode cX5_ended 132 = .ok (.iconst 4, 1) := by decide +kernel
theorem dX5_ended_133 : decode cX5_ended 133 = .ok (.iload_n 1, 1) := by decide +kernel
theorem dX5_ended_134 : decode cX5_ended 134 = .ok (.imul, 1) := by decide +kernel
theorem dX5_ended_135 : decode cX5_ended 135 = .ok (.invokevirtual 90, 3) := by decide +kernel
theorem dX5_ended_138 : decode cX5_ended 138 = .ok (.ifCond .eq 7, 3) := by decide +kernel
theorem dX5_ended_141 : decode cX5_ended 141 = .ok (.iconst 0, 1) := by decide +kernel
theorem dX5_ended_142 : decode cX5_ended 142 = .ok (.goto 5, 3) := by decide +kernel
theorem dX5_ended_145 : decode cX5_ended 145 = .ok (.bipush 6, 2) := by decide +kernel
theorem dX5_ended_147 : decode cX5_ended 147 = .ok (.ireturn, 1) := by decide +kernel
set_option maxRecDepth 20000 in
theorem ggX5_check_X5_nothing : GoodIn wsX5_check wsX5_nothing := goodIn_r _ [17, 8, 7, 45, 46, 47, 48, 49, 50, 51, 52, 53, 54, 55, 56, 57, 58, 59, 60, 61, 62, 63, 64, 65, 66, 67, 68, 69] (by decide +kernel) (by decide +kernel)
set_option maxRecDepth 20000 in
theorem gX5_check_X5_nothing : GoodIn wsX5_check (wsV RX5 98 RX5 yX5_nothing wsX5_nothing) := goodIn_app (goodIn_of _ (by decide +kernel)) ggX5_check_X5_nothing
set_option maxRecDepth 20000 in
theorem ggX5_check_X5_blockEnd : GoodIn wsX5_check wsX5_blockEnd := goodIn_r _ [21, 11, 7, 9, 12, 22, 23, 45, 46, 47, 48, 49, 50, 51, 52, 53, 54, 55, 56, 57, 58, 59, 60, 61, 62, 63, 64, 65, 66, 67, 68, 69] (by decide +kernel) (by decide +kernel)
set_option maxRecDepth 20000 in
theorem gX5_check_X5_blockEnd : GoodIn wsX5_check (wsV RX5 101 RX5 yX5_blockEnd wsX5_blockEnd) := goodIn_app (goodIn_of _ (by decide +kernel)) ggX5_check_X5_blockEnd
set_option maxRecDepth 20000 in
theorem ggX5_check_X5_ended : GoodIn wsX5_check wsX5_ended := goodIn_r _ [27, 7, 11, 9, 12, 28, 8, 10, 5, 29, 30, 31, 16, 32, 45, 46, 47, 48, 49, 50, 51, 52, 53, 54, 55, 56, 57, 58, 59, 60, 61, 62, 63, 64, 65, 66, 67, 68, 69] (by decide +kernel) (by decide +kernel)
set_option maxRecDepth 20000 in
theorem gX5_check_X5_ended : GoodIn wsX5_check (wsV RX5 105 RX5 yX5_ended wsX5_ended) := goodIn_app (goodIn_of _ (by decide +kernel)) ggX5_check_X5_ended
set_option maxRecDepth 20000 in
theorem ggX5_check_X5_work : GoodIn wsX5_check wsX5_work := goodIn_r _ [36, 37, 38, 8, 9, 39, 40, 45, 46, 47, 48, 49, 50, 51, 52, 53, 54, 55, 56, 57, 58, 59, 60, 61, 62, 63, 64, 65, 66, 67, 68, 69] (by decide +kernel) (by decide +kernel)
set_option maxRecDepth 20000 in
theorem gX5_check_X5_work : GoodIn wsX5_check (wsV RX5 108 RX5 yX5_work wsX5_work) := goodIn_app (goodIn_of _ (by decide +kernel)) ggX5_check_X5_work
set_option maxRecDepth 20000 in
theorem ggX5_check_X5_unfinished : GoodIn wsX5_check wsX5_unfinished := goodIn_r _ [44, 8, 40, 45, 46, 47, 48, 49, 50, 51, 52, 53, 54, 55, 56, 57, 58, 59, 60, 61, 62, 63, 64, 65, 66, 67, 68, 69] (by decide +kernel) (by decide +kernel)
set_option maxRecDepth 20000 in
theorem gX5_check_X5_unfinished : GoodIn wsX5_check (wsV RX5 111 RX5 yX5_unfinished wsX5_unfinished) := goodIn_app (goodIn_of _ (by decide +kernel)) ggX5_check_X5_unfinished
theorem dX5_check_0 : decode cX5_check 0 = .ok (.aload_n 0, 1) := by decide +kernel
theorem dX5_check_1 : decode cX5_check 1 = .ok (.iconst 0, 1) := by decide +kernel
theorem dX5_check_2 : decode cX5_check 2 = .ok (.putfield 66, 3) := by decide +kernel
theorem dX5_check_5 : decode cX5_check 5 = .ok (.aload_n 0, 1) := by decide +kernel
theorem dX5_check_6 : decode cX5_check 6 = .ok (.iconst 1, 1) := by decide +kernel
theorem dX5_check_7 : decode cX5_check 7 = .ok (.putfield 94, 3) := by decide +kernel
theorem dX5_check_10 : decode cX5_check 10 = .ok (.iconst 0, 1) := by decide +kernel
theorem dX5_check_11 : decode cX5_check 11 = .ok (.istore_n 1, 1) := by decide +kernel
theorem dX5_check_12 : decode cX5_check 12 = .ok (.iload_n 1, 1) := by decide +kernel
theorem dX5_check_13 : decode cX5_check 13 = .ok (.sipush 160, 3) := by decide +kernel
theorem dX5_check_16 : decode cX5_check 16 = .ok (.if_icmp .ge 17, 3) := by decide +kernel
theorem dX5_check_19 : decode cX5_check 19 = .ok (.aload_n 0, 1) := by decide +kernel
theorem dX5_check_20 : decode cX5_check 20 = .ok (.getfield 44, 3) := by decide +kernel
theorem dX5_check_23 : decode cX5_check 23 = .ok (.iload_n 1, 1) := by decide +kernel
theorem dX5_check_24 : decode cX5_check 24 = .ok (.bipush (-2), 2) := by decide +kernel
theorem dX5_check_26 : decode cX5_check 26 = .ok (.iastore, 1) := by decide +kernel
theorem dX5_check_27 : decode cX5_check 27 = .ok (.iinc 1 1, 3) := by decide +kernel
theorem dX5_check_30 : decode cX5_check 30 = .ok (.goto (-18), 3) := by decide +kernel
theorem dX5_check_33 : decode cX5_check 33 = .ok (.aload_n 0, 1) := by decide +kernel
theorem dX5_check_34 : decode cX5_check 34 = .ok (.aload_n 0, 1) := by decide +kernel
theorem dX5_check_35 : decode cX5_check 35 = .ok (.getfield 73, 3) := by decide +kernel
theorem dX5_check_38 : decode cX5_check 38 = .ok (.putfield 59, 3) := by decide +kernel
theorem dX5_check_41 : decode cX5_check 41 = .ok (.aload_n 0, 1) := by decide +kernel
theorem dX5_check_42 : decode cX5_check 42 = .ok (.getfield 80, 3) := by decide +kernel
theorem dX5_check_45 : decode cX5_check 45 = .ok (.ifCond .le 6, 3) := by decide +kernel
theorem dX5_check_48 : decode cX5_check 48 = .ok (.bipush 8, 2) := by decide +kernel
theorem dX5_check_50 : decode cX5_check 50 = .ok (.ireturn, 1) := by decide +kernel
theorem dX5_check_51 : decode cX5_check 51 = .ok (.aload_n 0, 1) := by decide +kernel
theorem dX5_check_52 : decode cX5_check 52 = .ok (.invokevirtual 98, 3) := by decide +kernel
theorem dX5_check_55 : decode cX5_check 55 = .ok (.iconst 0, 1) := by decide +kernel
theorem dX5_check_56 : decode cX5_check 56 = .ok (.istore_n 1, 1) := by decide +kernel
theorem dX5_check_57 : decode cX5_check 57 = .ok (.iconst 0, 1) := by decide +kernel
theorem dX5_check_58 : decode cX5_check 58 = .ok (.istore_n 2, 1) := by decide +kernel
theorem dX5_check_59 : decode cX5_check 59 = .ok (.iconst 0, 1) := by decide +kernel
theorem dX5_check_60 : decode cX5_check 60 = .ok (.istore_n 3, 1) := by decide +kernel
theorem dX5_check_61 : decode cX5_check 61 = .ok (.iload_n 3, 1) := by decide +kernel
theorem dX5_check_62 : decode cX5_check 62 = .ok (.sipush 200, 3) := by decide +kernel
theorem dX5_check_65 : decode cX5_check 65 = .ok (.if_icmp .ge 178, 3) := by decide +kernel
theorem dX5_check_68 : decode cX5_check 68 = .ok (.iload_n 2, 1) := by decide +kernel
theorem dX5_check_69 : decode cX5_check 69 = .ok (.ifCond .ne 174, 3) := by decide +kernel
theorem dX5_check_72 : decode cX5_check 72 = .ok (.iload_n 1, 1) := by decide +kernel
theorem dX5_check_73 : decode cX5_check 73 = .ok (.aload_n 0, 1) := by decide +kernel
theorem dX5_check_74 : decode cX5_check 74 = .ok (.getfield 73, 3) := by decide +kernel
theorem dX5_check_77 : decode cX5_check 77 = .ok (.if_icmp .lt 10, 3) := by decide +kernel
theorem dX5_check_80 : decode cX5_check 80 = .ok (.aload_n 0, 1) := by decide +kernel
theorem dX5_check_81 : decode cX5_check 81 = .ok (.getfield 87, 3) := by decide +kernel
theorem dX5_check_84 : decode cX5_check 84 = .ok (.ifCond .le 159, 3) := by decide +kernel
theorem dX5_check_87 : decode cX5_check 87 = .ok (.aload_n 0, 1) := by decide +kernel
theorem dX5_check_88 : decode cX5_check 88 = .ok (.getfield 87, 3) := by decide +kernel
theorem dX5_check_91 : decode cX5_check 91 = .ok (.ifCond .le 19, 3) := by decide +kernel
theorem dX5_check_94 : decode cX5_check 94 = .ok (.iload_n 1, 1) := by decide +kernel
theorem dX5_check_95 : decode cX5_check 95 = .ok (.aload_n 0, 1) := by decide +kernel
theorem dX5_check_96 : decode cX5_check 96 = .ok (.invokevirtual 101, 3) := by decide +kernel
theorem dX5_check_99 : decode cX5_check 99 = .ok (.if_icmp .ne 11, 3) := by decide +kernel
theorem dX5_check_102 : decode cX5_check 102 = .ok (.aload_n 0, 1) := by decide +kernel
theorem dX5_check_103 : decode cX5_check 103 = .ok (.invokevirtual 105, 3) := by decide +kernel
theorem dX5_check_106 : decode cX5_check 106 = .ok (.istore_n 2, 1) := by decide +kernel
theorem dX5_check_107 : decode cX5_check 107 = .ok (.goto 130, 3) := by decide +kernel
theorem dX5_check_110 : decode cX5_check 110 = .ok (.iconst 0, 1) := by decide +kernel
theorem dX5_check_111 : decode cX5_check 111 = .ok (.istore 4, 2) := by decide +kernel
theorem dX5_check_113 : decode cX5_check 113 = .ok (.iload 4, 2) := by decide +kernel
theorem dX5_check_115 : decode cX5_check 115 = .ok (.iconst 4, 1) := by decide +kernel
theorem dX5_check_116 : decode cX5_check 116 = .ok (.if_icmp .ge 27, 3) := by decide +kernel
theorem dX5_check_119 : decode cX5_check 119 = .ok (.aload_n 0, 1) := by decide +kernel
theorem dX5_check_120 : decode cX5_check 120 = .ok (.getfield 44, 3) := by decide +kernel
theorem dX5_check_123 : decode cX5_check 123 = .ok (.iconst 4, 1) := by decide +kernel
theorem dX5_check_124 : decode cX5_check 124 = .ok (.iload_n 1, 1) := by decide +kernel
theorem dX5_check_125 : decode cX5_check 125 = .ok (.imul, 1) := by decide +kernel
theorem dX5_check_126 : decode cX5_check 126 = .ok (.iload 4, 2) := by decide +kernel
theorem dX5_check_128 : decode cX5_check 128 = .ok (.iadd, 1) := by decide +kernel
theorem dX5_check_129 : decode cX5_check 129 = .ok (.aload_n 0, 1) := by decide +kernel
theorem dX5_check_130 : decode cX5_check 130 = .ok (.getfield 38, 3) := by decide +kernel
theorem dX5_check_133 : decode cX5_check 133 = .ok (.iload 4, 2) := by decide +kernel
theorem dX5_check_135 : decode cX5_check 135 = .ok (.iaload, 1) := by decide +kernel
theorem dX5_check_136 : decode cX5_check 136 = .ok (.iastore, 1) := by decide +kernel
theorem dX5_check_137 : decode cX5_check 137 = .ok (.iinc 4 1, 3) := by decide +kernel
theorem dX5_check_140 : decode cX5_check 140 = .ok (.goto (-27), 3) := by decide +kernel
theorem dX5_check_143 : decode cX5_check 143 = .ok (.aload_n 0, 1) := by decide +kernel
theorem dX5_check_144 : decode cX5_check 144 = .ok (.iload_n 1, 1) := by decide +kernel
theorem dX5_check_145 : decode cX5_check 145 = .ok (.putfield 59, 3) := by decide +kernel
theorem dX5_check_148 : decode cX5_check 148 = .ok (.aload_n 0, 1) := by decide +kernel
theorem dX5_check_149 : decode cX5_check 149 = .ok (.getfield 17, 3) := by decide +kernel
theorem dX5_check_152 : decode cX5_check 152 = .ok (.iload_n 1, 1) := by decide +kernel
theorem dX5_check_153 : decode cX5_check 153 = .ok (.iaload, 1) := by decide +kernel
theorem dX5_check_154 : decode cX5_check 154 = .ok (.iconst 4, 1) := by decide +kernel
theorem dX5_check_155 : decode cX5_check 155 = .ok (.if_icmp .lt 72, 3) := by decide +kernel
theorem dX5_check_158 : decode cX5_check 158 = .ok (.iconst 0, 1) := by decide +kernel
theorem dX5_check_159 : decode cX5_check 159 = .ok (.istore 4, 2) := by decide +kernel
theorem dX5_check_161 : decode cX5_check 161 = .ok (.iload 4, 2) := by decide +kernel
theorem dX5_check_163 : decode cX5_check 163 = .ok (.iconst 4, 1) := by decide +kernel
theorem dX5_check_164 : decode cX5_check 164 = .ok (.if_icmp .ge 30, 3) := by decide +kernel
theorem dX5_check_167 : decode cX5_check 167 = .ok (.aload_n 0, 1) := by decide +kernel
theorem dX5_check_168 : decode cX5_check 168 = .ok (.getfield 53, 3) := by decide +kernel
theorem dX5_check_171 : decode cX5_check 171 = .ok (.iconst 4, 1) := by decide +kernel
theorem dX5_check_172 : decode cX5_check 172 = .ok (.aload_n 0, 1) := by decide +kernel
theorem dX5_check_173 : decode cX5_check 173 = .ok (.getfield 87, 3) := by decide +kernel
theorem dX5_check_176 : decode cX5_check 176 = .ok (.imul, 1) := by decide +kernel
theorem dX5_check_177 : decode cX5_check 177 = .ok (.iload 4, 2) := by decide +kernel
theorem dX5_check_179 : decode cX5_check 179 = .ok (.iadd, 1) := by decide +kernel
theorem dX5_check_180 : decode cX5_check 180 = .ok (.aload_n 0, 1) := by decide +kernel
theorem dX5_check_181 : decode cX5_check 181 = .ok (.getfield 38, 3) := by decide +kernel
theorem dX5_check_184 : decode cX5_check 184 = .ok (.iload 4, 2) := by decide +kernel
theorem dX5_check_186 : decode cX5_check 186 = .ok (.iaload, 1) := by decide +kernel
theorem dX5_check_187 : decode cX5_check 187 = .ok (.iastore, 1) := by decide +kernel
theorem dX5_check_188 : decode cX5_check 188 = .ok (.iinc 4 1, 3) := by decide +kernel
theorem dX5_check_191 : decode cX5_check 191 = .ok (.goto (-30), 3) := by decide +kernel
theorem dX5_check_194 : decode cX5_check 194 = .ok (.aload_n 0, 1) := by decide +kernel
theorem dX5_check_195 : decode cX5_check 195 = .ok (.getfield 47, 3) := by decide +kernel
theorem dX5_check_198 : decode cX5_check 198 = .ok (.aload_n 0, 1) := by decide +kernel
theorem dX5_check_199 : decode cX5_check 199 = .ok (.getfield 87, 3) := by decide +kernel
theorem dX5_check_202 : decode cX5_check 202 = .ok (.iload_n 1, 1) := by decide +kernel
theorem dX5_check_203 : decode cX5_check 203 = .ok (.iastore, 1) := by decide +kernel
theorem dX5_check_204 : decode cX5_check 204 = .ok (.aload_n 0, 1) := by decide +kernel
theorem dX5_check_205 : decode cX5_check 205 = .ok (.getfield 50, 3) := by decide +kernel
theorem dX5_check_208 : decode cX5_check 208 = .ok (.aload_n 0, 1) := by decide +kernel
theorem dX5_check_209 : decode cX5_check 209 = .ok (.getfield 87, 3) := by decide +kernel
theorem dX5_check_212 : decode cX5_check 212 = .ok (.iconst 0, 1) := by decide +kernel
theorem dX5_check_213 : decode cX5_check 213 = .ok (.bastore, 1) := by decide +kernel
theorem dX5_check_214 : decode cX5_check 214 = .ok (.aload_n 0, 1) := by decide +kernel
theorem dX5_check_215 : decode cX5_check 215 = .ok (.aload_n 0, 1) := by decide +kernel
theorem dX5_check_216 : decode cX5_check 216 = .ok (.getfield 87, 3) := by decide +kernel
theorem dX5_check_219 : decode cX5_check 219 = .ok (.iconst 1, 1) := by decide +kernel
theorem dX5_check_220 : decode cX5_check 220 = .ok (.iadd, 1) := by decide +kernel
theorem dX5_check_221 : decode cX5_check 221 = .ok (.putfield 87, 3) := by decide +kernel
theorem dX5_check_224 : decode cX5_check 224 = .ok (.goto 9, 3) := by decide +kernel
theorem dX5_check_227 : decode cX5_check 227 = .ok (.aload_n 0, 1) := by decide +kernel
theorem dX5_check_228 : decode cX5_check 228 = .ok (.iload_n 1, 1) := by decide +kernel
theorem dX5_check_229 : decode cX5_check 229 = .ok (.invokevirtual 108, 3) := by decide +kernel
theorem dX5_check_232 : decode cX5_check 232 = .ok (.istore_n 2, 1) := by decide +kernel
theorem dX5_check_233 : decode cX5_check 233 = .ok (.iload_n 1, 1) := by decide +kernel
theorem dX5_check_234 : decode cX5_check 234 = .ok (.iconst 1, 1) := by decide +kernel
theorem dX5_check_235 : decode cX5_check 235 = .ok (.iadd, 1) := by decide +kernel
theorem dX5_check_236 : decode cX5_check 236 = .ok (.istore_n 1, 1) := by decide +kernel
theorem dX5_check_237 : decode cX5_check 237 = .ok (.iinc 3 1, 3) := by decide +kernel
theorem dX5_check_240 : decode cX5_check 240 = .ok (.goto (-179), 3) := by decide +kernel
theorem dX5_check_243 : decode cX5_check 243 = .ok (.iload_n 2, 1) := by decide +kernel
theorem dX5_check_244 : decode cX5_check 244 = .ok (.ifCond .ne 21, 3) := by decide +kernel
theorem dX5_check_247 : decode cX5_check 247 = .ok (.aload_n 0, 1) := by decide +kernel
theorem dX5_check_248 : decode cX5_check 248 = .ok (.invokevirtual 111, 3) := by decide +kernel
theorem dX5_check_251 : decode cX5_check 251 = .ok (.ifCond .eq 14, 3) := by decide +kernel
theorem dX5_check_254 : decode cX5_check 254 = .ok (.aload_n 0, 1) := by decide +kernel
theorem dX5_check_255 : decode cX5_check 255 = .ok (.aload_n 0, 1) := by decide +kernel
theorem dX5_check_256 : decode cX5_check 256 = .ok (.getfield 73, 3) := by decide +kernel
theorem dX5_check_259 : decode cX5_check 259 = .ok (.putfield 59, 3) := by decide +kernel
theorem dX5_check_262 : decode cX5_check 262 = .ok (.bipush 7, 2) := by decide +kernel
theorem dX5_check_264 : decode cX5_check 264 = .ok (.ireturn, 1) := by decide +kernel
theorem dX5_check_265 : decode cX5_check 265 = .ok (.iload_n 2, 1) := by decide +kernel
theorem dX5_check_266 : decode cX5_check 266 = .ok (.ifCond .ne 8, 3) := by decide +kernel
theorem dX5_check_269 : decode cX5_check 269 = .ok (.aload_n 0, 1) := by decide +kernel
theorem dX5_check_270 : decode cX5_check 270 = .ok (.iconst (-1), 1) := by decide +kernel
theorem dX5_check_271 : decode cX5_check 271 = .ok (.putfield 59, 3) := by decide +kernel
theorem dX5_check_274 : decode cX5_check 274 = .ok (.iload_n 2, 1) := by decide +kernel
theorem dX5_check_275 : decode cX5_check 275 = .ok (.ireturn, 1) := by decide +kernel
theorem dX5_faultAt_0 : decode cX5_faultAt 0 = .ok (.aload_n 0, 1) := by decide +kernel
theorem dX5_faultAt_1 : decode cX5_faultAt 1 = .ok (.iconst 0, 1) := by decide +kernel
theorem dX5_faultAt_2 : decode cX5_faultAt 2 = .ok (.putfield 66, 3) := by decide +kernel
theorem dX5_faultAt_5 : decode cX5_faultAt 5 = .ok (.aload_n 0, 1) := by decide +kernel
theorem dX5_faultAt_6 : decode cX5_faultAt 6 = .ok (.getfield 94, 3) := by decide +kernel
theorem dX5_faultAt_9 : decode cX5_faultAt 9 = .ok (.ifCond .eq 10, 3) := by decide +kernel
theorem dX5_faultAt_12 : decode cX5_faultAt 12 = .ok (.aload_n 0, 1) := by decide +kernel
theorem dX5_faultAt_13 : decode cX5_faultAt 13 = .ok (.getfield 59, 3) := by decide +kernel
theorem dX5_faultAt_16 : decode cX5_faultAt 16 = .ok (.goto 4, 3) := by decide +kernel
theorem dX5_faultAt_19 : decode cX5_faultAt 19 = .ok (.iconst (-1), 1) := by decide +kernel
theorem dX5_faultAt_20 : decode cX5_faultAt 20 = .ok (.ireturn, 1) := by decide +kernel
set_option maxRecDepth 20000 in
theorem ggX5_held_X5_within : GoodIn wsX5_held wsX5_within := goodIn_r _ [7] (by decide +kernel) (by decide +kernel)
set_option maxRecDepth 20000 in
theorem gX5_held_X5_within : GoodIn wsX5_held (va_wsS RX5 69 yX5_within wsX5_within) := goodIn_app (goodIn_of _ (by decide +kernel)) ggX5_held_X5_within
theorem dX5_held_0 : decode cX5_held 0 = .ok (.aload_n 0, 1) := by decide +kernel
theorem dX5_held_1 : decode cX5_held 1 = .ok (.iconst 0, 1) := by decide +kernel
theorem dX5_held_2 : decode cX5_held 2 = .ok (.putfield 66, 3) := by decide +kernel
theorem dX5_held_5 : decode cX5_held 5 = .ok (.aload_n 0, 1) := by decide +kernel
theorem dX5_held_6 : decode cX5_held 6 = .ok (.getfield 94, 3) := by decide +kernel
theorem dX5_held_9 : decode cX5_held 9 = .ok (.ifCond .eq 33, 3) := by decide +kernel
theorem dX5_held_12 : decode cX5_held 12 = .ok (.iload_n 1, 1) := by decide +kernel
theorem dX5_held_13 : decode cX5_held 13 = .ok (.bipush 39, 2) := by decide +kernel
theorem dX5_held_15 : decode cX5_held 15 = .ok (.invokestatic 69, 3) := by decide +kernel
theorem dX5_held_18 : decode cX5_held 18 = .ok (.ifCond .eq 24, 3) := by decide +kernel
theorem dX5_held_21 : decode cX5_held 21 = .ok (.iload_n 2, 1) := by decide +kernel
theorem dX5_held_22 : decode cX5_held 22 = .ok (.iconst 3, 1) := by decide +kernel
theorem dX5_held_23 : decode cX5_held 23 = .ok (.invokestatic 69, 3) := by decide +kernel
theorem dX5_held_26 : decode cX5_held 26 = .ok (.ifCond .eq 16, 3) := by decide +kernel
theorem dX5_held_29 : decode cX5_held 29 = .ok (.aload_n 0, 1) := by decide +kernel
theorem dX5_held_30 : decode cX5_held 30 = .ok (.getfield 44, 3) := by decide +kernel
theorem dX5_held_33 : decode cX5_held 33 = .ok (.iconst 4, 1) := by decide +kernel
theorem dX5_held_34 : decode cX5_held 34 = .ok (.iload_n 1, 1) := by decide +kernel
theorem dX5_held_35 : decode cX5_held 35 = .ok (.imul, 1) := by decide +kernel
theorem dX5_held_36 : decode cX5_held 36 = .ok (.iload_n 2, 1) := by decide +kernel
theorem dX5_held_37 : decode cX5_held 37 = .ok (.iadd, 1) := by decide +kernel
theorem dX5_held_38 : decode cX5_held 38 = .ok (.iaload, 1) := by decide +kernel
theorem dX5_held_39 : decode cX5_held 39 = .ok (.goto 5, 3) := by decide +kernel
theorem dX5_held_42 : decode cX5_held 42 = .ok (.bipush (-2), 2) := by decide +kernel
theorem dX5_held_44 : decode cX5_held 44 = .ok (.ireturn, 1) := by decide +kernel
set_option maxRecDepth 20000 in
theorem ggX5_run_X5_nothing : GoodIn wsX5_run wsX5_nothing := goodIn_r _ [19, 14, 7, 36, 37, 38, 39, 40, 41, 42, 43, 44, 45, 46, 47, 48, 49, 50, 51, 52, 53, 54, 55, 56, 57, 58, 59, 60] (by decide +kernel) (by decide +kernel)
set_option maxRecDepth 20000 in
theorem gX5_run_X5_nothing : GoodIn wsX5_run (wsV RX5 98 RX5 yX5_nothing wsX5_nothing) := goodIn_app (goodIn_of _ (by decide +kernel)) ggX5_run_X5_nothing
set_option maxRecDepth 20000 in
theorem ggX5_run_X5_blockEnd : GoodIn wsX5_run wsX5_blockEnd := goodIn_r _ [23, 8, 7, 9, 11, 12, 10, 36, 37, 38, 39, 40, 41, 42, 43, 44, 45, 46, 47, 48, 49, 50, 51, 52, 53, 54, 55, 56, 57, 58, 59, 60] (by decide +kernel) (by decide +kernel)
set_option maxRecDepth 20000 in
theorem gX5_run_X5_blockEnd : GoodIn wsX5_run (wsV RX5 101 RX5 yX5_blockEnd wsX5_blockEnd) := goodIn_app (goodIn_of _ (by decide +kernel)) ggX5_run_X5_blockEnd
set_option maxRecDepth 20000 in
theorem ggX5_run_X5_work : GoodIn wsX5_run wsX5_work := goodIn_r _ [27, 28, 29, 14, 9, 30, 31, 36, 37, 38, 39, 40, 41, 42, 43, 44, 45, 46, 47, 48, 49, 50, 51, 52, 53, 54, 55, 56, 57, 58, 59, 60] (by decide +kernel) (by decide +kernel)
set_option maxRecDepth 20000 in
theorem gX5_run_X5_work : GoodIn wsX5_run (wsV RX5 108 RX5 yX5_work wsX5_work) := goodIn_app (goodIn_of _ (by decide +kernel)) ggX5_run_X5_work
set_option maxRecDepth 20000 in
theorem ggX5_run_X5_unfinished : GoodIn wsX5_run wsX5_unfinished := goodIn_r _ [35, 14, 31, 36, 37, 38, 39, 40, 41, 42, 43, 44, 45, 46, 47, 48, 49, 50, 51, 52, 53, 54, 55, 56, 57, 58, 59, 60] (by decide +kernel) (by decide +kernel)
set_option maxRecDepth 20000 in
theorem gX5_run_X5_unfinished : GoodIn wsX5_run (wsV RX5 111 RX5 yX5_unfinished wsX5_unfinished) := goodIn_app (goodIn_of _ (by decide +kernel)) ggX5_run_X5_unfinished
theorem dX5_run_0 : decode cX5_run 0 = .ok (.aload_n 0, 1) := by decide +kernel
theorem dX5_run_1 : decode cX5_run 1 = .ok (.iconst 1, 1) := by decide +kernel
theorem dX5_run_2 : decode cX5_run 2 = .ok (.putfield 66, 3) := by decide +kernel
theorem dX5_run_5 : decode cX5_run 5 = .ok (.iload_n 2, 1) := by decide +kernel
theorem dX5_run_6 : decode cX5_run 6 = .ok (.ifCond .lt 16, 3) := by decide +kernel
theorem dX5_run_9 : decode cX5_run 9 = .ok (.iload_n 2, 1) := by decide +kernel
theorem dX5_run_10 : decode cX5_run 10 = .ok (.bipush 32, 2) := by decide +kernel
theorem dX5_run_12 : decode cX5_run 12 = .ok (.if_icmp .gt 10, 3) := by decide +kernel
theorem dX5_run_15 : decode cX5_run 15 = .ok (.aload_n 0, 1) := by decide +kernel
theorem dX5_run_16 : decode cX5_run 16 = .ok (.getfield 80, 3) := by decide +kernel
theorem dX5_run_19 : decode cX5_run 19 = .ok (.ifCond .le 5, 3) := by decide +kernel
theorem dX5_run_22 : decode cX5_run 22 = .ok (.iconst 0, 1) := by decide +kernel
theorem dX5_run_23 : decode cX5_run 23 = .ok (.ireturn, 1) := by decide +kernel
theorem dX5_run_24 : decode cX5_run 24 = .ok (.aload_n 0, 1) := by decide +kernel
theorem dX5_run_25 : decode cX5_run 25 = .ok (.invokevirtual 98, 3) := by decide +kernel
theorem dX5_run_28 : decode cX5_run 28 = .ok (.aload_n 0, 1) := by decide +kernel
theorem dX5_run_29 : decode cX5_run 29 = .ok (.iconst 0, 1) := by decide +kernel
theorem dX5_run_30 : decode cX5_run 30 = .ok (.putfield 115, 3) := by decide +kernel
theorem dX5_run_33 : decode cX5_run 33 = .ok (.aload_n 0, 1) := by decide +kernel
theorem dX5_run_34 : decode cX5_run 34 = .ok (.iconst 0, 1) := by decide +kernel
theorem dX5_run_35 : decode cX5_run 35 = .ok (.putfield 118, 3) := by decide +kernel
theorem dX5_run_38 : decode cX5_run 38 = .ok (.aload_n 0, 1) := by decide +kernel
theorem dX5_run_39 : decode cX5_run 39 = .ok (.iconst (-1), 1) := by decide +kernel
theorem dX5_run_40 : decode cX5_run 40 = .ok (.putfield 63, 3) := by decide +kernel
theorem dX5_run_43 : decode cX5_run 43 = .ok (.iconst 0, 1) := by decide +kernel
theorem dX5_run_44 : decode cX5_run 44 = .ok (.istore_n 3, 1) := by decide +kernel
theorem dX5_run_45 : decode cX5_run 45 = .ok (.iconst 0, 1) := by decide +kernel
theorem dX5_run_46 : decode cX5_run 46 = .ok (.istore 4, 2) := by decide +kernel
theorem dX5_run_48 : decode cX5_run 48 = .ok (.iconst 0, 1) := by decide +kernel
theorem dX5_run_49 : decode cX5_run 49 = .ok (.istore 5, 2) := by decide +kernel
theorem dX5_run_51 : decode cX5_run 51 = .ok (.iload 5, 2) := by decide +kernel
theorem dX5_run_53 : decode cX5_run 53 = .ok (.sipush 5000, 3) := by decide +kernel
theorem dX5_run_56 : decode cX5_run 56 = .ok (.if_icmp .ge 277, 3) := by decide +kernel
theorem dX5_run_59 : decode cX5_run 59 = .ok (.aload_n 0, 1) := by decide +kernel
theorem dX5_run_60 : decode cX5_run 60 = .ok (.getfield 118, 3) := by decide +kernel
theorem dX5_run_63 : decode cX5_run 63 = .ok (.ifCond .ne 270, 3) := by decide +kernel
theorem dX5_run_66 : decode cX5_run 66 = .ok (.iload 4, 2) := by decide +kernel
theorem dX5_run_68 : decode cX5_run 68 = .ok (.aload_n 0, 1) := by decide +kernel
theorem dX5_run_69 : decode cX5_run 69 = .ok (.getfield 73, 3) := by decide +kernel
theorem dX5_run_72 : decode cX5_run 72 = .ok (.if_icmp .lt 10, 3) := by decide +kernel
theorem dX5_run_75 : decode cX5_run 75 = .ok (.aload_n 0, 1) := by decide +kernel
theorem dX5_run_76 : decode cX5_run 76 = .ok (.getfield 87, 3) := by decide +kernel
theorem dX5_run_79 : decode cX5_run 79 = .ok (.ifCond .le 254, 3) := by decide +kernel
theorem dX5_run_82 : decode cX5_run 82 = .ok (.iconst (-1), 1) := by decide +kernel
theorem dX5_run_83 : decode cX5_run 83 = .ok (.istore 6, 2) := by decide +kernel
theorem dX5_run_85 : decode cX5_run 85 = .ok (.aload_n 0, 1) := by decide +kernel
theorem dX5_run_86 : decode cX5_run 86 = .ok (.getfield 87, 3) := by decide +kernel
theorem dX5_run_89 : decode cX5_run 89 = .ok (.ifCond .le 63, 3) := by decide +kernel
theorem dX5_run_92 : decode cX5_run 92 = .ok (.iload 4, 2) := by decide +kernel
theorem dX5_run_94 : decode cX5_run 94 = .ok (.aload_n 0, 1) := by decide +kernel
theorem dX5_run_95 : decode cX5_run 95 = .ok (.invokevirtual 101, 3) := by decide +kernel
theorem dX5_run_98 : decode cX5_run 98 = .ok (.if_icmp .ne 54, 3) := by decide +kernel
theorem dX5_run_101 : decode cX5_run 101 = .ok (.aload_n 0, 1) := by decide +kernel
theorem dX5_run_102 : decode cX5_run 102 = .ok (.aload_n 0, 1) := by decide +kernel
theorem dX5_run_103 : decode cX5_run 103 = .ok (.getfield 87, 3) := by decide +kernel
theorem dX5_run_106 : decode cX5_run 106 = .ok (.iconst 1, 1) := by decide +kernel
theorem dX5_run_107 : decode cX5_run 107 = .ok (.isub, 1) := by decide +kernel
theorem dX5_run_108 : decode cX5_run 108 = .ok (.putfield 87, 3) := by decide +kernel
theorem dX5_run_111 : decode cX5_run 111 = .ok (.aload_n 0, 1) := by decide +kernel
theorem dX5_run_112 : decode cX5_run 112 = .ok (.getfield 47, 3) := by decide +kernel
theorem dX5_run_115 : decode cX5_run 115 = .ok (.aload_n 0, 1) := by decide +kernel
theorem dX5_run_116 : decode cX5_run 116 = .ok (.getfield 87, 3) := by decide +kernel
theorem dX5_run_119 : decode cX5_run 119 = .ok (.iaload, 1) := by decide +kernel
theorem dX5_run_120 : decode cX5_run 120 = .ok (.istore 7, 2) := by decide +kernel
theorem dX5_run_122 : decode cX5_run 122 = .ok (.aload_n 0, 1) := by decide +kernel
theorem dX5_run_123 : decode cX5_run 123 = .ok (.getfield 17, 3) := by decide +kernel
theorem dX5_run_126 : decode cX5_run 126 = .ok (.iload 7, 2) := by decide +kernel
theorem dX5_run_128 : decode cX5_run 128 = .ok (.iaload, 1) := by decide +kernel
theorem dX5_run_129 : decode cX5_run 129 = .ok (.iconst 4, 1) := by decide +kernel
theorem dX5_run_130 : decode cX5_run 130 = .ok (.if_icmp .ne 15, 3) := by decide +kernel
theorem dX5_run_133 : decode cX5_run 133 = .ok (.aload_n 0, 1) := by decide +kernel
theorem dX5_run_134 : decode cX5_run 134 = .ok (.getfield 29, 3) := by decide +kernel
theorem dX5_run_137 : decode cX5_run 137 = .ok (.iload 7, 2) := by decide +kernel
theorem dX5_run_139 : decode cX5_run 139 = .ok (.iaload, 1) := by decide +kernel
theorem dX5_run_140 : decode cX5_run 140 = .ok (.istore 4, 2) := by decide +kernel
theorem dX5_run_142 : decode cX5_run 142 = .ok (.goto 7, 3) := by decide +kernel
theorem dX5_run_145 : decode cX5_run 145 = .ok (.iload 7, 2) := by decide +kernel
theorem dX5_run_147 : decode cX5_run 147 = .ok (.istore 6, 2) := by decide +kernel
theorem dX5_run_149 : decode cX5_run 149 = .ok (.goto 63, 3) := by decide +kernel
theorem dX5_run_152 : decode cX5_run 152 = .ok (.aload_n 0, 1) := by decide +kernel
theorem dX5_run_153 : decode cX5_run 153 = .ok (.getfield 17, 3) := by decide +kernel
theorem dX5_run_156 : decode cX5_run 156 = .ok (.iload 4, 2) := by decide +kernel
theorem dX5_run_158 : decode cX5_run 158 = .ok (.iaload, 1) := by decide +kernel
theorem dX5_run_159 : decode cX5_run 159 = .ok (.iconst 4, 1) := by decide +kernel
theorem dX5_run_160 : decode cX5_run 160 = .ok (.if_icmp .lt 10, 3) := by decide +kernel
theorem dX5_run_163 : decode cX5_run 163 = .ok (.iload 4, 2) := by decide +kernel
theorem dX5_run_165 : decode cX5_run 165 = .ok (.istore 6, 2) := by decide +kernel
theorem dX5_run_167 : decode cX5_run 167 = .ok (.goto 45, 3) := by decide +kernel
theorem dX5_run_170 : decode cX5_run 170 = .ok (.aload_n 0, 1) := by decide +kernel
theorem dX5_run_171 : decode cX5_run 171 = .ok (.aload_n 0, 1) := by decide +kernel
theorem dX5_run_172 : decode cX5_run 172 = .ok (.iload 4, 2) := by decide +kernel
theorem dX5_run_174 : decode cX5_run 174 = .ok (.invokevirtual 108, 3) := by decide +kernel
theorem dX5_run_177 : decode cX5_run 177 = .ok (.putfield 118, 3) := by decide +kernel
theorem dX5_run_180 : decode cX5_run 180 = .ok (.aload_n 0, 1) := by decide +kernel
theorem dX5_run_181 : decode cX5_run 181 = .ok (.getfield 118, 3) := by decide +kernel
theorem dX5_run_184 : decode cX5_run 184 = .ok (.ifCond .ne 16, 3) := by decide +kernel
theorem dX5_run_187 : decode cX5_run 187 = .ok (.aload_n 0, 1) := by decide +kernel
theorem dX5_run_188 : decode cX5_run 188 = .ok (.aload_n 0, 1) := by decide +kernel
theorem dX5_run_189 : decode cX5_run 189 = .ok (.getfield 115, 3) := by decide +kernel
theorem dX5_run_192 : decode cX5_run 192 = .ok (.iconst 1, 1) := by decide +kernel
theorem dX5_run_193 : decode cX5_run 193 = .ok (.iadd, 1) := by decide +kernel
theorem dX5_run_194 : decode cX5_run 194 = .ok (.putfield 115, 3) := by decide +kernel
theorem dX5_run_197 : decode cX5_run 197 = .ok (.goto 9, 3) := by decide +kernel
theorem dX5_run_200 : decode cX5_run 200 = .ok (.aload_n 0, 1) := by decide +kernel
theorem dX5_run_201 : decode cX5_run 201 = .ok (.iload 4, 2) := by decide +kernel
theorem dX5_run_203 : decode cX5_run 203 = .ok (.putfield 63, 3) := by decide +kernel
theorem dX5_run_206 : decode cX5_run 206 = .ok (.iload 4, 2) := by decide +kernel
theorem dX5_run_208 : decode cX5_run 208 = .ok (.iconst 1, 1) := by decide +kernel
theorem dX5_run_209 : decode cX5_run 209 = .ok (.iadd, 1) := by decide +kernel
theorem dX5_run_210 : decode cX5_run 210 = .ok (.istore 4, 2) := by decide +kernel
theorem dX5_run_212 : decode cX5_run 212 = .ok (.iload 6, 2) := by decide +kernel
theorem dX5_run_214 : decode cX5_run 214 = .ok (.ifCond .lt 113, 3) := by decide +kernel
theorem dX5_run_217 : decode cX5_run 217 = .ok (.iload_n 3, 1) := by decide +kernel
theorem dX5_run_218 : decode cX5_run 218 = .ok (.iload_n 2, 1) := by decide +kernel
theorem dX5_run_219 : decode cX5_run 219 = .ok (.if_icmp .ge 16, 3) := by decide +kernel
theorem dX5_run_222 : decode cX5_run 222 = .ok (.iload_n 1, 1) := by decide +kernel
theorem dX5_run_223 : decode cX5_run 223 = .ok (.iload_n 3, 1) := by decide +kernel
theorem dX5_run_224 : decode cX5_run 224 = .ok (.ishr, 1) := by decide +kernel
theorem dX5_run_225 : decode cX5_run 225 = .ok (.iconst 1, 1) := by decide +kernel
theorem dX5_run_226 : decode cX5_run 226 = .ok (.iand, 1) := by decide +kernel
theorem dX5_run_227 : decode cX5_run 227 = .ok (.iconst 1, 1) := by decide +kernel
theorem dX5_run_228 : decode cX5_run 228 = .ok (.if_icmp .ne 7, 3) := by decide +kernel
theorem dX5_run_231 : decode cX5_run 231 = .ok (.iconst 1, 1) := by decide +kernel
theorem dX5_run_232 : decode cX5_run 232 = .ok (.goto 4, 3) := by decide +kernel
theorem dX5_run_235 : decode cX5_run 235 = .ok (.iconst 0, 1) := by decide +kernel
theorem dX5_run_236 : decode cX5_run 236 = .ok (.istore 7, 2) := by decide +kernel
theorem dX5_run_238 : decode cX5_run 238 = .ok (.iload_n 3, 1) := by decide +kernel
theorem dX5_run_239 : decode cX5_run 239 = .ok (.iconst 1, 1) := by decide +kernel
theorem dX5_run_240 : decode cX5_run 240 = .ok (.iadd, 1) := by decide +kernel
theorem dX5_run_241 : decode cX5_run 241 = .ok (.istore_n 3, 1) := by decide +kernel
theorem dX5_run_242 : decode cX5_run 242 = .ok (.aload_n 0, 1) := by decide +kernel
theorem dX5_run_243 : decode cX5_run 243 = .ok (.aload_n 0, 1) := by decide +kernel
theorem dX5_run_244 : decode cX5_run 244 = .ok (.getfield 115, 3) := by decide +kernel
theorem dX5_run_247 : decode cX5_run 247 = .ok (.iconst 1, 1) := by decide +kernel
theorem dX5_run_248 : decode cX5_run 248 = .ok (.iadd, 1) := by decide +kernel
theorem dX5_run_249 : decode cX5_run 249 = .ok (.putfield 115, 3) := by decide +kernel
theorem dX5_run_252 : decode cX5_run 252 = .ok (.iload 7, 2) := by decide +kernel
theorem dX5_run_254 : decode cX5_run 254 = .ok (.ifCond .eq 43, 3) := by decide +kernel
theorem dX5_run_257 : decode cX5_run 257 = .ok (.aload_n 0, 1) := by decide +kernel
theorem dX5_run_258 : decode cX5_run 258 = .ok (.getfield 47, 3) := by decide +kernel
theorem dX5_run_261 : decode cX5_run 261 = .ok (.aload_n 0, 1) := by decide +kernel
theorem dX5_run_262 : decode cX5_run 262 = .ok (.getfield 87, 3) := by decide +kernel
theorem dX5_run_265 : decode cX5_run 265 = .ok (.iload 6, 2) := by decide +kernel
theorem dX5_run_267 : decode cX5_run 267 = .ok (.iastore, 1) := by decide +kernel
theorem dX5_run_268 : decode cX5_run 268 = .ok (.aload_n 0, 1) := by decide +kernel
theorem dX5_run_269 : decode cX5_run 269 = .ok (.getfield 50, 3) := by decide +kernel
theorem dX5_run_272 : decode cX5_run 272 = .ok (.aload_n 0, 1) := by decide +kernel
theorem dX5_run_273 : decode cX5_run 273 = .ok (.getfield 87, 3) := by decide +kernel
theorem dX5_run_276 : decode cX5_run 276 = .ok (.iconst 0, 1) := by decide +kernel
theorem dX5_run_277 : decode cX5_run 277 = .ok (.bastore, 1) := by decide +kernel
theorem dX5_run_278 : decode cX5_run 278 = .ok (.aload_n 0, 1) := by decide +kernel
theorem dX5_run_279 : decode cX5_run 279 = .ok (.aload_n 0, 1) := by decide +kernel
theorem dX5_run_280 : decode cX5_run 280 = .ok (.getfield 87, 3) := by decide +kernel
theorem dX5_run_283 : decode cX5_run 283 = .ok (.iconst 1, 1) := by decide +kernel
theorem dX5_run_284 : decode cX5_run 284 = .ok (.iadd, 1) := by decide +kernel
theorem dX5_run_285 : decode cX5_run 285 = .ok (.putfield 87, 3) := by decide +kernel
theorem dX5_run_288 : decode cX5_run 288 = .ok (.iload 6, 2) := by decide +kernel
theorem dX5_run_290 : decode cX5_run 290 = .ok (.iconst 1, 1) := by decide +kernel
theorem dX5_run_291 : decode cX5_run 291 = .ok (.iadd, 1) := by decide +kernel
theorem dX5_run_292 : decode cX5_run 292 = .ok (.istore 4, 2) := by decide +kernel
theorem dX5_run_294 : decode cX5_run 294 = .ok (.goto 33, 3) := by decide +kernel
theorem dX5_run_297 : decode cX5_run 297 = .ok (.aload_n 0, 1) := by decide +kernel
theorem dX5_run_298 : decode cX5_run 298 = .ok (.getfield 17, 3) := by decide +kernel
theorem dX5_run_301 : decode cX5_run 301 = .ok (.iload 6, 2) := by decide +kernel
theorem dX5_run_303 : decode cX5_run 303 = .ok (.iaload, 1) := by decide +kernel
theorem dX5_run_304 : decode cX5_run 304 = .ok (.iconst 4, 1) := by decide +kernel
theorem dX5_run_305 : decode cX5_run 305 = .ok (.if_icmp .ne 13, 3) := by decide +kernel
theorem dX5_run_308 : decode cX5_run 308 = .ok (.aload_n 0, 1) := by decide +kernel
theorem dX5_run_309 : decode cX5_run 309 = .ok (.getfield 26, 3) := by decide +kernel
theorem dX5_run_312 : decode cX5_run 312 = .ok (.iload 6, 2) := by decide +kernel
theorem dX5_run_314 : decode cX5_run 314 = .ok (.iaload, 1) := by decide +kernel
theorem dX5_run_315 : decode cX5_run 315 = .ok (.goto 10, 3) := by decide +kernel
theorem dX5_run_318 : decode cX5_run 318 = .ok (.aload_n 0, 1) := by decide +kernel
theorem dX5_run_319 : decode cX5_run 319 = .ok (.getfield 29, 3) := by decide +kernel
theorem dX5_run_322 : decode cX5_run 322 = .ok (.iload 6, 2) := by decide +kernel
theorem dX5_run_324 : decode cX5_run 324 = .ok (.iaload, 1) := by decide +kernel
theorem dX5_run_325 : decode cX5_run 325 = .ok (.istore 4, 2) := by decide +kernel
theorem dX5_run_327 : decode cX5_run 327 = .ok (.iinc 5 1, 3) := by decide +kernel
theorem dX5_run_330 : decode cX5_run 330 = .ok (.goto (-279), 3) := by decide +kernel
theorem dX5_run_333 : decode cX5_run 333 = .ok (.aload_n 0, 1) := by decide +kernel
theorem dX5_run_334 : decode cX5_run 334 = .ok (.getfield 118, 3) := by decide +kernel
theorem dX5_run_337 : decode cX5_run 337 = .ok (.ifCond .ne 24, 3) := by decide +kernel
theorem dX5_run_340 : decode cX5_run 340 = .ok (.aload_n 0, 1) := by decide +kernel
theorem dX5_run_341 : decode cX5_run 341 = .ok (.invokevirtual 111, 3) := by decide +kernel
theorem dX5_run_344 : decode cX5_run 344 = .ok (.ifCond .eq 17, 3) := by decide +kernel
theorem dX5_run_347 : decode cX5_run 347 = .ok (.aload_n 0, 1) := by decide +kernel
theorem dX5_run_348 : decode cX5_run 348 = .ok (.bipush 7, 2) := by decide +kernel
theorem dX5_run_350 : decode cX5_run 350 = .ok (.putfield 118, 3) := by decide +kernel
theorem dX5_run_353 : decode cX5_run 353 = .ok (.aload_n 0, 1) := by decide +kernel
theorem dX5_run_354 : decode cX5_run 354 = .ok (.aload_n 0, 1) := by decide +kernel
theorem dX5_run_355 : decode cX5_run 355 = .ok (.getfield 73, 3) := by decide +kernel
theorem dX5_run_358 : decode cX5_run 358 = .ok (.putfield 63, 3) := by decide +kernel
theorem dX5_run_361 : decode cX5_run 361 = .ok (.iconst 0, 1) := by decide +kernel
theorem dX5_run_362 : decode cX5_run 362 = .ok (.istore 5, 2) := by decide +kernel
theorem dX5_run_364 : decode cX5_run 364 = .ok (.iload 5, 2) := by decide +kernel
theorem dX5_run_366 : decode cX5_run 366 = .ok (.iconst 4, 1) := by decide +kernel
theorem dX5_run_367 : decode cX5_run 367 = .ok (.if_icmp .ge 23, 3) := by decide +kernel
theorem dX5_run_370 : decode cX5_run 370 = .ok (.aload_n 0, 1) := by decide +kernel
theorem dX5_run_371 : decode cX5_run 371 = .ok (.getfield 41, 3) := by decide +kernel
theorem dX5_run_374 : decode cX5_run 374 = .ok (.iload 5, 2) := by decide +kernel
theorem dX5_run_376 : decode cX5_run 376 = .ok (.aload_n 0, 1) := by decide +kernel
theorem dX5_run_377 : decode cX5_run 377 = .ok (.getfield 38, 3) := by decide +kernel
theorem dX5_run_380 : decode cX5_run 380 = .ok (.iload 5, 2) := by decide +kernel
theorem dX5_run_382 : decode cX5_run 382 = .ok (.iaload, 1) := by decide +kernel
theorem dX5_run_383 : decode cX5_run 383 = .ok (.iastore, 1) := by decide +kernel
theorem dX5_run_384 : decode cX5_run 384 = .ok (.iinc 5 1, 3) := by decide +kernel
theorem dX5_run_387 : decode cX5_run 387 = .ok (.goto (-23), 3) := by decide +kernel
theorem dX5_run_390 : decode cX5_run 390 = .ok (.aload_n 0, 1) := by decide +kernel
theorem dX5_run_391 : decode cX5_run 391 = .ok (.aload_n 0, 1) := by decide +kernel
theorem dX5_run_392 : decode cX5_run 392 = .ok (.getfield 118, 3) := by decide +kernel
theorem dX5_run_395 : decode cX5_run 395 = .ok (.ifCond .le 7, 3) := by decide +kernel
theorem dX5_run_398 : decode cX5_run 398 = .ok (.iconst 2, 1) := by decide +kernel
theorem dX5_run_399 : decode cX5_run 399 = .ok (.goto 4, 3) := by decide +kernel
theorem dX5_run_402 : decode cX5_run 402 = .ok (.iconst 0, 1) := by decide +kernel
theorem dX5_run_403 : decode cX5_run 403 = .ok (.putfield 66, 3) := by decide +kernel
theorem dX5_run_406 : decode cX5_run 406 = .ok (.aload_n 0, 1) := by decide +kernel
theorem dX5_run_407 : decode cX5_run 407 = .ok (.getfield 115, 3) := by decide +kernel
theorem dX5_run_410 : decode cX5_run 410 = .ok (.ireturn, 1) := by decide +kernel
theorem dX5_runFault_0 : decode cX5_runFault 0 = .ok (.aload_n 0, 1) := by decide +kernel
theorem dX5_runFault_1 : decode cX5_runFault 1 = .ok (.iconst 0, 1) := by decide +kernel
theorem dX5_runFault_2 : decode cX5_runFault 2 = .ok (.putfield 66, 3) := by decide +kernel
theorem dX5_runFault_5 : decode cX5_runFault 5 = .ok (.aload_n 0, 1) := by decide +kernel
theorem dX5_runFault_6 : decode cX5_runFault 6 = .ok (.getfield 118, 3) := by decide +kernel
theorem dX5_runFault_9 : decode cX5_runFault 9 = .ok (.ireturn, 1) := by decide +kernel
theorem dX5_runAt_0 : decode cX5_runAt 0 = .ok (.aload_n 0, 1) := by decide +kernel
theorem dX5_runAt_1 : decode cX5_runAt 1 = .ok (.iconst 0, 1) := by decide +kernel
theorem dX5_runAt_2 : decode cX5_runAt 2 = .ok (.putfield 66, 3) := by decide +kernel
theorem dX5_runAt_5 : decode cX5_runAt 5 = .ok (.aload_n 0, 1) := by decide +kernel
theorem dX5_runAt_6 : decode cX5_runAt 6 = .ok (.getfield 63, 3) := by decide +kernel
theorem dX5_runAt_9 : decode cX5_runAt 9 = .ok (.ireturn, 1) := by decide +kernel
theorem dX5_steps_0 : decode cX5_steps 0 = .ok (.aload_n 0, 1) := by decide +kernel
theorem dX5_steps_1 : decode cX5_steps 1 = .ok (.iconst 0, 1) := by decide +kernel
theorem dX5_steps_2 : decode cX5_steps 2 = .ok (.putfield 66, 3) := by decide +kernel
theorem dX5_steps_5 : decode cX5_steps 5 = .ok (.aload_n 0, 1) := by decide +kernel
theorem dX5_steps_6 : decode cX5_steps 6 = .ok (.getfield 115, 3) := by decide +kernel
theorem dX5_steps_9 : decode cX5_steps 9 = .ok (.ireturn, 1) := by decide +kernel
set_option maxRecDepth 20000 in
theorem ggX5_left_X5_within : GoodIn wsX5_left wsX5_within := goodIn_r _ [6] (by decide +kernel) (by decide +kernel)
set_option maxRecDepth 20000 in
theorem gX5_left_X5_within : GoodIn wsX5_left (va_wsS RX5 69 yX5_within wsX5_within) := goodIn_app (goodIn_of _ (by decide +kernel)) ggX5_left_X5_within
theorem dX5_left_0 : decode cX5_left 0 = .ok (.aload_n 0, 1) := by decide +kernel
theorem dX5_left_1 : decode cX5_left 1 = .ok (.iconst 0, 1) := by decide +kernel
theorem dX5_left_2 : decode cX5_left 2 = .ok (.putfield 66, 3) := by decide +kernel
theorem dX5_left_5 : decode cX5_left 5 = .ok (.iload_n 1, 1) := by decide +kernel
theorem dX5_left_6 : decode cX5_left 6 = .ok (.iconst 3, 1) := by decide +kernel
theorem dX5_left_7 : decode cX5_left 7 = .ok (.invokestatic 69, 3) := by decide +kernel
theorem dX5_left_10 : decode cX5_left 10 = .ok (.ifCond .eq 12, 3) := by decide +kernel
theorem dX5_left_13 : decode cX5_left 13 = .ok (.aload_n 0, 1) := by decide +kernel
theorem dX5_left_14 : decode cX5_left 14 = .ok (.getfield 41, 3) := by decide +kernel
theorem dX5_left_17 : decode cX5_left 17 = .ok (.iload_n 1, 1) := by decide +kernel
theorem dX5_left_18 : decode cX5_left 18 = .ok (.iaload, 1) := by decide +kernel
theorem dX5_left_19 : decode cX5_left 19 = .ok (.goto 5, 3) := by decide +kernel
theorem dX5_left_22 : decode cX5_left 22 = .ok (.bipush (-2), 2) := by decide +kernel
theorem dX5_left_24 : decode cX5_left 24 = .ok (.ireturn, 1) := by decide +kernel
