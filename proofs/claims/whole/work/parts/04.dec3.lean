theorem dX10_readBoard_52 : decode cX10_readBoard 52 = .ok (.getfield 127, 3) := by decide +kernel
theorem dX10_readBoard_55 : decode cX10_readBoard 55 = .ok (.iconst 1, 1) := by decide +kernel
theorem dX10_readBoard_56 : decode cX10_readBoard 56 = .ok (.iadd, 1) := by decide +kernel
theorem dX10_readBoard_57 : decode cX10_readBoard 57 = .ok (.putfield 127, 3) := by decide +kernel
theorem dX10_readBoard_60 : decode cX10_readBoard 60 = .ok (.aload_n 0, 1) := by decide +kernel
theorem dX10_readBoard_61 : decode cX10_readBoard 61 = .ok (.aload_n 0, 1) := by decide +kernel
theorem dX10_readBoard_62 : decode cX10_readBoard 62 = .ok (.aload_n 0, 1) := by decide +kernel
theorem dX10_readBoard_63 : decode cX10_readBoard 63 = .ok (.getfield 127, 3) := by decide +kernel
theorem dX10_readBoard_66 : decode cX10_readBoard 66 = .ok (.iload_n 1, 1) := by decide +kernel
theorem dX10_readBoard_67 : decode cX10_readBoard 67 = .ok (.invokevirtual 163, 3) := by decide +kernel
theorem dX10_readBoard_70 : decode cX10_readBoard 70 = .ok (.putfield 194, 3) := by decide +kernel
theorem dX10_readBoard_73 : decode cX10_readBoard 73 = .ok (.aload_n 0, 1) := by decide +kernel
theorem dX10_readBoard_74 : decode cX10_readBoard 74 = .ok (.getfield 194, 3) := by decide +kernel
theorem dX10_readBoard_77 : decode cX10_readBoard 77 = .ok (.iconst 1, 1) := by decide +kernel
theorem dX10_readBoard_78 : decode cX10_readBoard 78 = .ok (.bipush 6, 2) := by decide +kernel
theorem dX10_readBoard_80 : decode cX10_readBoard 80 = .ok (.invokestatic 81, 3) := by decide +kernel
theorem dX10_readBoard_83 : decode cX10_readBoard 83 = .ok (.ifCond .ne 5, 3) := by decide +kernel
theorem dX10_readBoard_86 : decode cX10_readBoard 86 = .ok (.iconst 0, 1) := by decide +kernel
theorem dX10_readBoard_87 : decode cX10_readBoard 87 = .ok (.ireturn, 1) := by decide +kernel
theorem dX10_readBoard_88 : decode cX10_readBoard 88 = .ok (.aload_n 0, 1) := by decide +kernel
theorem dX10_readBoard_89 : decode cX10_readBoard 89 = .ok (.dup, 1) := by decide +kernel
theorem dX10_readBoard_90 : decode cX10_readBoard 90 = .ok (.getfield 127, 3) := by decide +kernel
theorem dX10_readBoard_93 : decode cX10_readBoard 93 = .ok (.iconst 1, 1) := by decide +kernel
theorem dX10_readBoard_94 : decode cX10_readBoard 94 = .ok (.iadd, 1) := by decide +kernel
theorem dX10_readBoard_95 : decode cX10_readBoard 95 = .ok (.putfield 127, 3) := by decide +kernel
theorem dX10_readBoard_98 : decode cX10_readBoard 98 = .ok (.iconst 0, 1) := by decide +kernel
theorem dX10_readBoard_99 : decode cX10_readBoard 99 = .ok (.istore_n 2, 1) := by decide +kernel
theorem dX10_readBoard_100 : decode cX10_readBoard 100 = .ok (.iload_n 2, 1) := by decide +kernel
theorem dX10_readBoard_101 : decode cX10_readBoard 101 = .ok (.aload_n 0, 1) := by decide +kernel
theorem dX10_readBoard_102 : decode cX10_readBoard 102 = .ok (.getfield 191, 3) := by decide +kernel
theorem dX10_readBoard_105 : decode cX10_readBoard 105 = .ok (.if_icmp .ge 108, 3) := by decide +kernel
theorem dX10_readBoard_108 : decode cX10_readBoard 108 = .ok (.aload_n 0, 1) := by decide +kernel
theorem dX10_readBoard_109 : decode cX10_readBoard 109 = .ok (.bipush 59, 2) := by decide +kernel
theorem dX10_readBoard_111 : decode cX10_readBoard 111 = .ok (.iload_n 1, 1) := by decide +kernel
theorem dX10_readBoard_112 : decode cX10_readBoard 112 = .ok (.invokevirtual 156, 3) := by decide +kernel
theorem dX10_readBoard_115 : decode cX10_readBoard 115 = .ok (.ifCond .ne 5, 3) := by decide +kernel
theorem dX10_readBoard_118 : decode cX10_readBoard 118 = .ok (.iconst 0, 1) := by decide +kernel
theorem dX10_readBoard_119 : decode cX10_readBoard 119 = .ok (.ireturn, 1) := by decide +kernel
theorem dX10_readBoard_120 : decode cX10_readBoard 120 = .ok (.aload_n 0, 1) := by decide +kernel
theorem dX10_readBoard_121 : decode cX10_readBoard 121 = .ok (.dup, 1) := by decide +kernel
theorem dX10_readBoard_122 : decode cX10_readBoard 122 = .ok (.getfield 127, 3) := by decide +kernel
theorem dX10_readBoard_125 : decode cX10_readBoard 125 = .ok (.iconst 1, 1) := by decide +kernel
theorem dX10_readBoard_126 : decode cX10_readBoard 126 = .ok (.iadd, 1) := by decide +kernel
theorem dX10_readBoard_127 : decode cX10_readBoard 127 = .ok (.putfield 127, 3) := by decide +kernel
theorem dX10_readBoard_130 : decode cX10_readBoard 130 = .ok (.iconst 0, 1) := by decide +kernel
theorem dX10_readBoard_131 : decode cX10_readBoard 131 = .ok (.istore_n 3, 1) := by decide +kernel
theorem dX10_readBoard_132 : decode cX10_readBoard 132 = .ok (.iload_n 3, 1) := by decide +kernel
theorem dX10_readBoard_133 : decode cX10_readBoard 133 = .ok (.aload_n 0, 1) := by decide +kernel
theorem dX10_readBoard_134 : decode cX10_readBoard 134 = .ok (.getfield 194, 3) := by decide +kernel
theorem dX10_readBoard_137 : decode cX10_readBoard 137 = .ok (.if_icmp .ge 70, 3) := by decide +kernel
theorem dX10_readBoard_140 : decode cX10_readBoard 140 = .ok (.aload_n 0, 1) := by decide +kernel
theorem dX10_readBoard_141 : decode cX10_readBoard 141 = .ok (.getfield 127, 3) := by decide +kernel
theorem dX10_readBoard_144 : decode cX10_readBoard 144 = .ok (.iload_n 1, 1) := by decide +kernel
theorem dX10_readBoard_145 : decode cX10_readBoard 145 = .ok (.if_icmp .ge 18, 3) := by decide +kernel
theorem dX10_readBoard_148 : decode cX10_readBoard 148 = .ok (.aload_n 0, 1) := by decide +kernel
theorem dX10_readBoard_149 : decode cX10_readBoard 149 = .ok (.getfield 16, 3) := by decide +kernel
theorem dX10_readBoard_152 : decode cX10_readBoard 152 = .ok (.aload_n 0, 1) := by decide +kernel
theorem dX10_readBoard_153 : decode cX10_readBoard 153 = .ok (.getfield 127, 3) := by decide +kernel
theorem dX10_readBoard_156 : decode cX10_readBoard 156 = .ok (.iaload, 1) := by decide +kernel
theorem dX10_readBoard_157 : decode cX10_readBoard 157 = .ok (.invokestatic 197, 3) := by decide +kernel
theorem dX10_readBoard_160 : decode cX10_readBoard 160 = .ok (.goto 5, 3) := by decide +kernel
theorem dX10_readBoard_163 : decode cX10_readBoard 163 = .ok (.bipush (-9), 2) := by decide +kernel
theorem dX10_readBoard_165 : decode cX10_readBoard 165 = .ok (.istore 4, 2) := by decide +kernel
theorem dX10_readBoard_167 : decode cX10_readBoard 167 = .ok (.iload 4, 2) := by decide +kernel
theorem dX10_readBoard_169 : decode cX10_readBoard 169 = .ok (.bipush (-9), 2) := by decide +kernel
theorem dX10_readBoard_171 : decode cX10_readBoard 171 = .ok (.if_icmp .ne 5, 3) := by decide +kernel
theorem dX10_readBoard_174 : decode cX10_readBoard 174 = .ok (.iconst 0, 1) := by decide +kernel
theorem dX10_readBoard_175 : decode cX10_readBoard 175 = .ok (.ireturn, 1) := by decide +kernel
theorem dX10_readBoard_176 : decode cX10_readBoard 176 = .ok (.aload_n 0, 1) := by decide +kernel
theorem dX10_readBoard_177 : decode cX10_readBoard 177 = .ok (.getfield 40, 3) := by decide +kernel
theorem dX10_readBoard_180 : decode cX10_readBoard 180 = .ok (.aload_n 0, 1) := by decide +kernel
theorem dX10_readBoard_181 : decode cX10_readBoard 181 = .ok (.getfield 194, 3) := by decide +kernel
theorem dX10_readBoard_184 : decode cX10_readBoard 184 = .ok (.iload_n 2, 1) := by decide +kernel
theorem dX10_readBoard_185 : decode cX10_readBoard 185 = .ok (.imul, 1) := by decide +kernel
theorem dX10_readBoard_186 : decode cX10_readBoard 186 = .ok (.iload_n 3, 1) := by decide +kernel
theorem dX10_readBoard_187 : decode cX10_readBoard 187 = .ok (.iadd, 1) := by decide +kernel
theorem dX10_readBoard_188 : decode cX10_readBoard 188 = .ok (.iload 4, 2) := by decide +kernel
theorem dX10_readBoard_190 : decode cX10_readBoard 190 = .ok (.iastore, 1) := by decide +kernel
theorem dX10_readBoard_191 : decode cX10_readBoard 191 = .ok (.aload_n 0, 1) := by decide +kernel
theorem dX10_readBoard_192 : decode cX10_readBoard 192 = .ok (.dup, 1) := by decide +kernel
theorem dX10_readBoard_193 : decode cX10_readBoard 193 = .ok (.getfield 127, 3) := by decide +kernel
theorem dX10_readBoard_196 : decode cX10_readBoard 196 = .ok (.iconst 1, 1) := by decide +kernel
theorem dX10_readBoard_197 : decode cX10_readBoard 197 = .ok (.iadd, 1) := by decide +kernel
theorem dX10_readBoard_198 : decode cX10_readBoard 198 = .ok (.putfield 127, 3) := by decide +kernel
theorem dX10_readBoard_201 : decode cX10_readBoard 201 = .ok (.iinc 3 1, 3) := by decide +kernel
theorem dX10_readBoard_204 : decode cX10_readBoard 204 = .ok (.goto (-72), 3) := by decide +kernel
theorem dX10_readBoard_207 : decode cX10_readBoard 207 = .ok (.iinc 2 1, 3) := by decide +kernel
theorem dX10_readBoard_210 : decode cX10_readBoard 210 = .ok (.goto (-110), 3) := by decide +kernel
theorem dX10_readBoard_213 : decode cX10_readBoard 213 = .ok (.aload_n 0, 1) := by decide +kernel
theorem dX10_readBoard_214 : decode cX10_readBoard 214 = .ok (.getfield 127, 3) := by decide +kernel
theorem dX10_readBoard_217 : decode cX10_readBoard 217 = .ok (.iload_n 1, 1) := by decide +kernel
theorem dX10_readBoard_218 : decode cX10_readBoard 218 = .ok (.if_icmp .ne 7, 3) := by decide +kernel
theorem dX10_readBoard_221 : decode cX10_readBoard 221 = .ok (.iconst 1, 1) := by decide +kernel
theorem dX10_readBoard_222 : decode cX10_readBoard 222 = .ok (.goto 4, 3) := by decide +kernel
theorem dX10_readBoard_225 : decode cX10_readBoard 225 = .ok (.iconst 0, 1) := by decide +kernel
theorem dX10_readBoard_226 : decode cX10_readBoard 226 = .ok (.ireturn, 1) := by decide +kernel
set_option maxRecDepth 20000 in
theorem ggX10_ofCell_X10_isCell : GoodIn wsX10_ofCell wsX10_isCell := goodIn_r _ [6, 7, 8, 9, 10, 11, 12, 13, 14, 15, 16, 17, 18, 19, 20, 21, 22, 23, 24, 25, 26, 27, 28, 29, 30, 31, 32, 33, 34, 35, 36, 37, 38, 39, 40, 41] (by decide +kernel) (by decide +kernel)
set_option maxRecDepth 20000 in
theorem gX10_ofCell_X10_isCell : GoodIn wsX10_ofCell (wsV RX10 200 RX10 yX10_isCell wsX10_isCell) := goodIn_app (goodIn_of _ (by decide +kernel)) ggX10_ofCell_X10_isCell
theorem dX10_ofCell_0 : decode cX10_ofCell 0 = .ok (.aload_n 0, 1) := by decide +kernel
theorem dX10_ofCell_1 : decode cX10_ofCell 1 = .ok (.iload_n 1, 1) := by decide +kernel
theorem dX10_ofCell_2 : decode cX10_ofCell 2 = .ok (.invokevirtual 200, 3) := by decide +kernel
theorem dX10_ofCell_5 : decode cX10_ofCell 5 = .ok (.ifCond .eq 12, 3) := by decide +kernel
theorem dX10_ofCell_8 : decode cX10_ofCell 8 = .ok (.aload_n 0, 1) := by decide +kernel
theorem dX10_ofCell_9 : decode cX10_ofCell 9 = .ok (.getfield 37, 3) := by decide +kernel
theorem dX10_ofCell_12 : decode cX10_ofCell 12 = .ok (.iload_n 1, 1) := by decide +kernel
theorem dX10_ofCell_13 : decode cX10_ofCell 13 = .ok (.iaload, 1) := by decide +kernel
theorem dX10_ofCell_14 : decode cX10_ofCell 14 = .ok (.goto 4, 3) := by decide +kernel
theorem dX10_ofCell_17 : decode cX10_ofCell 17 = .ok (.iconst (-1), 1) := by decide +kernel
theorem dX10_ofCell_18 : decode cX10_ofCell 18 = .ok (.ireturn, 1) := by decide +kernel
theorem dX10_laySeen_0 : decode cX10_laySeen 0 = .ok (.iconst 0, 1) := by decide +kernel
theorem dX10_laySeen_1 : decode cX10_laySeen 1 = .ok (.istore_n 1, 1) := by decide +kernel
theorem dX10_laySeen_2 : decode cX10_laySeen 2 = .ok (.iload_n 1, 1) := by decide +kernel
theorem dX10_laySeen_3 : decode cX10_laySeen 3 = .ok (.aload_n 0, 1) := by decide +kernel
theorem dX10_laySeen_4 : decode cX10_laySeen 4 = .ok (.getfield 182, 3) := by decide +kernel
theorem dX10_laySeen_7 : decode cX10_laySeen 7 = .ok (.aload_n 0, 1) := by decide +kernel
theorem dX10_laySeen_8 : decode cX10_laySeen 8 = .ok (.getfield 185, 3) := by decide +kernel
theorem dX10_laySeen_11 : decode cX10_laySeen 11 = .ok (.imul, 1) := by decide +kernel
theorem dX10_laySeen_12 : decode cX10_laySeen 12 = .ok (.if_icmp .ge 21, 3) := by decide +kernel
theorem dX10_laySeen_15 : decode cX10_laySeen 15 = .ok (.aload_n 0, 1) := by decide +kernel
theorem dX10_laySeen_16 : decode cX10_laySeen 16 = .ok (.getfield 43, 3) := by decide +kernel
theorem dX10_laySeen_19 : decode cX10_laySeen 19 = .ok (.iload_n 1, 1) := by decide +kernel
theorem dX10_laySeen_20 : decode cX10_laySeen 20 = .ok (.aload_n 0, 1) := by decide +kernel
theorem dX10_laySeen_21 : decode cX10_laySeen 21 = .ok (.getfield 37, 3) := by decide +kernel
theorem dX10_laySeen_24 : decode cX10_laySeen 24 = .ok (.iload_n 1, 1) := by decide +kernel
theorem dX10_laySeen_25 : decode cX10_laySeen 25 = .ok (.iaload, 1) := by decide +kernel
theorem dX10_laySeen_26 : decode cX10_laySeen 26 = .ok (.iastore, 1) := by decide +kernel
theorem dX10_laySeen_27 : decode cX10_laySeen 27 = .ok (.iinc 1 1, 3) := by decide +kernel
theorem dX10_laySeen_30 : decode cX10_laySeen 30 = .ok (.goto (-28), 3) := by decide +kernel
theorem dX10_laySeen_33 : decode cX10_laySeen 33 = .ok (.return_, 1) := by decide +kernel
set_option maxRecDepth 20000 in
theorem ggX10_cellBy_X10_within : GoodIn wsX10_cellBy wsX10_within := goodIn_r _ [6] (by decide +kernel) (by decide +kernel)
set_option maxRecDepth 20000 in
theorem gX10_cellBy_X10_within : GoodIn wsX10_cellBy (va_wsS RX10 81 yX10_within wsX10_within) := goodIn_app (goodIn_of _ (by decide +kernel)) ggX10_cellBy_X10_within
theorem dX10_cellBy_0 : decode cX10_cellBy 0 = .ok (.iload_n 1, 1) := by decide +kernel
theorem dX10_cellBy_1 : decode cX10_cellBy 1 = .ok (.aload_n 0, 1) := by decide +kernel
theorem dX10_cellBy_2 : decode cX10_cellBy 2 = .ok (.getfield 185, 3) := by decide +kernel
theorem dX10_cellBy_5 : decode cX10_cellBy 5 = .ok (.idiv, 1) := by decide +kernel
theorem dX10_cellBy_6 : decode cX10_cellBy 6 = .ok (.iload_n 2, 1) := by decide +kernel
theorem dX10_cellBy_7 : decode cX10_cellBy 7 = .ok (.isub, 1) := by decide +kernel
theorem dX10_cellBy_8 : decode cX10_cellBy 8 = .ok (.istore 4, 2) := by decide +kernel
theorem dX10_cellBy_10 : decode cX10_cellBy 10 = .ok (.iload_n 1, 1) := by decide +kernel
theorem dX10_cellBy_11 : decode cX10_cellBy 11 = .ok (.aload_n 0, 1) := by decide +kernel
theorem dX10_cellBy_12 : decode cX10_cellBy 12 = .ok (.getfield 185, 3) := by decide +kernel
theorem dX10_cellBy_15 : decode cX10_cellBy 15 = .ok (.irem, 1) := by decide +kernel
theorem dX10_cellBy_16 : decode cX10_cellBy 16 = .ok (.iload_n 3, 1) := by decide +kernel
theorem dX10_cellBy_17 : decode cX10_cellBy 17 = .ok (.iadd, 1) := by decide +kernel
theorem dX10_cellBy_18 : decode cX10_cellBy 18 = .ok (.istore 5, 2) := by decide +kernel
theorem dX10_cellBy_20 : decode cX10_cellBy 20 = .ok (.iload 4, 2) := by decide +kernel
theorem dX10_cellBy_22 : decode cX10_cellBy 22 = .ok (.iconst 0, 1) := by decide +kernel
theorem dX10_cellBy_23 : decode cX10_cellBy 23 = .ok (.aload_n 0, 1) := by decide +kernel
theorem dX10_cellBy_24 : decode cX10_cellBy 24 = .ok (.getfield 182, 3) := by decide +kernel
theorem dX10_cellBy_27 : decode cX10_cellBy 27 = .ok (.iconst 1, 1) := by decide +kernel
theorem dX10_cellBy_28 : decode cX10_cellBy 28 = .ok (.isub, 1) := by decide +kernel
theorem dX10_cellBy_29 : decode cX10_cellBy 29 = .ok (.invokestatic 81, 3) := by decide +kernel
theorem dX10_cellBy_32 : decode cX10_cellBy 32 = .ok (.ifCond .eq 31, 3) := by decide +kernel
theorem dX10_cellBy_35 : decode cX10_cellBy 35 = .ok (.iload 5, 2) := by decide +kernel
theorem dX10_cellBy_37 : decode cX10_cellBy 37 = .ok (.iconst 0, 1) := by decide +kernel
theorem dX10_cellBy_38 : decode cX10_cellBy 38 = .ok (.aload_n 0, 1) := by decide +kernel
theorem dX10_cellBy_39 : decode cX10_cellBy 39 = .ok (.getfield 185, 3) := by decide +kernel
theorem dX10_cellBy_42 : decode cX10_cellBy 42 = .ok (.iconst 1, 1) := by decide +kernel
theorem dX10_cellBy_43 : decode cX10_cellBy 43 = .ok (.isub, 1) := by decide +kernel
theorem dX10_cellBy_44 : decode cX10_cellBy 44 = .ok (.invokestatic 81, 3) := by decide +kernel
theorem dX10_cellBy_47 : decode cX10_cellBy 47 = .ok (.ifCond .eq 16, 3) := by decide +kernel
theorem dX10_cellBy_50 : decode cX10_cellBy 50 = .ok (.aload_n 0, 1) := by decide +kernel
theorem dX10_cellBy_51 : decode cX10_cellBy 51 = .ok (.getfield 185, 3) := by decide +kernel
theorem dX10_cellBy_54 : decode cX10_cellBy 54 = .ok (.iload 4, 2) := by decide +kernel
theorem dX10_cellBy_56 : decode cX10_cellBy 56 = .ok (.imul, 1) := by decide +kernel
theorem dX10_cellBy_57 : decode cX10_cellBy 57 = .ok (.iload 5, 2) := by decide +kernel
theorem dX10_cellBy_59 : decode cX10_cellBy 59 = .ok (.iadd, 1) := by decide +kernel
theorem dX10_cellBy_60 : decode cX10_cellBy 60 = .ok (.goto 5, 3) := by decide +kernel
theorem dX10_cellBy_63 : decode cX10_cellBy 63 = .ok (.bipush (-9), 2) := by decide +kernel
theorem dX10_cellBy_65 : decode cX10_cellBy 65 = .ok (.ireturn, 1) := by decide +kernel
theorem dX10_isHurt_0 : decode cX10_isHurt 0 = .ok (.iload_n 0, 1) := by decide +kernel
theorem dX10_isHurt_1 : decode cX10_isHurt 1 = .ok (.iconst 2, 1) := by decide +kernel
theorem dX10_isHurt_2 : decode cX10_isHurt 2 = .ok (.if_icmp .eq 12, 3) := by decide +kernel
theorem dX10_isHurt_5 : decode cX10_isHurt 5 = .ok (.iload_n 0, 1) := by decide +kernel
theorem dX10_isHurt_6 : decode cX10_isHurt 6 = .ok (.iconst 3, 1) := by decide +kernel
theorem dX10_isHurt_7 : decode cX10_isHurt 7 = .ok (.if_icmp .ne 11, 3) := by decide +kernel
theorem dX10_isHurt_10 : decode cX10_isHurt 10 = .ok (.iload_n 1, 1) := by decide +kernel
theorem dX10_isHurt_11 : decode cX10_isHurt 11 = .ok (.ifCond .eq 7, 3) := by decide +kernel
theorem dX10_isHurt_14 : decode cX10_isHurt 14 = .ok (.iconst 1, 1) := by decide +kernel
theorem dX10_isHurt_15 : decode cX10_isHurt 15 = .ok (.goto 4, 3) := by decide +kernel
theorem dX10_isHurt_18 : decode cX10_isHurt 18 = .ok (.iconst 0, 1) := by decide +kernel
theorem dX10_isHurt_19 : decode cX10_isHurt 19 = .ok (.ireturn, 1) := by decide +kernel
set_option maxRecDepth 20000 in
theorem ggX10_comesBy_X10_cellBy : GoodIn wsX10_comesBy wsX10_cellBy := goodIn_r _ [6, 7, 8, 9, 10, 5, 11, 20, 21, 22, 23, 24, 25, 26, 27, 28, 29, 30, 31, 32, 33, 34, 35, 36, 37, 38, 39, 40, 41, 42, 43, 44, 45, 46, 47, 48, 49, 50, 51, 52] (by decide +kernel) (by decide +kernel)
set_option maxRecDepth 20000 in
theorem gX10_comesBy_X10_cellBy : GoodIn wsX10_comesBy (wsV RX10 203 RX10 yX10_cellBy wsX10_cellBy) := goodIn_app (goodIn_of _ (by decide +kernel)) ggX10_comesBy_X10_cellBy
set_option maxRecDepth 20000 in
theorem ggX10_comesBy_X10_isHurt : GoodIn wsX10_comesBy wsX10_isHurt := goodIn_r _ [14] (by decide +kernel) (by decide +kernel)
set_option maxRecDepth 20000 in
theorem gX10_comesBy_X10_isHurt : GoodIn wsX10_comesBy (va_wsS RX10 206 yX10_isHurt wsX10_isHurt) := goodIn_app (goodIn_of _ (by decide +kernel)) ggX10_comesBy_X10_isHurt
set_option maxRecDepth 20000 in
theorem ggX10_comesBy_X10_weightOf : GoodIn wsX10_comesBy wsX10_weightOf := goodIn_r _ [18, 19, 20, 21, 22, 23, 24, 25, 26, 27, 28, 29, 30, 31, 32, 33, 34, 35, 36, 37, 38, 39, 40, 41, 42, 43, 44, 45, 46, 47, 48, 49, 50, 51, 52] (by decide +kernel) (by decide +kernel)
set_option maxRecDepth 20000 in
theorem gX10_comesBy_X10_weightOf : GoodIn wsX10_comesBy (wsV RX10 167 RX10 yX10_weightOf wsX10_weightOf) := goodIn_app (goodIn_of _ (by decide +kernel)) ggX10_comesBy_X10_weightOf
theorem dX10_comesBy_0 : decode cX10_comesBy 0 = .ok (.iconst 0, 1) := by decide +kernel
theorem dX10_comesBy_1 : decode cX10_comesBy 1 = .ok (.istore 5, 2) := by decide +kernel
theorem dX10_comesBy_3 : decode cX10_comesBy 3 = .ok (.bipush (-2), 2) := by decide +kernel
theorem dX10_comesBy_5 : decode cX10_comesBy 5 = .ok (.istore 6, 2) := by decide +kernel
theorem dX10_comesBy_7 : decode cX10_comesBy 7 = .ok (.iload 6, 2) := by decide +kernel
theorem dX10_comesBy_9 : decode cX10_comesBy 9 = .ok (.iconst 3, 1) := by decide +kernel
theorem dX10_comesBy_10 : decode cX10_comesBy 10 = .ok (.if_icmp .ge 117, 3) := by decide +kernel
theorem dX10_comesBy_13 : decode cX10_comesBy 13 = .ok (.bipush (-2), 2) := by decide +kernel
theorem dX10_comesBy_15 : decode cX10_comesBy 15 = .ok (.istore 7, 2) := by decide +kernel
theorem dX10_comesBy_17 : decode cX10_comesBy 17 = .ok (.iload 7, 2) := by decide +kernel
theorem dX10_comesBy_19 : decode cX10_comesBy 19 = .ok (.iconst 3, 1) := by decide +kernel
theorem dX10_comesBy_20 : decode cX10_comesBy 20 = .ok (.if_icmp .ge 101, 3) := by decide +kernel
theorem dX10_comesBy_23 : decode cX10_comesBy 23 = .ok (.aload_n 0, 1) := by decide +kernel
theorem dX10_comesBy_24 : decode cX10_comesBy 24 = .ok (.iload_n 1, 1) := by decide +kernel
theorem dX10_comesBy_25 : decode cX10_comesBy 25 = .ok (.iload 6, 2) := by decide +kernel
theorem dX10_comesBy_27 : decode cX10_comesBy 27 = .ok (.iload 7, 2) := by decide +kernel
theorem dX10_comesBy_29 : decode cX10_comesBy 29 = .ok (.invokevirtual 203, 3) := by decide +kernel
theorem dX10_comesBy_32 : decode cX10_comesBy 32 = .ok (.istore 8, 2) := by decide +kernel
theorem dX10_comesBy_34 : decode cX10_comesBy 34 = .ok (.iload 8, 2) := by decide +kernel
theorem dX10_comesBy_36 : decode cX10_comesBy 36 = .ok (.bipush (-9), 2) := by decide +kernel
theorem dX10_comesBy_38 : decode cX10_comesBy 38 = .ok (.if_icmp .eq 39, 3) := by decide +kernel
theorem dX10_comesBy_41 : decode cX10_comesBy 41 = .ok (.iload 4, 2) := by decide +kernel
theorem dX10_comesBy_43 : decode cX10_comesBy 43 = .ok (.ifCond .eq 16, 3) := by decide +kernel
theorem dX10_comesBy_46 : decode cX10_comesBy 46 = .ok (.aload_n 0, 1) := by decide +kernel
theorem dX10_comesBy_47 : decode cX10_comesBy 47 = .ok (.getfield 43, 3) := by decide +kernel
theorem dX10_comesBy_50 : decode cX10_comesBy 50 = .ok (.iload 8, 2) := by decide +kernel
theorem dX10_comesBy_52 : decode cX10_comesBy 52 = .ok (.iaload, 1) := by decide +kernel
theorem dX10_comesBy_53 : decode cX10_comesBy 53 = .ok (.ifCond .ne 24, 3) := by decide +kernel
theorem dX10_comesBy_56 : decode cX10_comesBy 56 = .ok (.goto 17, 3) := by decide +kernel
theorem dX10_comesBy_59 : decode cX10_comesBy 59 = .ok (.aload_n 0, 1) := by decide +kernel
theorem dX10_comesBy_60 : decode cX10_comesBy 60 = .ok (.getfield 43, 3) := by decide +kernel
theorem dX10_comesBy_63 : decode cX10_comesBy 63 = .ok (.iload 8, 2) := by decide +kernel
theorem dX10_comesBy_65 : decode cX10_comesBy 65 = .ok (.iaload, 1) := by decide +kernel
theorem dX10_comesBy_66 : decode cX10_comesBy 66 = .ok (.iload_n 3, 1) := by decide +kernel
theorem dX10_comesBy_67 : decode cX10_comesBy 67 = .ok (.invokestatic 206, 3) := by decide +kernel
theorem dX10_comesBy_70 : decode cX10_comesBy 70 = .ok (.ifCond .eq 7, 3) := by decide +kernel
theorem dX10_comesBy_73 : decode cX10_comesBy 73 = .ok (.iconst 1, 1) := by decide +kernel
theorem dX10_comesBy_74 : decode cX10_comesBy 74 = .ok (.goto 4, 3) := by decide +kernel
theorem dX10_comesBy_77 : decode cX10_comesBy 77 = .ok (.iconst 0, 1) := by decide +kernel
theorem dX10_comesBy_78 : decode cX10_comesBy 78 = .ok (.istore 9, 2) := by decide +kernel
theorem dX10_comesBy_80 : decode cX10_comesBy 80 = .ok (.iload 5, 2) := by decide +kernel
theorem dX10_comesBy_82 : decode cX10_comesBy 82 = .ok (.iload 9, 2) := by decide +kernel
theorem dX10_comesBy_84 : decode cX10_comesBy 84 = .ok (.ifCond .eq 27, 3) := by decide +kernel
theorem dX10_comesBy_87 : decode cX10_comesBy 87 = .ok (.aload_n 0, 1) := by decide +kernel
theorem dX10_comesBy_88 : decode cX10_comesBy 88 = .ok (.iconst 1, 1) := by decide +kernel
theorem dX10_comesBy_89 : decode cX10_comesBy 89 = .ok (.iload 6, 2) := by decide +kernel
theorem dX10_comesBy_91 : decode cX10_comesBy 91 = .ok (.iconst 2, 1) := by decide +kernel
theorem dX10_comesBy_92 : decode cX10_comesBy 92 = .ok (.iadd, 1) := by decide +kernel
theorem dX10_comesBy_93 : decode cX10_comesBy 93 = .ok (.iload_n 2, 1) := by decide +kernel
theorem dX10_comesBy_94 : decode cX10_comesBy 94 = .ok (.invokevirtual 167, 3) := by decide +kernel
theorem dX10_comesBy_97 : decode cX10_comesBy 97 = .ok (.aload_n 0, 1) := by decide +kernel
theorem dX10_comesBy_98 : decode cX10_comesBy 98 = .ok (.iconst 2, 1) := by decide +kernel
theorem dX10_comesBy_99 : decode cX10_comesBy 99 = .ok (.iload 7, 2) := by decide +kernel
theorem dX10_comesBy_101 : decode cX10_comesBy 101 = .ok (.iconst 2, 1) := by decide +kernel
theorem dX10_comesBy_102 : decode cX10_comesBy 102 = .ok (.iadd, 1) := by decide +kernel
theorem dX10_comesBy_103 : decode cX10_comesBy 103 = .ok (.iload_n 2, 1) := by decide +kernel
theorem dX10_comesBy_104 : decode cX10_comesBy 104 = .ok (.invokevirtual 167, 3) := by decide +kernel
theorem dX10_comesBy_107 : decode cX10_comesBy 107 = .ok (.imul, 1) := by decide +kernel
theorem dX10_comesBy_108 : decode cX10_comesBy 108 = .ok (.goto 4, 3) := by decide +kernel
theorem dX10_comesBy_111 : decode cX10_comesBy 111 = .ok (.iconst 0, 1) := by decide +kernel
theorem dX10_comesBy_112 : decode cX10_comesBy 112 = .ok (.iadd, 1) := by decide +kernel
theorem dX10_comesBy_113 : decode cX10_comesBy 113 = .ok (.istore 5, 2) := by decide +kernel
theorem dX10_comesBy_115 : decode cX10_comesBy 115 = .ok (.iinc 7 1, 3) := by decide +kernel
theorem dX10_comesBy_118 : decode cX10_comesBy 118 = .ok (.goto (-101), 3) := by decide +kernel
theorem dX10_comesBy_121 : decode cX10_comesBy 121 = .ok (.iinc 6 1, 3) := by decide +kernel
theorem dX10_comesBy_124 : decode cX10_comesBy 124 = .ok (.goto (-117), 3) := by decide +kernel
theorem dX10_comesBy_127 : decode cX10_comesBy 127 = .ok (.iload 5, 2) := by decide +kernel
theorem dX10_comesBy_129 : decode cX10_comesBy 129 = .ok (.ireturn, 1) := by decide +kernel
set_option maxRecDepth 20000 in
theorem ggX10_allWays_X10_sumOf : GoodIn wsX10_allWays wsX10_sumOf := goodIn_r _ [5, 6, 7, 8, 4, 9, 10, 11, 12, 13, 14, 15, 16, 17, 18, 19, 20, 21, 22, 23, 24, 25, 26, 27, 28, 29, 30, 31, 32, 33, 34, 35, 36, 37, 38, 39, 40, 41, 42, 43] (by decide +kernel) (by decide +kernel)
set_option maxRecDepth 20000 in
theorem gX10_allWays_X10_sumOf : GoodIn wsX10_allWays (wsV RX10 179 RX10 yX10_sumOf wsX10_sumOf) := goodIn_app (goodIn_of _ (by decide +kernel)) ggX10_allWays_X10_sumOf
theorem dX10_allWays_0 : decode cX10_allWays 0 = .ok (.aload_n 0, 1) := by decide +kernel
theorem dX10_allWays_1 : decode cX10_allWays 1 = .ok (.iconst 1, 1) := by decide +kernel
theorem dX10_allWays_2 : decode cX10_allWays 2 = .ok (.iload_n 1, 1) := by decide +kernel
theorem dX10_allWays_3 : decode cX10_allWays 3 = .ok (.invokevirtual 179, 3) := by decide +kernel
theorem dX10_allWays_6 : decode cX10_allWays 6 = .ok (.aload_n 0, 1) := by decide +kernel
theorem dX10_allWays_7 : decode cX10_allWays 7 = .ok (.iconst 2, 1) := by decide +kernel
theorem dX10_allWays_8 : decode cX10_allWays 8 = .ok (.iload_n 1, 1) := by decide +kernel
theorem dX10_allWays_9 : decode cX10_allWays 9 = .ok (.invokevirtual 179, 3) := by decide +kernel
theorem dX10_allWays_12 : decode cX10_allWays 12 = .ok (.imul, 1) := by decide +kernel
theorem dX10_allWays_13 : decode cX10_allWays 13 = .ok (.ireturn, 1) := by decide +kernel
set_option maxRecDepth 20000 in
theorem ggX10_hurts_X10_isCell : GoodIn wsX10_hurts wsX10_isCell := goodIn_r _ [7, 8, 9, 55, 56, 57, 58, 59, 60, 61, 62, 63, 64, 65, 66, 67, 68, 69, 70, 71, 72, 73, 74, 75, 76, 77, 78, 79, 80, 81, 82, 83, 84, 85, 86, 87] (by decide +kernel) (by decide +kernel)
set_option maxRecDepth 20000 in
theorem gX10_hurts_X10_isCell : GoodIn wsX10_hurts (wsV RX10 200 RX10 yX10_isCell wsX10_isCell) := goodIn_app (goodIn_of _ (by decide +kernel)) ggX10_hurts_X10_isCell
set_option maxRecDepth 20000 in
theorem ggX10_hurts_X10_isStage : GoodIn wsX10_hurts wsX10_isStage := goodIn_r _ [12, 13, 14, 6, 15] (by decide +kernel) (by decide +kernel)
set_option maxRecDepth 20000 in
theorem gX10_hurts_X10_isStage : GoodIn wsX10_hurts (va_wsS RX10 170 yX10_isStage wsX10_isStage) := goodIn_app (goodIn_of _ (by decide +kernel)) ggX10_hurts_X10_isStage
set_option maxRecDepth 20000 in
theorem ggX10_hurts_X10_isWhich : GoodIn wsX10_hurts wsX10_isWhich := goodIn_r _ [18, 13, 14, 6, 15] (by decide +kernel) (by decide +kernel)
set_option maxRecDepth 20000 in
theorem gX10_hurts_X10_isWhich : GoodIn wsX10_hurts (va_wsS RX10 102 yX10_isWhich wsX10_isWhich) := goodIn_app (goodIn_of _ (by decide +kernel)) ggX10_hurts_X10_isWhich
set_option maxRecDepth 20000 in
theorem ggX10_hurts_X10_laySeen : GoodIn wsX10_hurts wsX10_laySeen := goodIn_r _ [22, 8, 9, 23, 24, 55, 56, 57, 58, 59, 60, 61, 62, 63, 64, 65, 66, 67, 68, 69, 70, 71, 72, 73, 74, 75, 76, 77, 78, 79, 80, 81, 82, 83, 84, 85, 86, 87] (by decide +kernel) (by decide +kernel)
set_option maxRecDepth 20000 in
theorem gX10_hurts_X10_laySeen : GoodIn wsX10_hurts (wsV RX10 210 RX10 yX10_laySeen wsX10_laySeen) := goodIn_app (goodIn_of _ (by decide +kernel)) ggX10_hurts_X10_laySeen
set_option maxRecDepth 20000 in
theorem ggX10_hurts_X10_comesBy : GoodIn wsX10_hurts wsX10_comesBy := goodIn_r _ [28, 23, 29, 30, 31, 6, 32, 9, 8, 13, 14, 15, 33, 34, 35, 36, 37, 38, 39, 40, 55, 56, 57, 58, 59, 60, 61, 62, 63, 64, 65, 66, 67, 68, 69, 70, 71, 72, 73, 74, 75, 76, 77, 78, 79, 80, 81, 82, 83, 84, 85, 86, 87] (by decide +kernel) (by decide +kernel)
set_option maxRecDepth 20000 in
theorem gX10_hurts_X10_comesBy : GoodIn wsX10_hurts (wsV RX10 213 RX10 yX10_comesBy wsX10_comesBy) := goodIn_app (goodIn_of _ (by decide +kernel)) ggX10_hurts_X10_comesBy
set_option maxRecDepth 20000 in
theorem ggX10_hurts_X10_allWays : GoodIn wsX10_hurts wsX10_allWays := goodIn_r _ [44, 45, 46, 47, 6, 48, 36, 37, 38, 39, 40, 55, 56, 57, 58, 59, 60, 61, 62, 63, 64, 65, 66, 67, 68, 69, 70, 71, 72, 73, 74, 75, 76, 77, 78, 79, 80, 81, 82, 83, 84, 85, 86, 87] (by decide +kernel) (by decide +kernel)
set_option maxRecDepth 20000 in
theorem gX10_hurts_X10_allWays : GoodIn wsX10_hurts (wsV RX10 217 RX10 yX10_allWays wsX10_allWays) := goodIn_app (goodIn_of _ (by decide +kernel)) ggX10_hurts_X10_allWays
set_option maxRecDepth 20000 in
theorem ggX10_hurts_X10_share : GoodIn wsX10_hurts wsX10_share := goodIn_r _ [51, 52, 53, 6, 54] (by decide +kernel) (by decide +kernel)
set_option maxRecDepth 20000 in
theorem gX10_hurts_X10_share : GoodIn wsX10_hurts (va_wsS RX10 109 yX10_share wsX10_share) := goodIn_app (goodIn_of _ (by decide +kernel)) ggX10_hurts_X10_share
theorem dX10_hurts_0 : decode cX10_hurts 0 = .ok (.aload_n 0, 1) := by decide +kernel
theorem dX10_hurts_1 : decode cX10_hurts 1 = .ok (.iload_n 1, 1) := by decide +kernel
theorem dX10_hurts_2 : decode cX10_hurts 2 = .ok (.invokevirtual 200, 3) := by decide +kernel
theorem dX10_hurts_5 : decode cX10_hurts 5 = .ok (.ifCond .eq 25, 3) := by decide +kernel
theorem dX10_hurts_8 : decode cX10_hurts 8 = .ok (.iload_n 2, 1) := by decide +kernel
theorem dX10_hurts_9 : decode cX10_hurts 9 = .ok (.invokestatic 170, 3) := by decide +kernel
theorem dX10_hurts_12 : decode cX10_hurts 12 = .ok (.ifCond .eq 18, 3) := by decide +kernel
theorem dX10_hurts_15 : decode cX10_hurts 15 = .ok (.iload 4, 2) := by decide +kernel
theorem dX10_hurts_17 : decode cX10_hurts 17 = .ok (.invokestatic 102, 3) := by decide +kernel
theorem dX10_hurts_20 : decode cX10_hurts 20 = .ok (.ifCond .eq 10, 3) := by decide +kernel
theorem dX10_hurts_23 : decode cX10_hurts 23 = .ok (.aload_n 0, 1) := by decide +kernel
theorem dX10_hurts_24 : decode cX10_hurts 24 = .ok (.getfield 146, 3) := by decide +kernel
theorem dX10_hurts_27 : decode cX10_hurts 27 = .ok (.ifCond .ne 7, 3) := by decide +kernel
theorem dX10_hurts_30 : decode cX10_hurts 30 = .ok (.ldc2_w 75, 3) := by decide +kernel
theorem dX10_hurts_33 : decode cX10_hurts 33 = .ok (.lreturn, 1) := by decide +kernel
theorem dX10_hurts_34 : decode cX10_hurts 34 = .ok (.aload_n 0, 1) := by decide +kernel
theorem dX10_hurts_35 : decode cX10_hurts 35 = .ok (.invokevirtual 210, 3) := by decide +kernel
theorem dX10_hurts_38 : decode cX10_hurts 38 = .ok (.aload_n 0, 1) := by decide +kernel
theorem dX10_hurts_39 : decode cX10_hurts 39 = .ok (.iload_n 1, 1) := by decide +kernel
theorem dX10_hurts_40 : decode cX10_hurts 40 = .ok (.iload_n 2, 1) := by decide +kernel
theorem dX10_hurts_41 : decode cX10_hurts 41 = .ok (.iload_n 3, 1) := by decide +kernel
theorem dX10_hurts_42 : decode cX10_hurts 42 = .ok (.iconst 0, 1) := by decide +kernel
theorem dX10_hurts_43 : decode cX10_hurts 43 = .ok (.invokevirtual 213, 3) := by decide +kernel
theorem dX10_hurts_46 : decode cX10_hurts 46 = .ok (.i2l, 1) := by decide +kernel
theorem dX10_hurts_47 : decode cX10_hurts 47 = .ok (.aload_n 0, 1) := by decide +kernel
theorem dX10_hurts_48 : decode cX10_hurts 48 = .ok (.iload_n 2, 1) := by decide +kernel
theorem dX10_hurts_49 : decode cX10_hurts 49 = .ok (.invokevirtual 217, 3) := by decide +kernel
theorem dX10_hurts_52 : decode cX10_hurts 52 = .ok (.i2l, 1) := by decide +kernel
theorem dX10_hurts_53 : decode cX10_hurts 53 = .ok (.iload 4, 2) := by decide +kernel
theorem dX10_hurts_55 : decode cX10_hurts 55 = .ok (.invokestatic 109, 3) := by decide +kernel
theorem dX10_hurts_58 : decode cX10_hurts 58 = .ok (.lreturn, 1) := by decide +kernel
set_option maxRecDepth 20000 in
theorem ggX10_holds_X10_isKnife : GoodIn wsX10_holds wsX10_isKnife := goodIn_r _ [7, 8, 95, 96, 97, 98, 99, 100, 101, 102, 103, 104, 105, 106, 107, 108, 109, 110, 111, 112, 113, 114, 115, 116, 117, 118, 119, 120, 121, 122, 123, 124, 125, 126, 127] (by decide +kernel) (by decide +kernel)
set_option maxRecDepth 20000 in
theorem gX10_holds_X10_isKnife : GoodIn wsX10_holds (wsV RX10 88 RX10 yX10_isKnife wsX10_isKnife) := goodIn_app (goodIn_of _ (by decide +kernel)) ggX10_holds_X10_isKnife
set_option maxRecDepth 20000 in
theorem ggX10_holds_X10_isCell : GoodIn wsX10_holds wsX10_isCell := goodIn_r _ [12, 13, 14, 95, 96, 97, 98, 99, 100, 101, 102, 103, 104, 105, 106, 107, 108, 109, 110, 111, 112, 113, 114, 115, 116, 117, 118, 119, 120, 121, 122, 123, 124, 125, 126, 127] (by decide +kernel) (by decide +kernel)
set_option maxRecDepth 20000 in
theorem gX10_holds_X10_isCell : GoodIn wsX10_holds (wsV RX10 200 RX10 yX10_isCell wsX10_isCell) := goodIn_app (goodIn_of _ (by decide +kernel)) ggX10_holds_X10_isCell
set_option maxRecDepth 20000 in
theorem ggX10_holds_X10_isStart : GoodIn wsX10_holds wsX10_isStart := goodIn_r _ [17, 18, 19, 6, 20] (by decide +kernel) (by decide +kernel)
set_option maxRecDepth 20000 in
theorem gX10_holds_X10_isStart : GoodIn wsX10_holds (va_wsS RX10 96 yX10_isStart wsX10_isStart) := goodIn_app (goodIn_of _ (by decide +kernel)) ggX10_holds_X10_isStart
set_option maxRecDepth 20000 in
theorem ggX10_holds_X10_isFeet : GoodIn wsX10_holds wsX10_isFeet := goodIn_r _ [23, 18, 19, 6, 20] (by decide +kernel) (by decide +kernel)
set_option maxRecDepth 20000 in
theorem gX10_holds_X10_isFeet : GoodIn wsX10_holds (va_wsS RX10 99 yX10_isFeet wsX10_isFeet) := goodIn_app (goodIn_of _ (by decide +kernel)) ggX10_holds_X10_isFeet
set_option maxRecDepth 20000 in
theorem ggX10_holds_X10_isStage : GoodIn wsX10_holds wsX10_isStage := goodIn_r _ [26, 18, 19, 6, 20] (by decide +kernel) (by decide +kernel)
set_option maxRecDepth 20000 in
theorem gX10_holds_X10_isStage : GoodIn wsX10_holds (va_wsS RX10 170 yX10_isStage wsX10_isStage) := goodIn_app (goodIn_of _ (by decide +kernel)) ggX10_holds_X10_isStage
set_option maxRecDepth 20000 in
theorem ggX10_holds_X10_isWhich : GoodIn wsX10_holds wsX10_isWhich := goodIn_r _ [29, 18, 19, 6, 20] (by decide +kernel) (by decide +kernel)
set_option maxRecDepth 20000 in
theorem gX10_holds_X10_isWhich : GoodIn wsX10_holds (va_wsS RX10 102 yX10_isWhich wsX10_isWhich) := goodIn_app (goodIn_of _ (by decide +kernel)) ggX10_holds_X10_isWhich
set_option maxRecDepth 20000 in
theorem ggX10_holds_X10_laySeen : GoodIn wsX10_holds wsX10_laySeen := goodIn_r _ [33, 13, 14, 34, 35, 95, 96, 97, 98, 99, 100, 101, 102, 103, 104, 105, 106, 107, 108, 109, 110, 111, 112, 113, 114, 115, 116, 117, 118, 119, 120, 121, 122, 123, 124, 125, 126, 127] (by decide +kernel) (by decide +kernel)
set_option maxRecDepth 20000 in
theorem gX10_holds_X10_laySeen : GoodIn wsX10_holds (wsV RX10 210 RX10 yX10_laySeen wsX10_laySeen) := goodIn_app (goodIn_of _ (by decide +kernel)) ggX10_holds_X10_laySeen
set_option maxRecDepth 20000 in
theorem ggX10_holds_X10_stuckBy : GoodIn wsX10_holds wsX10_stuckBy := goodIn_r _ [39, 40, 41, 42, 6, 43, 44, 45, 46, 47, 48, 49, 50, 51, 52, 53, 54, 55, 56, 57, 58, 59, 60, 61, 62, 63, 64, 65, 66, 67, 68, 69, 95, 96, 97, 98, 99, 100, 101, 102, 103, 104, 105, 106, 107, 108, 109, 110, 111, 112, 113, 114, 115, 116, 117, 118, 119, 120, 121, 122, 123, 124, 125, 126, 127] (by decide +kernel) (by decide +kernel)
set_option maxRecDepth 20000 in
theorem gX10_holds_X10_stuckBy : GoodIn wsX10_holds (wsV RX10 176 RX10 yX10_stuckBy wsX10_stuckBy) := goodIn_app (goodIn_of _ (by decide +kernel)) ggX10_holds_X10_stuckBy
set_option maxRecDepth 20000 in
theorem ggX10_holds_X10_comesBy : GoodIn wsX10_holds wsX10_comesBy := goodIn_r _ [73, 34, 74, 75, 76, 6, 77, 14, 13, 18, 19, 20, 78, 79, 80, 65, 66, 67, 68, 69, 95, 96, 97, 98, 99, 100, 101, 102, 103, 104, 105, 106, 107, 108, 109, 110, 111, 112, 113, 114, 115, 116, 117, 118, 119, 120, 121, 122, 123, 124, 125, 126, 127] (by decide +kernel) (by decide +kernel)
set_option maxRecDepth 20000 in
theorem gX10_holds_X10_comesBy : GoodIn wsX10_holds (wsV RX10 213 RX10 yX10_comesBy wsX10_comesBy) := goodIn_app (goodIn_of _ (by decide +kernel)) ggX10_holds_X10_comesBy
set_option maxRecDepth 20000 in
theorem ggX10_holds_X10_sumOf : GoodIn wsX10_holds wsX10_sumOf := goodIn_r _ [84, 65, 66, 67, 6, 68, 69, 95, 96, 97, 98, 99, 100, 101, 102, 103, 104, 105, 106, 107, 108, 109, 110, 111, 112, 113, 114, 115, 116, 117, 118, 119, 120, 121, 122, 123, 124, 125, 126, 127] (by decide +kernel) (by decide +kernel)
set_option maxRecDepth 20000 in
theorem gX10_holds_X10_sumOf : GoodIn wsX10_holds (wsV RX10 179 RX10 yX10_sumOf wsX10_sumOf) := goodIn_app (goodIn_of _ (by decide +kernel)) ggX10_holds_X10_sumOf
set_option maxRecDepth 20000 in
theorem ggX10_holds_X10_allWays : GoodIn wsX10_holds wsX10_allWays := goodIn_r _ [88, 81, 82, 83, 6, 84, 65, 66, 67, 68, 69, 95, 96, 97, 98, 99, 100, 101, 102, 103, 104, 105, 106, 107, 108, 109, 110, 111, 112, 113, 114, 115, 116, 117, 118, 119, 120, 121, 122, 123, 124, 125, 126, 127] (by decide +kernel) (by decide +kernel)
set_option maxRecDepth 20000 in
theorem gX10_holds_X10_allWays : GoodIn wsX10_holds (wsV RX10 217 RX10 yX10_allWays wsX10_allWays) := goodIn_app (goodIn_of _ (by decide +kernel)) ggX10_holds_X10_allWays
set_option maxRecDepth 20000 in
theorem ggX10_holds_X10_share : GoodIn wsX10_holds wsX10_share := goodIn_r _ [91, 92, 93, 6, 94] (by decide +kernel) (by decide +kernel)
set_option maxRecDepth 20000 in
theorem gX10_holds_X10_share : GoodIn wsX10_holds (va_wsS RX10 109 yX10_share wsX10_share) := goodIn_app (goodIn_of _ (by decide +kernel)) ggX10_holds_X10_share
theorem dX10_holds_0 : decode cX10_holds 0 = .ok (.aload_n 0, 1) := by decide +kernel
theorem dX10_holds_1 : decode cX10_holds 1 = .ok (.iload_n 1, 1) := by decide +kernel
theorem dX10_holds_2 : decode cX10_holds 2 = .ok (.invokevirtual 88, 3) := by decide +kernel
theorem dX10_holds_5 : decode cX10_holds 5 = .ok (.ifCond .eq 49, 3) := by decide +kernel
theorem dX10_holds_8 : decode cX10_holds 8 = .ok (.aload_n 0, 1) := by decide +kernel
theorem dX10_holds_9 : decode cX10_holds 9 = .ok (.iload 4, 2) := by decide +kernel
theorem dX10_holds_11 : decode cX10_holds 11 = .ok (.invokevirtual 200, 3) := by decide +kernel
theorem dX10_holds_14 : decode cX10_holds 14 = .ok (.ifCond .eq 40, 3) := by decide +kernel
theorem dX10_holds_17 : decode cX10_holds 17 = .ok (.iload_n 2, 1) := by decide +kernel
theorem dX10_holds_18 : decode cX10_holds 18 = .ok (.invokestatic 96, 3) := by decide +kernel
theorem dX10_holds_21 : decode cX10_holds 21 = .ok (.ifCond .eq 33, 3) := by decide +kernel
theorem dX10_holds_24 : decode cX10_holds 24 = .ok (.iload_n 3, 1) := by decide +kernel
theorem dX10_holds_25 : decode cX10_holds 25 = .ok (.invokestatic 99, 3) := by decide +kernel
theorem dX10_holds_28 : decode cX10_holds 28 = .ok (.ifCond .eq 26, 3) := by decide +kernel
theorem dX10_holds_31 : decode cX10_holds 31 = .ok (.iload 5, 2) := by decide +kernel
theorem dX10_holds_33 : decode cX10_holds 33 = .ok (.invokestatic 170, 3) := by decide +kernel
theorem dX10_holds_36 : decode cX10_holds 36 = .ok (.ifCond .eq 18, 3) := by decide +kernel
theorem dX10_holds_39 : decode cX10_holds 39 = .ok (.iload 6, 2) := by decide +kernel
theorem dX10_holds_41 : decode cX10_holds 41 = .ok (.invokestatic 102, 3) := by decide +kernel
theorem dX10_holds_44 : decode cX10_holds 44 = .ok (.ifCond .eq 10, 3) := by decide +kernel
theorem dX10_holds_47 : decode cX10_holds 47 = .ok (.aload_n 0, 1) := by decide +kernel
theorem dX10_holds_48 : decode cX10_holds 48 = .ok (.getfield 146, 3) := by decide +kernel
theorem dX10_holds_51 : decode cX10_holds 51 = .ok (.ifCond .ne 7, 3) := by decide +kernel
theorem dX10_holds_54 : decode cX10_holds 54 = .ok (.ldc2_w 75, 3) := by decide +kernel
theorem dX10_holds_57 : decode cX10_holds 57 = .ok (.lreturn, 1) := by decide +kernel
theorem dX10_holds_58 : decode cX10_holds 58 = .ok (.aload_n 0, 1) := by decide +kernel
theorem dX10_holds_59 : decode cX10_holds 59 = .ok (.invokevirtual 210, 3) := by decide +kernel
theorem dX10_holds_62 : decode cX10_holds 62 = .ok (.aload_n 0, 1) := by decide +kernel
theorem dX10_holds_63 : decode cX10_holds 63 = .ok (.iload_n 1, 1) := by decide +kernel
theorem dX10_holds_64 : decode cX10_holds 64 = .ok (.iload_n 2, 1) := by decide +kernel
theorem dX10_holds_65 : decode cX10_holds 65 = .ok (.iload_n 3, 1) := by decide +kernel
theorem dX10_holds_66 : decode cX10_holds 66 = .ok (.iload 5, 2) := by decide +kernel
theorem dX10_holds_68 : decode cX10_holds 68 = .ok (.invokevirtual 176, 3) := by decide +kernel
theorem dX10_holds_71 : decode cX10_holds 71 = .ok (.i2l, 1) := by decide +kernel
theorem dX10_holds_72 : decode cX10_holds 72 = .ok (.aload_n 0, 1) := by decide +kernel
theorem dX10_holds_73 : decode cX10_holds 73 = .ok (.iload 4, 2) := by decide +kernel
theorem dX10_holds_75 : decode cX10_holds 75 = .ok (.iload 5, 2) := by decide +kernel
theorem dX10_holds_77 : decode cX10_holds 77 = .ok (.iconst 1, 1) := by decide +kernel
theorem dX10_holds_78 : decode cX10_holds 78 = .ok (.iconst 1, 1) := by decide +kernel
theorem dX10_holds_79 : decode cX10_holds 79 = .ok (.invokevirtual 213, 3) := by decide +kernel
theorem dX10_holds_82 : decode cX10_holds 82 = .ok (.i2l, 1) := by decide +kernel
theorem dX10_holds_83 : decode cX10_holds 83 = .ok (.lmul, 1) := by decide +kernel
theorem dX10_holds_84 : decode cX10_holds 84 = .ok (.lstore 7, 2) := by decide +kernel
theorem dX10_holds_86 : decode cX10_holds 86 = .ok (.lload 7, 2) := by decide +kernel
theorem dX10_holds_88 : decode cX10_holds 88 = .ok (.aload_n 0, 1) := by decide +kernel
theorem dX10_holds_89 : decode cX10_holds 89 = .ok (.iconst 0, 1) := by decide +kernel
theorem dX10_holds_90 : decode cX10_holds 90 = .ok (.iload 5, 2) := by decide +kernel
theorem dX10_holds_92 : decode cX10_holds 92 = .ok (.invokevirtual 179, 3) := by decide +kernel
theorem dX10_holds_95 : decode cX10_holds 95 = .ok (.i2l, 1) := by decide +kernel
theorem dX10_holds_96 : decode cX10_holds 96 = .ok (.aload_n 0, 1) := by decide +kernel
theorem dX10_holds_97 : decode cX10_holds 97 = .ok (.iload 5, 2) := by decide +kernel
theorem dX10_holds_99 : decode cX10_holds 99 = .ok (.invokevirtual 217, 3) := by decide +kernel
theorem dX10_holds_102 : decode cX10_holds 102 = .ok (.i2l, 1) := by decide +kernel
theorem dX10_holds_103 : decode cX10_holds 103 = .ok (.lmul, 1) := by decide +kernel
theorem dX10_holds_104 : decode cX10_holds 104 = .ok (.iload 6, 2) := by decide +kernel
theorem dX10_holds_106 : decode cX10_holds 106 = .ok (.invokestatic 109, 3) := by decide +kernel
theorem dX10_holds_109 : decode cX10_holds 109 = .ok (.lreturn, 1) := by decide +kernel
set_option maxRecDepth 20000 in
theorem ggX10_whyRule_X10_within : GoodIn wsX10_whyRule wsX10_within := goodIn_r _ [6] (by decide +kernel) (by decide +kernel)
set_option maxRecDepth 20000 in
theorem gX10_whyRule_X10_within : GoodIn wsX10_whyRule (va_wsS RX10 81 yX10_within wsX10_within) := goodIn_app (goodIn_of _ (by decide +kernel)) ggX10_whyRule_X10_within
set_option maxRecDepth 20000 in
theorem ggX10_whyRule_X10_isStage : GoodIn wsX10_whyRule wsX10_isStage := goodIn_r _ [9, 3, 4, 5, 6] (by decide +kernel) (by decide +kernel)
set_option maxRecDepth 20000 in
theorem gX10_whyRule_X10_isStage : GoodIn wsX10_whyRule (va_wsS RX10 170 yX10_isStage wsX10_isStage) := goodIn_app (goodIn_of _ (by decide +kernel)) ggX10_whyRule_X10_isStage
theorem dX10_whyRule_0 : decode cX10_whyRule 0 = .ok (.iload_n 1, 1) := by decide +kernel
theorem dX10_whyRule_1 : decode cX10_whyRule 1 = .ok (.iconst 0, 1) := by decide +kernel
theorem dX10_whyRule_2 : decode cX10_whyRule 2 = .ok (.sipush 1000, 3) := by decide +kernel
theorem dX10_whyRule_5 : decode cX10_whyRule 5 = .ok (.invokestatic 81, 3) := by decide +kernel
theorem dX10_whyRule_8 : decode cX10_whyRule 8 = .ok (.ifCond .eq 10, 3) := by decide +kernel
theorem dX10_whyRule_11 : decode cX10_whyRule 11 = .ok (.iload_n 2, 1) := by decide +kernel
theorem dX10_whyRule_12 : decode cX10_whyRule 12 = .ok (.invokestatic 170, 3) := by decide +kernel
theorem dX10_whyRule_15 : decode cX10_whyRule 15 = .ok (.ifCond .ne 6, 3) := by decide +kernel
theorem dX10_whyRule_18 : decode cX10_whyRule 18 = .ok (.bipush (-2), 2) := by decide +kernel
theorem dX10_whyRule_20 : decode cX10_whyRule 20 = .ok (.ireturn, 1) := by decide +kernel
theorem dX10_whyRule_21 : decode cX10_whyRule 21 = .ok (.aload_n 0, 1) := by decide +kernel
theorem dX10_whyRule_22 : decode cX10_whyRule 22 = .ok (.getfield 146, 3) := by decide +kernel
theorem dX10_whyRule_25 : decode cX10_whyRule 25 = .ok (.ifCond .eq 14, 3) := by decide +kernel
theorem dX10_whyRule_28 : decode cX10_whyRule 28 = .ok (.aload_n 0, 1) := by decide +kernel
theorem dX10_whyRule_29 : decode cX10_whyRule 29 = .ok (.getfield 182, 3) := by decide +kernel
theorem dX10_whyRule_32 : decode cX10_whyRule 32 = .ok (.ifCond .le 7, 3) := by decide +kernel
theorem dX10_whyRule_35 : decode cX10_whyRule 35 = .ok (.iconst 0, 1) := by decide +kernel
theorem dX10_whyRule_36 : decode cX10_whyRule 36 = .ok (.goto 5, 3) := by decide +kernel
theorem dX10_whyRule_39 : decode cX10_whyRule 39 = .ok (.bipush (-3), 2) := by decide +kernel
theorem dX10_whyRule_41 : decode cX10_whyRule 41 = .ok (.ireturn, 1) := by decide +kernel
set_option maxRecDepth 20000 in
theorem ggX10_isLow_X10_comesBy : GoodIn wsX10_isLow wsX10_comesBy := goodIn_r _ [5, 6, 7, 8, 9, 4, 10, 11, 12, 13, 14, 15, 16, 17, 18, 19, 20, 21, 22, 23, 32, 33, 34, 35, 36, 37, 38, 39, 40, 41, 42, 43, 44, 45, 46, 47, 48, 49, 50, 51, 52, 53, 54, 55, 56, 57, 58, 59, 60, 61, 62, 63, 64] (by decide +kernel) (by decide +kernel)
set_option maxRecDepth 20000 in
theorem gX10_isLow_X10_comesBy : GoodIn wsX10_isLow (wsV RX10 213 RX10 yX10_comesBy wsX10_comesBy) := goodIn_app (goodIn_of _ (by decide +kernel)) ggX10_isLow_X10_comesBy
set_option maxRecDepth 20000 in
theorem ggX10_isLow_X10_allWays : GoodIn wsX10_isLow wsX10_allWays := goodIn_r _ [27, 28, 29, 30, 4, 31, 19, 20, 21, 22, 23, 32, 33, 34, 35, 36, 37, 38, 39, 40, 41, 42, 43, 44, 45, 46, 47, 48, 49, 50, 51, 52, 53, 54, 55, 56, 57, 58, 59, 60, 61, 62, 63, 64] (by decide +kernel) (by decide +kernel)
set_option maxRecDepth 20000 in
theorem gX10_isLow_X10_allWays : GoodIn wsX10_isLow (wsV RX10 217 RX10 yX10_allWays wsX10_allWays) := goodIn_app (goodIn_of _ (by decide +kernel)) ggX10_isLow_X10_allWays
theorem dX10_isLow_0 : decode cX10_isLow 0 = .ok (.sipush 1000, 3) := by decide +kernel
theorem dX10_isLow_3 : decode cX10_isLow 3 = .ok (.aload_n 0, 1) := by decide +kernel
theorem dX10_isLow_4 : decode cX10_isLow 4 = .ok (.iload_n 1, 1) := by decide +kernel
theorem dX10_isLow_5 : decode cX10_isLow 5 = .ok (.iload_n 2, 1) := by decide +kernel
theorem dX10_isLow_6 : decode cX10_isLow 6 = .ok (.iload_n 3, 1) := by decide +kernel
theorem dX10_isLow_7 : decode cX10_isLow 7 = .ok (.iconst 0, 1) := by decide +kernel
theorem dX10_isLow_8 : decode cX10_isLow 8 = .ok (.invokevirtual 213, 3) := by decide +kernel
theorem dX10_isLow_11 : decode cX10_isLow 11 = .ok (.imul, 1) := by decide +kernel
theorem dX10_isLow_12 : decode cX10_isLow 12 = .ok (.iload 4, 2) := by decide +kernel
theorem dX10_isLow_14 : decode cX10_isLow 14 = .ok (.aload_n 0, 1) := by decide +kernel
theorem dX10_isLow_15 : decode cX10_isLow 15 = .ok (.iload_n 2, 1) := by decide +kernel
theorem dX10_isLow_16 : decode cX10_isLow 16 = .ok (.invokevirtual 217, 3) := by decide +kernel
theorem dX10_isLow_19 : decode cX10_isLow 19 = .ok (.imul, 1) := by decide +kernel
theorem dX10_isLow_20 : decode cX10_isLow 20 = .ok (.if_icmp .gt 7, 3) := by decide +kernel
theorem dX10_isLow_23 : decode cX10_isLow 23 = .ok (.iconst 1, 1) := by decide +kernel
theorem dX10_isLow_24 : decode cX10_isLow 24 = .ok (.goto 4, 3) := by decide +kernel
theorem dX10_isLow_27 : decode cX10_isLow 27 = .ok (.iconst 0, 1) := by decide +kernel
theorem dX10_isLow_28 : decode cX10_isLow 28 = .ok (.ireturn, 1) := by decide +kernel
set_option maxRecDepth 20000 in
theorem ggX10_isAllowed_X10_isLow : GoodIn wsX10_isAllowed wsX10_isLow := goodIn_r _ [6, 7, 8, 9, 5, 10, 11, 12, 13, 14, 15, 16, 17, 18, 19, 20, 21, 22, 23, 24, 25, 26, 27, 28, 29, 30, 31, 32, 33, 34, 35, 36, 37, 38, 39, 40, 41, 42, 43, 44, 45, 46, 47, 48, 49, 50, 51, 52, 53, 54, 55, 56, 57, 58, 59, 60, 61, 62, 63, 64, 65, 66, 67, 68, 69] (by decide +kernel) (by decide +kernel)
set_option maxRecDepth 20000 in
theorem gX10_isAllowed_X10_isLow : GoodIn wsX10_isAllowed (wsV RX10 220 RX10 yX10_isLow wsX10_isLow) := goodIn_app (goodIn_of _ (by decide +kernel)) ggX10_isAllowed_X10_isLow
theorem dX10_isAllowed_0 : decode cX10_isAllowed 0 = .ok (.aload_n 0, 1) := by decide +kernel
theorem dX10_isAllowed_1 : decode cX10_isAllowed 1 = .ok (.getfield 37, 3) := by decide +kernel
theorem dX10_isAllowed_4 : decode cX10_isAllowed 4 = .ok (.iload_n 1, 1) := by decide +kernel
theorem dX10_isAllowed_5 : decode cX10_isAllowed 5 = .ok (.iaload, 1) := by decide +kernel
theorem dX10_isAllowed_6 : decode cX10_isAllowed 6 = .ok (.ifCond .ne 29, 3) := by decide +kernel
theorem dX10_isAllowed_9 : decode cX10_isAllowed 9 = .ok (.aload_n 0, 1) := by decide +kernel
theorem dX10_isAllowed_10 : decode cX10_isAllowed 10 = .ok (.iload_n 1, 1) := by decide +kernel
theorem dX10_isAllowed_11 : decode cX10_isAllowed 11 = .ok (.iload_n 3, 1) := by decide +kernel
theorem dX10_isAllowed_12 : decode cX10_isAllowed 12 = .ok (.iconst 1, 1) := by decide +kernel
theorem dX10_isAllowed_13 : decode cX10_isAllowed 13 = .ok (.iload_n 2, 1) := by decide +kernel
theorem dX10_isAllowed_14 : decode cX10_isAllowed 14 = .ok (.invokevirtual 220, 3) := by decide +kernel
theorem dX10_isAllowed_17 : decode cX10_isAllowed 17 = .ok (.ifCond .eq 18, 3) := by decide +kernel
theorem dX10_isAllowed_20 : decode cX10_isAllowed 20 = .ok (.aload_n 0, 1) := by decide +kernel
theorem dX10_isAllowed_21 : decode cX10_isAllowed 21 = .ok (.iload_n 1, 1) := by decide +kernel
theorem dX10_isAllowed_22 : decode cX10_isAllowed 22 = .ok (.iload_n 3, 1) := by decide +kernel
theorem dX10_isAllowed_23 : decode cX10_isAllowed 23 = .ok (.iconst 0, 1) := by decide +kernel
theorem dX10_isAllowed_24 : decode cX10_isAllowed 24 = .ok (.iload_n 2, 1) := by decide +kernel
theorem dX10_isAllowed_25 : decode cX10_isAllowed 25 = .ok (.invokevirtual 220, 3) := by decide +kernel
theorem dX10_isAllowed_28 : decode cX10_isAllowed 28 = .ok (.ifCond .eq 7, 3) := by decide +kernel
theorem dX10_isAllowed_31 : decode cX10_isAllowed 31 = .ok (.iconst 1, 1) := by decide +kernel
theorem dX10_isAllowed_32 : decode cX10_isAllowed 32 = .ok (.goto 4, 3) := by decide +kernel
theorem dX10_isAllowed_35 : decode cX10_isAllowed 35 = .ok (.iconst 0, 1) := by decide +kernel
theorem dX10_isAllowed_36 : decode cX10_isAllowed 36 = .ok (.ireturn, 1) := by decide +kernel
set_option maxRecDepth 20000 in
theorem ggX10_allowed_X10_whyRule : GoodIn wsX10_allowed wsX10_whyRule := goodIn_r _ [7, 8, 1, 9, 10, 6, 11, 12, 13, 14, 53, 54, 55, 56, 57, 58, 59, 60, 61, 62, 63, 64, 65, 66, 67, 68, 69, 70, 71, 72, 73, 74, 75, 76, 77, 78, 79, 80, 81, 82, 83, 84, 85] (by decide +kernel) (by decide +kernel)
set_option maxRecDepth 20000 in
theorem gX10_allowed_X10_whyRule : GoodIn wsX10_allowed (wsV RX10 224 RX10 yX10_whyRule wsX10_whyRule) := goodIn_app (goodIn_of _ (by decide +kernel)) ggX10_allowed_X10_whyRule
set_option maxRecDepth 20000 in
theorem ggX10_allowed_X10_laySeen : GoodIn wsX10_allowed wsX10_laySeen := goodIn_r _ [18, 1, 2, 19, 20, 53, 54, 55, 56, 57, 58, 59, 60, 61, 62, 63, 64, 65, 66, 67, 68, 69, 70, 71, 72, 73, 74, 75, 76, 77, 78, 79, 80, 81, 82, 83, 84, 85] (by decide +kernel) (by decide +kernel)
set_option maxRecDepth 20000 in
theorem gX10_allowed_X10_laySeen : GoodIn wsX10_allowed (wsV RX10 210 RX10 yX10_laySeen wsX10_laySeen) := goodIn_app (goodIn_of _ (by decide +kernel)) ggX10_allowed_X10_laySeen
set_option maxRecDepth 20000 in
theorem ggX10_allowed_X10_isAllowed : GoodIn wsX10_allowed wsX10_isAllowed := goodIn_r _ [24, 20, 25, 26, 27, 6, 28, 29, 30, 31, 32, 19, 33, 34, 35, 36, 2, 1, 9, 10, 11, 37, 38, 39, 40, 41, 42, 43, 44, 45, 46, 47, 48, 49, 50, 51, 52, 53, 54, 55, 56, 57, 58, 59, 60, 61, 62, 63, 64, 65, 66, 67, 68, 69, 70, 71, 72, 73, 74, 75, 76, 77, 78, 79, 80, 81, 82, 83, 84, 85] (by decide +kernel) (by decide +kernel)
set_option maxRecDepth 20000 in
theorem gX10_allowed_X10_isAllowed : GoodIn wsX10_allowed (wsV RX10 227 RX10 yX10_isAllowed wsX10_isAllowed) := goodIn_app (goodIn_of _ (by decide +kernel)) ggX10_allowed_X10_isAllowed
theorem dX10_allowed_0 : decode cX10_allowed 0 = .ok (.aload_n 0, 1) := by decide +kernel
theorem dX10_allowed_1 : decode cX10_allowed 1 = .ok (.iload_n 1, 1) := by decide +kernel
theorem dX10_allowed_2 : decode cX10_allowed 2 = .ok (.iload_n 2, 1) := by decide +kernel
theorem dX10_allowed_3 : decode cX10_allowed 3 = .ok (.invokevirtual 224, 3) := by decide +kernel
theorem dX10_allowed_6 : decode cX10_allowed 6 = .ok (.istore_n 3, 1) := by decide +kernel
theorem dX10_allowed_7 : decode cX10_allowed 7 = .ok (.iload_n 3, 1) := by decide +kernel
theorem dX10_allowed_8 : decode cX10_allowed 8 = .ok (.ifCond .eq 5, 3) := by decide +kernel
theorem dX10_allowed_11 : decode cX10_allowed 11 = .ok (.iload_n 3, 1) := by decide +kernel
theorem dX10_allowed_12 : decode cX10_allowed 12 = .ok (.ireturn, 1) := by decide +kernel
theorem dX10_allowed_13 : decode cX10_allowed 13 = .ok (.aload_n 0, 1) := by decide +kernel
theorem dX10_allowed_14 : decode cX10_allowed 14 = .ok (.invokevirtual 210, 3) := by decide +kernel
theorem dX10_allowed_17 : decode cX10_allowed 17 = .ok (.iconst 0, 1) := by decide +kernel
theorem dX10_allowed_18 : decode cX10_allowed 18 = .ok (.istore 4, 2) := by decide +kernel
theorem dX10_allowed_20 : decode cX10_allowed 20 = .ok (.iconst 0, 1) := by decide +kernel
theorem dX10_allowed_21 : decode cX10_allowed 21 = .ok (.istore 5, 2) := by decide +kernel
theorem dX10_allowed_23 : decode cX10_allowed 23 = .ok (.iload 5, 2) := by decide +kernel
theorem dX10_allowed_25 : decode cX10_allowed 25 = .ok (.aload_n 0, 1) := by decide +kernel
theorem dX10_allowed_26 : decode cX10_allowed 26 = .ok (.getfield 182, 3) := by decide +kernel
theorem dX10_allowed_29 : decode cX10_allowed 29 = .ok (.aload_n 0, 1) := by decide +kernel
theorem dX10_allowed_30 : decode cX10_allowed 30 = .ok (.getfield 185, 3) := by decide +kernel
theorem dX10_allowed_33 : decode cX10_allowed 33 = .ok (.imul, 1) := by decide +kernel
theorem dX10_allowed_34 : decode cX10_allowed 34 = .ok (.if_icmp .ge 40, 3) := by decide +kernel
theorem dX10_allowed_37 : decode cX10_allowed 37 = .ok (.iload 5, 2) := by decide +kernel
theorem dX10_allowed_39 : decode cX10_allowed 39 = .ok (.bipush 31, 2) := by decide +kernel
theorem dX10_allowed_41 : decode cX10_allowed 41 = .ok (.if_icmp .ge 33, 3) := by decide +kernel
theorem dX10_allowed_44 : decode cX10_allowed 44 = .ok (.iload 4, 2) := by decide +kernel
theorem dX10_allowed_46 : decode cX10_allowed 46 = .ok (.aload_n 0, 1) := by decide +kernel
theorem dX10_allowed_47 : decode cX10_allowed 47 = .ok (.iload 5, 2) := by decide +kernel
theorem dX10_allowed_49 : decode cX10_allowed 49 = .ok (.iload_n 1, 1) := by decide +kernel
theorem dX10_allowed_50 : decode cX10_allowed 50 = .ok (.iload_n 2, 1) := by decide +kernel
theorem dX10_allowed_51 : decode cX10_allowed 51 = .ok (.invokevirtual 227, 3) := by decide +kernel
theorem dX10_allowed_54 : decode cX10_allowed 54 = .ok (.ifCond .eq 10, 3) := by decide +kernel
theorem dX10_allowed_57 : decode cX10_allowed 57 = .ok (.iconst 1, 1) := by decide +kernel
theorem dX10_allowed_58 : decode cX10_allowed 58 = .ok (.iload 5, 2) := by decide +kernel
theorem dX10_allowed_60 : decode cX10_allowed 60 = .ok (.ishl, 1) := by decide +kernel
theorem dX10_allowed_61 : decode cX10_allowed 61 = .ok (.goto 4, 3) := by decide +kernel
theorem dX10_allowed_64 : decode cX10_allowed 64 = .ok (.iconst 0, 1) := by decide +kernel
theorem dX10_allowed_65 : decode cX10_allowed 65 = .ok (.ior, 1) := by decide +kernel
theorem dX10_allowed_66 : decode cX10_allowed 66 = .ok (.istore 4, 2) := by decide +kernel
theorem dX10_allowed_68 : decode cX10_allowed 68 = .ok (.iinc 5 1, 3) := by decide +kernel
theorem dX10_allowed_71 : decode cX10_allowed 71 = .ok (.goto (-48), 3) := by decide +kernel
theorem dX10_allowed_74 : decode cX10_allowed 74 = .ok (.iload 4, 2) := by decide +kernel
theorem dX10_allowed_76 : decode cX10_allowed 76 = .ok (.ireturn, 1) := by decide +kernel
set_option maxRecDepth 20000 in
theorem ggX10_hersAbout_X10_cellBy : GoodIn wsX10_hersAbout wsX10_cellBy := goodIn_r _ [6, 7, 8, 9, 10, 5, 11, 12, 13, 14, 15, 16, 17, 18, 19, 20, 21, 22, 23, 24, 25, 26, 27, 28, 29, 30, 31, 32, 33, 34, 35, 36, 37, 38, 39, 40, 41, 42, 43, 44] (by decide +kernel) (by decide +kernel)
set_option maxRecDepth 20000 in
theorem gX10_hersAbout_X10_cellBy : GoodIn wsX10_hersAbout (wsV RX10 203 RX10 yX10_cellBy wsX10_cellBy) := goodIn_app (goodIn_of _ (by decide +kernel)) ggX10_hersAbout_X10_cellBy
theorem dX10_hersAbout_0 : decode cX10_hersAbout 0 = .ok (.iconst 0, 1) := by decide +kernel
theorem dX10_hersAbout_1 : decode cX10_hersAbout 1 = .ok (.istore_n 2, 1) := by decide +kernel
theorem dX10_hersAbout_2 : decode cX10_hersAbout 2 = .ok (.iconst (-1), 1) := by decide +kernel
theorem dX10_hersAbout_3 : decode cX10_hersAbout 3 = .ok (.istore_n 3, 1) := by decide +kernel
theorem dX10_hersAbout_4 : decode cX10_hersAbout 4 = .ok (.iload_n 3, 1) := by decide +kernel
theorem dX10_hersAbout_5 : decode cX10_hersAbout 5 = .ok (.iconst 2, 1) := by decide +kernel
theorem dX10_hersAbout_6 : decode cX10_hersAbout 6 = .ok (.if_icmp .ge 66, 3) := by decide +kernel
theorem dX10_hersAbout_9 : decode cX10_hersAbout 9 = .ok (.iconst (-1), 1) := by decide +kernel
theorem dX10_hersAbout_10 : decode cX10_hersAbout 10 = .ok (.istore 4, 2) := by decide +kernel
theorem dX10_hersAbout_12 : decode cX10_hersAbout 12 = .ok (.iload 4, 2) := by decide +kernel
theorem dX10_hersAbout_14 : decode cX10_hersAbout 14 = .ok (.iconst 2, 1) := by decide +kernel
theorem dX10_hersAbout_15 : decode cX10_hersAbout 15 = .ok (.if_icmp .ge 51, 3) := by decide +kernel
theorem dX10_hersAbout_18 : decode cX10_hersAbout 18 = .ok (.aload_n 0, 1) := by decide +kernel
theorem dX10_hersAbout_19 : decode cX10_hersAbout 19 = .ok (.iload_n 1, 1) := by decide +kernel
theorem dX10_hersAbout_20 : decode cX10_hersAbout 20 = .ok (.iload_n 3, 1) := by decide +kernel
theorem dX10_hersAbout_21 : decode cX10_hersAbout 21 = .ok (.iload 4, 2) := by decide +kernel
theorem dX10_hersAbout_23 : decode cX10_hersAbout 23 = .ok (.invokevirtual 203, 3) := by decide +kernel
theorem dX10_hersAbout_26 : decode cX10_hersAbout 26 = .ok (.istore 5, 2) := by decide +kernel
theorem dX10_hersAbout_28 : decode cX10_hersAbout 28 = .ok (.iload_n 2, 1) := by decide +kernel
theorem dX10_hersAbout_29 : decode cX10_hersAbout 29 = .ok (.iload 5, 2) := by decide +kernel
theorem dX10_hersAbout_31 : decode cX10_hersAbout 31 = .ok (.bipush (-9), 2) := by decide +kernel
theorem dX10_hersAbout_33 : decode cX10_hersAbout 33 = .ok (.if_icmp .eq 24, 3) := by decide +kernel
theorem dX10_hersAbout_36 : decode cX10_hersAbout 36 = .ok (.iload 5, 2) := by decide +kernel
theorem dX10_hersAbout_38 : decode cX10_hersAbout 38 = .ok (.iload_n 1, 1) := by decide +kernel
theorem dX10_hersAbout_39 : decode cX10_hersAbout 39 = .ok (.if_icmp .eq 18, 3) := by decide +kernel
theorem dX10_hersAbout_42 : decode cX10_hersAbout 42 = .ok (.aload_n 0, 1) := by decide +kernel
theorem dX10_hersAbout_43 : decode cX10_hersAbout 43 = .ok (.getfield 37, 3) := by decide +kernel
theorem dX10_hersAbout_46 : decode cX10_hersAbout 46 = .ok (.iload 5, 2) := by decide +kernel
theorem dX10_hersAbout_48 : decode cX10_hersAbout 48 = .ok (.iaload, 1) := by decide +kernel
theorem dX10_hersAbout_49 : decode cX10_hersAbout 49 = .ok (.iconst 1, 1) := by decide +kernel
theorem dX10_hersAbout_50 : decode cX10_hersAbout 50 = .ok (.if_icmp .le 7, 3) := by decide +kernel
theorem dX10_hersAbout_53 : decode cX10_hersAbout 53 = .ok (.iconst 1, 1) := by decide +kernel
theorem dX10_hersAbout_54 : decode cX10_hersAbout 54 = .ok (.goto 4, 3) := by decide +kernel
theorem dX10_hersAbout_57 : decode cX10_hersAbout 57 = .ok (.iconst 0, 1) := by decide +kernel
theorem dX10_hersAbout_58 : decode cX10_hersAbout 58 = .ok (.iadd, 1) := by decide +kernel
theorem dX10_hersAbout_59 : decode cX10_hersAbout 59 = .ok (.istore_n 2, 1) := by decide +kernel
theorem dX10_hersAbout_60 : decode cX10_hersAbout 60 = .ok (.iinc 4 1, 3) := by decide +kernel
theorem dX10_hersAbout_63 : decode cX10_hersAbout 63 = .ok (.goto (-51), 3) := by decide +kernel
theorem dX10_hersAbout_66 : decode cX10_hersAbout 66 = .ok (.iinc 3 1, 3) := by decide +kernel
theorem dX10_hersAbout_69 : decode cX10_hersAbout 69 = .ok (.goto (-65), 3) := by decide +kernel
theorem dX10_hersAbout_72 : decode cX10_hersAbout 72 = .ok (.iload_n 2, 1) := by decide +kernel
theorem dX10_hersAbout_73 : decode cX10_hersAbout 73 = .ok (.ireturn, 1) := by decide +kernel
set_option maxRecDepth 20000 in
theorem ggX10_nearest_X10_whyRule : GoodIn wsX10_nearest wsX10_whyRule := goodIn_r _ [7, 8, 1, 9, 10, 6, 11, 12, 13, 14, 57, 58, 59, 60, 61, 62, 63, 64, 65, 66, 67, 68, 69, 70, 71, 72, 73, 74, 75, 76, 77, 78, 79, 80, 81, 82, 83, 84, 85, 86, 87, 88, 89] (by decide +kernel) (by decide +kernel)
set_option maxRecDepth 20000 in
theorem gX10_nearest_X10_whyRule : GoodIn wsX10_nearest (wsV RX10 224 RX10 yX10_whyRule wsX10_whyRule) := goodIn_app (goodIn_of _ (by decide +kernel)) ggX10_nearest_X10_whyRule
set_option maxRecDepth 20000 in
theorem ggX10_nearest_X10_laySeen : GoodIn wsX10_nearest wsX10_laySeen := goodIn_r _ [18, 1, 2, 19, 20, 57, 58, 59, 60, 61, 62, 63, 64, 65, 66, 67, 68, 69, 70, 71, 72, 73, 74, 75, 76, 77, 78, 79, 80, 81, 82, 83, 84, 85, 86, 87, 88, 89] (by decide +kernel) (by decide +kernel)
set_option maxRecDepth 20000 in
theorem gX10_nearest_X10_laySeen : GoodIn wsX10_nearest (wsV RX10 210 RX10 yX10_laySeen wsX10_laySeen) := goodIn_app (goodIn_of _ (by decide +kernel)) ggX10_nearest_X10_laySeen
set_option maxRecDepth 20000 in
theorem ggX10_nearest_X10_isAllowed : GoodIn wsX10_nearest wsX10_isAllowed := goodIn_r _ [24, 20, 25, 26, 27, 6, 28, 29, 30, 31, 32, 19, 33, 34, 35, 36, 2, 1, 9, 10, 11, 37, 38, 39, 40, 41, 42, 43, 44, 45, 46, 47, 48, 49, 50, 51, 52, 57, 58, 59, 60, 61, 62, 63, 64, 65, 66, 67, 68, 69, 70, 71, 72, 73, 74, 75, 76, 77, 78, 79, 80, 81, 82, 83, 84, 85, 86, 87, 88, 89] (by decide +kernel) (by decide +kernel)
set_option maxRecDepth 20000 in
theorem gX10_nearest_X10_isAllowed : GoodIn wsX10_nearest (wsV RX10 227 RX10 yX10_isAllowed wsX10_isAllowed) := goodIn_app (goodIn_of _ (by decide +kernel)) ggX10_nearest_X10_isAllowed
set_option maxRecDepth 20000 in
theorem ggX10_nearest_X10_hersAbout : GoodIn wsX10_nearest wsX10_hersAbout := goodIn_r _ [56, 20, 33, 34, 35, 6, 36, 2, 1, 9, 10, 11, 57, 58, 59, 60, 61, 62, 63, 64, 65, 66, 67, 68, 69, 70, 71, 72, 73, 74, 75, 76, 77, 78, 79, 80, 81, 82, 83, 84, 85, 86, 87, 88, 89] (by decide +kernel) (by decide +kernel)
set_option maxRecDepth 20000 in
theorem gX10_nearest_X10_hersAbout : GoodIn wsX10_nearest (wsV RX10 230 RX10 yX10_hersAbout wsX10_hersAbout) := goodIn_app (goodIn_of _ (by decide +kernel)) ggX10_nearest_X10_hersAbout
theorem dX10_nearest_0 : decode cX10_nearest 0 = .ok (.aload_n 0, 1) := by decide +kernel
theorem dX10_nearest_1 : decode cX10_nearest 1 = .ok (.iload_n 1, 1) := by decide +kernel
theorem dX10_nearest_2 : decode cX10_nearest 2 = .ok (.iload_n 2, 1) := by decide +kernel
theorem dX10_nearest_3 : decode cX10_nearest 3 = .ok (.invokevirtual 224, 3) := by decide +kernel
theorem dX10_nearest_6 : decode cX10_nearest 6 = .ok (.istore_n 3, 1) := by decide +kernel
theorem dX10_nearest_7 : decode cX10_nearest 7 = .ok (.iload_n 3, 1) := by decide +kernel
theorem dX10_nearest_8 : decode cX10_nearest 8 = .ok (.ifCond .eq 5, 3) := by decide +kernel
theorem dX10_nearest_11 : decode cX10_nearest 11 = .ok (.iload_n 3, 1) := by decide +kernel
theorem dX10_nearest_12 : decode cX10_nearest 12 = .ok (.ireturn, 1) := by decide +kernel
theorem dX10_nearest_13 : decode cX10_nearest 13 = .ok (.aload_n 0, 1) := by decide +kernel
theorem dX10_nearest_14 : decode cX10_nearest 14 = .ok (.invokevirtual 210, 3) := by decide +kernel
theorem dX10_nearest_17 : decode cX10_nearest 17 = .ok (.bipush (-9), 2) := by decide +kernel
theorem dX10_nearest_19 : decode cX10_nearest 19 = .ok (.istore 4, 2) := by decide +kernel
theorem dX10_nearest_21 : decode cX10_nearest 21 = .ok (.iconst (-1), 1) := by decide +kernel
theorem dX10_nearest_22 : decode cX10_nearest 22 = .ok (.istore 5, 2) := by decide +kernel
theorem dX10_nearest_24 : decode cX10_nearest 24 = .ok (.iconst 0, 1) := by decide +kernel
theorem dX10_nearest_25 : decode cX10_nearest 25 = .ok (.istore 6, 2) := by decide +kernel
theorem dX10_nearest_27 : decode cX10_nearest 27 = .ok (.iload 6, 2) := by decide +kernel
theorem dX10_nearest_29 : decode cX10_nearest 29 = .ok (.aload_n 0, 1) := by decide +kernel
theorem dX10_nearest_30 : decode cX10_nearest 30 = .ok (.getfield 182, 3) := by decide +kernel
theorem dX10_nearest_33 : decode cX10_nearest 33 = .ok (.aload_n 0, 1) := by decide +kernel
theorem dX10_nearest_34 : decode cX10_nearest 34 = .ok (.getfield 185, 3) := by decide +kernel
theorem dX10_nearest_37 : decode cX10_nearest 37 = .ok (.imul, 1) := by decide +kernel
theorem dX10_nearest_38 : decode cX10_nearest 38 = .ok (.if_icmp .ge 43, 3) := by decide +kernel
theorem dX10_nearest_41 : decode cX10_nearest 41 = .ok (.aload_n 0, 1) := by decide +kernel
theorem dX10_nearest_42 : decode cX10_nearest 42 = .ok (.iload 6, 2) := by decide +kernel
theorem dX10_nearest_44 : decode cX10_nearest 44 = .ok (.iload_n 1, 1) := by decide +kernel
theorem dX10_nearest_45 : decode cX10_nearest 45 = .ok (.iload_n 2, 1) := by decide +kernel
theorem dX10_nearest_46 : decode cX10_nearest 46 = .ok (.invokevirtual 227, 3) := by decide +kernel
theorem dX10_nearest_49 : decode cX10_nearest 49 = .ok (.ifCond .eq 26, 3) := by decide +kernel
theorem dX10_nearest_52 : decode cX10_nearest 52 = .ok (.aload_n 0, 1) := by decide +kernel
theorem dX10_nearest_53 : decode cX10_nearest 53 = .ok (.iload 6, 2) := by decide +kernel
theorem dX10_nearest_55 : decode cX10_nearest 55 = .ok (.invokevirtual 230, 3) := by decide +kernel
theorem dX10_nearest_58 : decode cX10_nearest 58 = .ok (.iload 5, 2) := by decide +kernel
theorem dX10_nearest_60 : decode cX10_nearest 60 = .ok (.if_icmp .le 15, 3) := by decide +kernel
theorem dX10_nearest_63 : decode cX10_nearest 63 = .ok (.iload 6, 2) := by decide +kernel
theorem dX10_nearest_65 : decode cX10_nearest 65 = .ok (.istore 4, 2) := by decide +kernel
theorem dX10_nearest_67 : decode cX10_nearest 67 = .ok (.aload_n 0, 1) := by decide +kernel
theorem dX10_nearest_68 : decode cX10_nearest 68 = .ok (.iload 6, 2) := by decide +kernel
theorem dX10_nearest_70 : decode cX10_nearest 70 = .ok (.invokevirtual 230, 3) := by decide +kernel
theorem dX10_nearest_73 : decode cX10_nearest 73 = .ok (.istore 5, 2) := by decide +kernel
theorem dX10_nearest_75 : decode cX10_nearest 75 = .ok (.iinc 6 1, 3) := by decide +kernel
theorem dX10_nearest_78 : decode cX10_nearest 78 = .ok (.goto (-51), 3) := by decide +kernel
theorem dX10_nearest_81 : decode cX10_nearest 81 = .ok (.iload 4, 2) := by decide +kernel
theorem dX10_nearest_83 : decode cX10_nearest 83 = .ok (.ireturn, 1) := by decide +kernel
theorem dX10_layOrdered_0 : decode cX10_layOrdered 0 = .ok (.iconst 0, 1) := by decide +kernel
theorem dX10_layOrdered_1 : decode cX10_layOrdered 1 = .ok (.istore_n 3, 1) := by decide +kernel
theorem dX10_layOrdered_2 : decode cX10_layOrdered 2 = .ok (.iload_n 3, 1) := by decide +kernel
theorem dX10_layOrdered_3 : decode cX10_layOrdered 3 = .ok (.iload_n 2, 1) := by decide +kernel
theorem dX10_layOrdered_4 : decode cX10_layOrdered 4 = .ok (.if_icmp .ge 74, 3) := by decide +kernel
theorem dX10_layOrdered_7 : decode cX10_layOrdered 7 = .ok (.iload_n 3, 1) := by decide +kernel
theorem dX10_layOrdered_8 : decode cX10_layOrdered 8 = .ok (.istore 4, 2) := by decide +kernel
theorem dX10_layOrdered_10 : decode cX10_layOrdered 10 = .ok (.iload 4, 2) := by decide +kernel
theorem dX10_layOrdered_12 : decode cX10_layOrdered 12 = .ok (.ifCond .le 45, 3) := by decide +kernel
theorem dX10_layOrdered_15 : decode cX10_layOrdered 15 = .ok (.aload_n 0, 1) := by decide +kernel
theorem dX10_layOrdered_16 : decode cX10_layOrdered 16 = .ok (.getfield 49, 3) := by decide +kernel
theorem dX10_layOrdered_19 : decode cX10_layOrdered 19 = .ok (.iload 4, 2) := by decide +kernel
theorem dX10_layOrdered_21 : decode cX10_layOrdered 21 = .ok (.iconst 1, 1) := by decide +kernel
theorem dX10_layOrdered_22 : decode cX10_layOrdered 22 = .ok (.isub, 1) := by decide +kernel
theorem dX10_layOrdered_23 : decode cX10_layOrdered 23 = .ok (.iaload, 1) := by decide +kernel
theorem dX10_layOrdered_24 : decode cX10_layOrdered 24 = .ok (.aload_n 0, 1) := by decide +kernel
theorem dX10_layOrdered_25 : decode cX10_layOrdered 25 = .ok (.getfield 16, 3) := by decide +kernel
theorem dX10_layOrdered_28 : decode cX10_layOrdered 28 = .ok (.iload_n 1, 1) := by decide +kernel
theorem dX10_layOrdered_29 : decode cX10_layOrdered 29 = .ok (.iload_n 3, 1) := by decide +kernel
theorem dX10_layOrdered_30 : decode cX10_layOrdered 30 = .ok (.iadd, 1) := by decide +kernel
theorem dX10_layOrdered_31 : decode cX10_layOrdered 31 = .ok (.iaload, 1) := by decide +kernel
theorem dX10_layOrdered_32 : decode cX10_layOrdered 32 = .ok (.if_icmp .le 25, 3) := by decide +kernel
theorem dX10_layOrdered_35 : decode cX10_layOrdered 35 = .ok (.aload_n 0, 1) := by decide +kernel
theorem dX10_layOrdered_36 : decode cX10_layOrdered 36 = .ok (.getfield 49, 3) := by decide +kernel
theorem dX10_layOrdered_39 : decode cX10_layOrdered 39 = .ok (.iload 4, 2) := by decide +kernel
theorem dX10_layOrdered_41 : decode cX10_layOrdered 41 = .ok (.aload_n 0, 1) := by decide +kernel
theorem dX10_layOrdered_42 : decode cX10_layOrdered 42 = .ok (.getfield 49, 3) := by decide +kernel
theorem dX10_layOrdered_45 : decode cX10_layOrdered 45 = .ok (.iload 4, 2) := by decide +kernel
theorem dX10_layOrdered_47 : decode cX10_layOrdered 47 = .ok (.iconst 1, 1) := by decide +kernel
theorem dX10_layOrdered_48 : decode cX10_layOrdered 48 = .ok (.isub, 1) := by decide +kernel
theorem dX10_layOrdered_49 : decode cX10_layOrdered 49 = .ok (.iaload, 1) := by decide +kernel
theorem dX10_layOrdered_50 : decode cX10_layOrdered 50 = .ok (.iastore, 1) := by decide +kernel
theorem dX10_layOrdered_51 : decode cX10_layOrdered 51 = .ok (.iinc 4 (-1), 3) := by decide +kernel
theorem dX10_layOrdered_54 : decode cX10_layOrdered 54 = .ok (.goto (-44), 3) := by decide +kernel
theorem dX10_layOrdered_57 : decode cX10_layOrdered 57 = .ok (.aload_n 0, 1) := by decide +kernel
theorem dX10_layOrdered_58 : decode cX10_layOrdered 58 = .ok (.getfield 49, 3) := by decide +kernel
theorem dX10_layOrdered_61 : decode cX10_layOrdered 61 = .ok (.iload 4, 2) := by decide +kernel
theorem dX10_layOrdered_63 : decode cX10_layOrdered 63 = .ok (.aload_n 0, 1) := by decide +kernel
theorem dX10_layOrdered_64 : decode cX10_layOrdered 64 = .ok (.getfield 16, 3) := by decide +kernel
theorem dX10_layOrdered_67 : decode cX10_layOrdered 67 = .ok (.iload_n 1, 1) := by decide +kernel
theorem dX10_layOrdered_68 : decode cX10_layOrdered 68 = .ok (.iload_n 3, 1) := by decide +kernel
theorem dX10_layOrdered_69 : decode cX10_layOrdered 69 = .ok (.iadd, 1) := by decide +kernel
theorem dX10_layOrdered_70 : decode cX10_layOrdered 70 = .ok (.iaload, 1) := by decide +kernel
theorem dX10_layOrdered_71 : decode cX10_layOrdered 71 = .ok (.iastore, 1) := by decide +kernel
theorem dX10_layOrdered_72 : decode cX10_layOrdered 72 = .ok (.iinc 3 1, 3) := by decide +kernel
theorem dX10_layOrdered_75 : decode cX10_layOrdered 75 = .ok (.goto (-73), 3) := by decide +kernel
theorem dX10_layOrdered_78 : decode cX10_layOrdered 78 = .ok (.return_, 1) := by decide +kernel
set_option maxRecDepth 20000 in
theorem ggX10_layCosts_X10_laySeen : GoodIn wsX10_layCosts wsX10_laySeen := goodIn_r _ [8, 9, 10, 11, 12, 45, 46, 47, 48, 49, 50, 51, 52, 53, 54, 55, 56, 57, 58, 59, 60, 61, 62, 63, 64, 65, 66, 67, 68, 69, 70, 71, 72, 73, 74, 75, 76, 77] (by decide +kernel) (by decide +kernel)
set_option maxRecDepth 20000 in
theorem gX10_layCosts_X10_laySeen : GoodIn wsX10_layCosts (wsV RX10 210 RX10 yX10_laySeen wsX10_laySeen) := goodIn_app (goodIn_of _ (by decide +kernel)) ggX10_layCosts_X10_laySeen
set_option maxRecDepth 20000 in
theorem ggX10_layCosts_X10_stageOf : GoodIn wsX10_layCosts wsX10_stageOf := goodIn_r _ [16, 17, 45, 46, 47, 48, 49, 50, 51, 52, 53, 54, 55, 56, 57, 58, 59, 60, 61, 62, 63, 64, 65, 66, 67, 68, 69, 70, 71, 72, 73, 74, 75, 76, 77] (by decide +kernel) (by decide +kernel)
set_option maxRecDepth 20000 in
theorem gX10_layCosts_X10_stageOf : GoodIn wsX10_layCosts (wsV RX10 173 RX10 yX10_stageOf wsX10_stageOf) := goodIn_app (goodIn_of _ (by decide +kernel)) ggX10_layCosts_X10_stageOf
set_option maxRecDepth 20000 in
theorem ggX10_layCosts_X10_comesBy : GoodIn wsX10_layCosts wsX10_comesBy := goodIn_r _ [21, 11, 22, 23, 24, 7, 25, 10, 9, 26, 27, 28, 29, 30, 31, 32, 33, 34, 35, 36, 45, 46, 47, 48, 49, 50, 51, 52, 53, 54, 55, 56, 57, 58, 59, 60, 61, 62, 63, 64, 65, 66, 67, 68, 69, 70, 71, 72, 73, 74, 75, 76, 77] (by decide +kernel) (by decide +kernel)
set_option maxRecDepth 20000 in
theorem gX10_layCosts_X10_comesBy : GoodIn wsX10_layCosts (wsV RX10 213 RX10 yX10_comesBy wsX10_comesBy) := goodIn_app (goodIn_of _ (by decide +kernel)) ggX10_layCosts_X10_comesBy
set_option maxRecDepth 20000 in
theorem ggX10_layCosts_X10_allWays : GoodIn wsX10_layCosts wsX10_allWays := goodIn_r _ [40, 41, 42, 43, 7, 44, 32, 33, 34, 35, 36, 45, 46, 47, 48, 49, 50, 51, 52, 53, 54, 55, 56, 57, 58, 59, 60, 61, 62, 63, 64, 65, 66, 67, 68, 69, 70, 71, 72, 73, 74, 75, 76, 77] (by decide +kernel) (by decide +kernel)
set_option maxRecDepth 20000 in
theorem gX10_layCosts_X10_allWays : GoodIn wsX10_layCosts (wsV RX10 217 RX10 yX10_allWays wsX10_allWays) := goodIn_app (goodIn_of _ (by decide +kernel)) ggX10_layCosts_X10_allWays
theorem dX10_layCosts_0 : decode cX10_layCosts 0 = .ok (.aload_n 0, 1) := by decide +kernel
theorem dX10_layCosts_1 : decode cX10_layCosts 1 = .ok (.invokevirtual 210, 3) := by decide +kernel
theorem dX10_layCosts_4 : decode cX10_layCosts 4 = .ok (.iconst 0, 1) := by decide +kernel
theorem dX10_layCosts_5 : decode cX10_layCosts 5 = .ok (.istore_n 3, 1) := by decide +kernel
theorem dX10_layCosts_6 : decode cX10_layCosts 6 = .ok (.iload_n 3, 1) := by decide +kernel
theorem dX10_layCosts_7 : decode cX10_layCosts 7 = .ok (.iload_n 1, 1) := by decide +kernel
theorem dX10_layCosts_8 : decode cX10_layCosts 8 = .ok (.if_icmp .ge 74, 3) := by decide +kernel
theorem dX10_layCosts_11 : decode cX10_layCosts 11 = .ok (.iconst 0, 1) := by decide +kernel
theorem dX10_layCosts_12 : decode cX10_layCosts 12 = .ok (.istore 4, 2) := by decide +kernel
theorem dX10_layCosts_14 : decode cX10_layCosts 14 = .ok (.iload 4, 2) := by decide +kernel
theorem dX10_layCosts_16 : decode cX10_layCosts 16 = .ok (.iload_n 1, 1) := by decide +kernel
theorem dX10_layCosts_17 : decode cX10_layCosts 17 = .ok (.if_icmp .ge 59, 3) := by decide +kernel
theorem dX10_layCosts_20 : decode cX10_layCosts 20 = .ok (.aload_n 0, 1) := by decide +kernel
theorem dX10_layCosts_21 : decode cX10_layCosts 21 = .ok (.iload_n 2, 1) := by decide +kernel
theorem dX10_layCosts_22 : decode cX10_layCosts 22 = .ok (.iload 4, 2) := by decide +kernel
theorem dX10_layCosts_24 : decode cX10_layCosts 24 = .ok (.iadd, 1) := by decide +kernel
theorem dX10_layCosts_25 : decode cX10_layCosts 25 = .ok (.invokevirtual 173, 3) := by decide +kernel
theorem dX10_layCosts_28 : decode cX10_layCosts 28 = .ok (.istore 5, 2) := by decide +kernel
theorem dX10_layCosts_30 : decode cX10_layCosts 30 = .ok (.aload_n 0, 1) := by decide +kernel
theorem dX10_layCosts_31 : decode cX10_layCosts 31 = .ok (.getfield 46, 3) := by decide +kernel
theorem dX10_layCosts_34 : decode cX10_layCosts 34 = .ok (.bipush 6, 2) := by decide +kernel
theorem dX10_layCosts_36 : decode cX10_layCosts 36 = .ok (.iload_n 3, 1) := by decide +kernel
theorem dX10_layCosts_37 : decode cX10_layCosts 37 = .ok (.imul, 1) := by decide +kernel
theorem dX10_layCosts_38 : decode cX10_layCosts 38 = .ok (.iload 4, 2) := by decide +kernel
theorem dX10_layCosts_40 : decode cX10_layCosts 40 = .ok (.iadd, 1) := by decide +kernel
theorem dX10_layCosts_41 : decode cX10_layCosts 41 = .ok (.ldc2_w 233, 3) := by decide +kernel
theorem dX10_layCosts_44 : decode cX10_layCosts 44 = .ok (.aload_n 0, 1) := by decide +kernel
theorem dX10_layCosts_45 : decode cX10_layCosts 45 = .ok (.aload_n 0, 1) := by decide +kernel
theorem dX10_layCosts_46 : decode cX10_layCosts 46 = .ok (.getfield 49, 3) := by decide +kernel
theorem dX10_layCosts_49 : decode cX10_layCosts 49 = .ok (.iload_n 3, 1) := by decide +kernel
theorem dX10_layCosts_50 : decode cX10_layCosts 50 = .ok (.iaload, 1) := by decide +kernel
theorem dX10_layCosts_51 : decode cX10_layCosts 51 = .ok (.iload 5, 2) := by decide +kernel
theorem dX10_layCosts_53 : decode cX10_layCosts 53 = .ok (.iconst 1, 1) := by decide +kernel
theorem dX10_layCosts_54 : decode cX10_layCosts 54 = .ok (.iconst 0, 1) := by decide +kernel
theorem dX10_layCosts_55 : decode cX10_layCosts 55 = .ok (.invokevirtual 213, 3) := by decide +kernel
theorem dX10_layCosts_58 : decode cX10_layCosts 58 = .ok (.i2l, 1) := by decide +kernel
theorem dX10_layCosts_59 : decode cX10_layCosts 59 = .ok (.lmul, 1) := by decide +kernel
theorem dX10_layCosts_60 : decode cX10_layCosts 60 = .ok (.aload_n 0, 1) := by decide +kernel
theorem dX10_layCosts_61 : decode cX10_layCosts 61 = .ok (.iload 5, 2) := by decide +kernel
theorem dX10_layCosts_63 : decode cX10_layCosts 63 = .ok (.invokevirtual 217, 3) := by decide +kernel
theorem dX10_layCosts_66 : decode cX10_layCosts 66 = .ok (.i2l, 1) := by decide +kernel
theorem dX10_layCosts_67 : decode cX10_layCosts 67 = .ok (.ldiv, 1) := by decide +kernel
theorem dX10_layCosts_68 : decode cX10_layCosts 68 = .ok (.l2i, 1) := by decide +kernel
theorem dX10_layCosts_69 : decode cX10_layCosts 69 = .ok (.iastore, 1) := by decide +kernel
theorem dX10_layCosts_70 : decode cX10_layCosts 70 = .ok (.iinc 4 1, 3) := by decide +kernel
theorem dX10_layCosts_73 : decode cX10_layCosts 73 = .ok (.goto (-59), 3) := by decide +kernel
theorem dX10_layCosts_76 : decode cX10_layCosts 76 = .ok (.iinc 3 1, 3) := by decide +kernel
theorem dX10_layCosts_79 : decode cX10_layCosts 79 = .ok (.goto (-73), 3) := by decide +kernel
theorem dX10_layCosts_82 : decode cX10_layCosts 82 = .ok (.return_, 1) := by decide +kernel
theorem dX10_isTried_0 : decode cX10_isTried 0 = .ok (.iconst 0, 1) := by decide +kernel
theorem dX10_isTried_1 : decode cX10_isTried 1 = .ok (.istore_n 3, 1) := by decide +kernel
theorem dX10_isTried_2 : decode cX10_isTried 2 = .ok (.iload_n 3, 1) := by decide +kernel
theorem dX10_isTried_3 : decode cX10_isTried 3 = .ok (.iload_n 2, 1) := by decide +kernel
theorem dX10_isTried_4 : decode cX10_isTried 4 = .ok (.if_icmp .ge 21, 3) := by decide +kernel
theorem dX10_isTried_7 : decode cX10_isTried 7 = .ok (.aload_n 0, 1) := by decide +kernel
theorem dX10_isTried_8 : decode cX10_isTried 8 = .ok (.getfield 52, 3) := by decide +kernel
theorem dX10_isTried_11 : decode cX10_isTried 11 = .ok (.iload_n 3, 1) := by decide +kernel
theorem dX10_isTried_12 : decode cX10_isTried 12 = .ok (.iaload, 1) := by decide +kernel
theorem dX10_isTried_13 : decode cX10_isTried 13 = .ok (.iload_n 1, 1) := by decide +kernel
theorem dX10_isTried_14 : decode cX10_isTried 14 = .ok (.if_icmp .ne 5, 3) := by decide +kernel
theorem dX10_isTried_17 : decode cX10_isTried 17 = .ok (.iconst 1, 1) := by decide +kernel
theorem dX10_isTried_18 : decode cX10_isTried 18 = .ok (.ireturn, 1) := by decide +kernel
theorem dX10_isTried_19 : decode cX10_isTried 19 = .ok (.iinc 3 1, 3) := by decide +kernel
theorem dX10_isTried_22 : decode cX10_isTried 22 = .ok (.goto (-20), 3) := by decide +kernel
theorem dX10_isTried_25 : decode cX10_isTried 25 = .ok (.iconst 0, 1) := by decide +kernel
theorem dX10_isTried_26 : decode cX10_isTried 26 = .ok (.ireturn, 1) := by decide +kernel
set_option maxRecDepth 20000 in
theorem ggX10_findOrder_X10_isTried : GoodIn wsX10_findOrder wsX10_isTried := goodIn_r _ [7, 2, 15, 16, 17, 18, 19, 20, 21, 22, 23, 24, 25, 26, 27, 28, 29, 30, 31, 32, 33, 34, 35, 36, 37, 38, 39, 40, 41, 42, 43, 44, 45, 46, 47] (by decide +kernel) (by decide +kernel)
set_option maxRecDepth 20000 in
theorem gX10_findOrder_X10_isTried : GoodIn wsX10_findOrder (wsV RX10 238 RX10 yX10_isTried wsX10_isTried) := goodIn_app (goodIn_of _ (by decide +kernel)) ggX10_findOrder_X10_isTried
set_option maxRecDepth 20000 in
theorem ggX10_findOrder_X10_offer : GoodIn wsX10_findOrder wsX10_offer := goodIn_r _ [11, 12, 2, 1, 13, 14, 15, 16, 17, 18, 19, 20, 21, 22, 23, 24, 25, 26, 27, 28, 29, 30, 31, 32, 33, 34, 35, 36, 37, 38, 39, 40, 41, 42, 43, 44, 45, 46, 47] (by decide +kernel) (by decide +kernel)
set_option maxRecDepth 20000 in
theorem gX10_findOrder_X10_offer : GoodIn wsX10_findOrder (wsV RX10 241 RX10 yX10_offer wsX10_offer) := goodIn_app (goodIn_of _ (by decide +kernel)) ggX10_findOrder_X10_offer
theorem dX10_findOrder_0 : decode cX10_findOrder 0 = .ok (.aload_n 0, 1) := by decide +kernel
theorem dX10_findOrder_1 : decode cX10_findOrder 1 = .ok (.iconst (-1), 1) := by decide +kernel
theorem dX10_findOrder_2 : decode cX10_findOrder 2 = .ok (.putfield 235, 3) := by decide +kernel
theorem dX10_findOrder_5 : decode cX10_findOrder 5 = .ok (.iconst 0, 1) := by decide +kernel
theorem dX10_findOrder_6 : decode cX10_findOrder 6 = .ok (.istore_n 2, 1) := by decide +kernel
theorem dX10_findOrder_7 : decode cX10_findOrder 7 = .ok (.aload_n 0, 1) := by decide +kernel
theorem dX10_findOrder_8 : decode cX10_findOrder 8 = .ok (.getfield 52, 3) := by decide +kernel
theorem dX10_findOrder_11 : decode cX10_findOrder 11 = .ok (.iconst 0, 1) := by decide +kernel
theorem dX10_findOrder_12 : decode cX10_findOrder 12 = .ok (.iconst (-1), 1) := by decide +kernel
theorem dX10_findOrder_13 : decode cX10_findOrder 13 = .ok (.iastore, 1) := by decide +kernel
theorem dX10_findOrder_14 : decode cX10_findOrder 14 = .ok (.iload_n 2, 1) := by decide +kernel
theorem dX10_findOrder_15 : decode cX10_findOrder 15 = .ok (.ifCond .lt 94, 3) := by decide +kernel
theorem dX10_findOrder_18 : decode cX10_findOrder 18 = .ok (.aload_n 0, 1) := by decide +kernel
theorem dX10_findOrder_19 : decode cX10_findOrder 19 = .ok (.getfield 52, 3) := by decide +kernel
theorem dX10_findOrder_22 : decode cX10_findOrder 22 = .ok (.iload_n 2, 1) := by decide +kernel
theorem dX10_findOrder_23 : decode cX10_findOrder 23 = .ok (.dup2, 1) := by decide +kernel
theorem dX10_findOrder_24 : decode cX10_findOrder 24 = .ok (.iaload, 1) := by decide +kernel
theorem dX10_findOrder_25 : decode cX10_findOrder 25 = .ok (.iconst 1, 1) := by decide +kernel
theorem dX10_findOrder_26 : decode cX10_findOrder 26 = .ok (.iadd, 1) := by decide +kernel
theorem dX10_findOrder_27 : decode cX10_findOrder 27 = .ok (.iastore, 1) := by decide +kernel
theorem dX10_findOrder_28 : decode cX10_findOrder 28 = .ok (.aload_n 0, 1) := by decide +kernel
theorem dX10_findOrder_29 : decode cX10_findOrder 29 = .ok (.getfield 52, 3) := by decide +kernel
theorem dX10_findOrder_32 : decode cX10_findOrder 32 = .ok (.iload_n 2, 1) := by decide +kernel
theorem dX10_findOrder_33 : decode cX10_findOrder 33 = .ok (.iaload, 1) := by decide +kernel
theorem dX10_findOrder_34 : decode cX10_findOrder 34 = .ok (.iload_n 1, 1) := by decide +kernel
theorem dX10_findOrder_35 : decode cX10_findOrder 35 = .ok (.if_icmp .ge 30, 3) := by decide +kernel
theorem dX10_findOrder_38 : decode cX10_findOrder 38 = .ok (.aload_n 0, 1) := by decide +kernel
theorem dX10_findOrder_39 : decode cX10_findOrder 39 = .ok (.aload_n 0, 1) := by decide +kernel
theorem dX10_findOrder_40 : decode cX10_findOrder 40 = .ok (.getfield 52, 3) := by decide +kernel
theorem dX10_findOrder_43 : decode cX10_findOrder 43 = .ok (.iload_n 2, 1) := by decide +kernel
theorem dX10_findOrder_44 : decode cX10_findOrder 44 = .ok (.iaload, 1) := by decide +kernel
theorem dX10_findOrder_45 : decode cX10_findOrder 45 = .ok (.iload_n 2, 1) := by decide +kernel
theorem dX10_findOrder_46 : decode cX10_findOrder 46 = .ok (.invokevirtual 238, 3) := by decide +kernel
theorem dX10_findOrder_49 : decode cX10_findOrder 49 = .ok (.ifCond .eq 16, 3) := by decide +kernel
theorem dX10_findOrder_52 : decode cX10_findOrder 52 = .ok (.aload_n 0, 1) := by decide +kernel
theorem dX10_findOrder_53 : decode cX10_findOrder 53 = .ok (.getfield 52, 3) := by decide +kernel
theorem dX10_findOrder_56 : decode cX10_findOrder 56 = .ok (.iload_n 2, 1) := by decide +kernel
theorem dX10_findOrder_57 : decode cX10_findOrder 57 = .ok (.dup2, 1) := by decide +kernel
theorem dX10_findOrder_58 : decode cX10_findOrder 58 = .ok (.iaload, 1) := by decide +kernel
theorem dX10_findOrder_59 : decode cX10_findOrder 59 = .ok (.iconst 1, 1) := by decide +kernel
theorem dX10_findOrder_60 : decode cX10_findOrder 60 = .ok (.iadd, 1) := by decide +kernel
theorem dX10_findOrder_61 : decode cX10_findOrder 61 = .ok (.iastore, 1) := by decide +kernel
theorem dX10_findOrder_62 : decode cX10_findOrder 62 = .ok (.goto (-34), 3) := by decide +kernel
theorem dX10_findOrder_65 : decode cX10_findOrder 65 = .ok (.aload_n 0, 1) := by decide +kernel
theorem dX10_findOrder_66 : decode cX10_findOrder 66 = .ok (.getfield 52, 3) := by decide +kernel
theorem dX10_findOrder_69 : decode cX10_findOrder 69 = .ok (.iload_n 2, 1) := by decide +kernel
theorem dX10_findOrder_70 : decode cX10_findOrder 70 = .ok (.iaload, 1) := by decide +kernel
theorem dX10_findOrder_71 : decode cX10_findOrder 71 = .ok (.iload_n 1, 1) := by decide +kernel
theorem dX10_findOrder_72 : decode cX10_findOrder 72 = .ok (.if_icmp .lt 9, 3) := by decide +kernel
theorem dX10_findOrder_75 : decode cX10_findOrder 75 = .ok (.iinc 2 (-1), 3) := by decide +kernel
theorem dX10_findOrder_78 : decode cX10_findOrder 78 = .ok (.goto (-64), 3) := by decide +kernel
theorem dX10_findOrder_81 : decode cX10_findOrder 81 = .ok (.iload_n 2, 1) := by decide +kernel
theorem dX10_findOrder_82 : decode cX10_findOrder 82 = .ok (.iload_n 1, 1) := by decide +kernel
theorem dX10_findOrder_83 : decode cX10_findOrder 83 = .ok (.iconst 1, 1) := by decide +kernel
theorem dX10_findOrder_84 : decode cX10_findOrder 84 = .ok (.isub, 1) := by decide +kernel
theorem dX10_findOrder_85 : decode cX10_findOrder 85 = .ok (.if_icmp .ge 16, 3) := by decide +kernel
theorem dX10_findOrder_88 : decode cX10_findOrder 88 = .ok (.iinc 2 1, 3) := by decide +kernel
theorem dX10_findOrder_91 : decode cX10_findOrder 91 = .ok (.aload_n 0, 1) := by decide +kernel
theorem dX10_findOrder_92 : decode cX10_findOrder 92 = .ok (.getfield 52, 3) := by decide +kernel
theorem dX10_findOrder_95 : decode cX10_findOrder 95 = .ok (.iload_n 2, 1) := by decide +kernel
theorem dX10_findOrder_96 : decode cX10_findOrder 96 = .ok (.iconst (-1), 1) := by decide +kernel
theorem dX10_findOrder_97 : decode cX10_findOrder 97 = .ok (.iastore, 1) := by decide +kernel
theorem dX10_findOrder_98 : decode cX10_findOrder 98 = .ok (.goto (-84), 3) := by decide +kernel
theorem dX10_findOrder_101 : decode cX10_findOrder 101 = .ok (.aload_n 0, 1) := by decide +kernel
theorem dX10_findOrder_102 : decode cX10_findOrder 102 = .ok (.iload_n 1, 1) := by decide +kernel
theorem dX10_findOrder_103 : decode cX10_findOrder 103 = .ok (.invokevirtual 241, 3) := by decide +kernel
theorem dX10_findOrder_106 : decode cX10_findOrder 106 = .ok (.goto (-92), 3) := by decide +kernel
theorem dX10_findOrder_109 : decode cX10_findOrder 109 = .ok (.return_, 1) := by decide +kernel
theorem dX10_offer_0 : decode cX10_offer 0 = .ok (.iconst 0, 1) := by decide +kernel
theorem dX10_offer_1 : decode cX10_offer 1 = .ok (.istore_n 2, 1) := by decide +kernel
theorem dX10_offer_2 : decode cX10_offer 2 = .ok (.iconst 0, 1) := by decide +kernel
theorem dX10_offer_3 : decode cX10_offer 3 = .ok (.istore_n 3, 1) := by decide +kernel
theorem dX10_offer_4 : decode cX10_offer 4 = .ok (.iload_n 3, 1) := by decide +kernel
theorem dX10_offer_5 : decode cX10_offer 5 = .ok (.iload_n 1, 1) := by decide +kernel
theorem dX10_offer_6 : decode cX10_offer 6 = .ok (.if_icmp .ge 28, 3) := by decide +kernel
theorem dX10_offer_9 : decode cX10_offer 9 = .ok (.iload_n 2, 1) := by decide +kernel
theorem dX10_offer_10 : decode cX10_offer 10 = .ok (.aload_n 0, 1) := by decide +kernel
theorem dX10_offer_11 : decode cX10_offer 11 = .ok (.getfield 46, 3) := by decide +kernel
theorem dX10_offer_14 : decode cX10_offer 14 = .ok (.bipush 6, 2) := by decide +kernel
theorem dX10_offer_16 : decode cX10_offer 16 = .ok (.aload_n 0, 1) := by decide +kernel
theorem dX10_offer_17 : decode cX10_offer 17 = .ok (.getfield 52, 3) := by decide +kernel
theorem dX10_offer_20 : decode cX10_offer 20 = .ok (.iload_n 3, 1) := by decide +kernel
theorem dX10_offer_21 : decode cX10_offer 21 = .ok (.iaload, 1) := by decide +kernel
theorem dX10_offer_22 : decode cX10_offer 22 = .ok (.imul, 1) := by decide +kernel
theorem dX10_offer_23 : decode cX10_offer 23 = .ok (.iload_n 3, 1) := by decide +kernel
theorem dX10_offer_24 : decode cX10_offer 24 = .ok (.iadd, 1) := by decide +kernel
theorem dX10_offer_25 : decode cX10_offer 25 = .ok (.iaload, 1) := by decide +kernel
theorem dX10_offer_26 : decode cX10_offer 26 = .ok (.iadd, 1) := by decide +kernel
theorem dX10_offer_27 : decode cX10_offer 27 = .ok (.istore_n 2, 1) := by decide +kernel
theorem dX10_offer_28 : decode cX10_offer 28 = .ok (.iinc 3 1, 3) := by decide +kernel
theorem dX10_offer_31 : decode cX10_offer 31 = .ok (.goto (-27), 3) := by decide +kernel
theorem dX10_offer_34 : decode cX10_offer 34 = .ok (.aload_n 0, 1) := by decide +kernel
theorem dX10_offer_35 : decode cX10_offer 35 = .ok (.getfield 235, 3) := by decide +kernel
theorem dX10_offer_38 : decode cX10_offer 38 = .ok (.ifCond .lt 11, 3) := by decide +kernel
theorem dX10_offer_41 : decode cX10_offer 41 = .ok (.iload_n 2, 1) := by decide +kernel
theorem dX10_offer_42 : decode cX10_offer 42 = .ok (.aload_n 0, 1) := by decide +kernel
theorem dX10_offer_43 : decode cX10_offer 43 = .ok (.getfield 235, 3) := by decide +kernel
theorem dX10_offer_46 : decode cX10_offer 46 = .ok (.if_icmp .ge 38, 3) := by decide +kernel
theorem dX10_offer_49 : decode cX10_offer 49 = .ok (.aload_n 0, 1) := by decide +kernel
theorem dX10_offer_50 : decode cX10_offer 50 = .ok (.iload_n 2, 1) := by decide +kernel
theorem dX10_offer_51 : decode cX10_offer 51 = .ok (.putfield 235, 3) := by decide +kernel
theorem dX10_offer_54 : decode cX10_offer 54 = .ok (.iconst 0, 1) := by decide +kernel
theorem dX10_offer_55 : decode cX10_offer 55 = .ok (.istore_n 3, 1) := by decide +kernel
theorem dX10_offer_56 : decode cX10_offer 56 = .ok (.iload_n 3, 1) := by decide +kernel
theorem dX10_offer_57 : decode cX10_offer 57 = .ok (.iload_n 1, 1) := by decide +kernel
theorem dX10_offer_58 : decode cX10_offer 58 = .ok (.if_icmp .ge 26, 3) := by decide +kernel
theorem dX10_offer_61 : decode cX10_offer 61 = .ok (.aload_n 0, 1) := by decide +kernel
theorem dX10_offer_62 : decode cX10_offer 62 = .ok (.getfield 55, 3) := by decide +kernel
theorem dX10_offer_65 : decode cX10_offer 65 = .ok (.iload_n 3, 1) := by decide +kernel
theorem dX10_offer_66 : decode cX10_offer 66 = .ok (.aload_n 0, 1) := by decide +kernel
theorem dX10_offer_67 : decode cX10_offer 67 = .ok (.getfield 49, 3) := by decide +kernel
theorem dX10_offer_70 : decode cX10_offer 70 = .ok (.aload_n 0, 1) := by decide +kernel
theorem dX10_offer_71 : decode cX10_offer 71 = .ok (.getfield 52, 3) := by decide +kernel
theorem dX10_offer_74 : decode cX10_offer 74 = .ok (.iload_n 3, 1) := by decide +kernel
theorem dX10_offer_75 : decode cX10_offer 75 = .ok (.iaload, 1) := by decide +kernel
theorem dX10_offer_76 : decode cX10_offer 76 = .ok (.iaload, 1) := by decide +kernel
theorem dX10_offer_77 : decode cX10_offer 77 = .ok (.iastore, 1) := by decide +kernel
theorem dX10_offer_78 : decode cX10_offer 78 = .ok (.iinc 3 1, 3) := by decide +kernel
theorem dX10_offer_81 : decode cX10_offer 81 = .ok (.goto (-25), 3) := by decide +kernel
theorem dX10_offer_84 : decode cX10_offer 84 = .ok (.return_, 1) := by decide +kernel
set_option maxRecDepth 20000 in
theorem ggX10_whyOrder_X10_isCell : GoodIn wsX10_whyOrder wsX10_isCell := goodIn_r _ [6, 7, 8, 9, 10, 11, 12, 13, 14, 15, 16, 17, 18, 19, 20, 21, 22, 23, 24, 25, 26, 27, 28, 29, 30, 31, 32, 33, 34, 35, 36, 37, 38, 39, 40, 41] (by decide +kernel) (by decide +kernel)
set_option maxRecDepth 20000 in
theorem gX10_whyOrder_X10_isCell : GoodIn wsX10_whyOrder (wsV RX10 200 RX10 yX10_isCell wsX10_isCell) := goodIn_app (goodIn_of _ (by decide +kernel)) ggX10_whyOrder_X10_isCell
theorem dX10_whyOrder_0 : decode cX10_whyOrder 0 = .ok (.iconst 0, 1) := by decide +kernel
theorem dX10_whyOrder_1 : decode cX10_whyOrder 1 = .ok (.istore_n 3, 1) := by decide +kernel
theorem dX10_whyOrder_2 : decode cX10_whyOrder 2 = .ok (.iload_n 3, 1) := by decide +kernel
theorem dX10_whyOrder_3 : decode cX10_whyOrder 3 = .ok (.iload_n 2, 1) := by decide +kernel
theorem dX10_whyOrder_4 : decode cX10_whyOrder 4 = .ok (.if_icmp .ge 26, 3) := by decide +kernel
theorem dX10_whyOrder_7 : decode cX10_whyOrder 7 = .ok (.aload_n 0, 1) := by decide +kernel
theorem dX10_whyOrder_8 : decode cX10_whyOrder 8 = .ok (.aload_n 0, 1) := by decide +kernel
theorem dX10_whyOrder_9 : decode cX10_whyOrder 9 = .ok (.getfield 16, 3) := by decide +kernel
theorem dX10_whyOrder_12 : decode cX10_whyOrder 12 = .ok (.iload_n 1, 1) := by decide +kernel
theorem dX10_whyOrder_13 : decode cX10_whyOrder 13 = .ok (.iload_n 3, 1) := by decide +kernel
theorem dX10_whyOrder_14 : decode cX10_whyOrder 14 = .ok (.iadd, 1) := by decide +kernel
theorem dX10_whyOrder_15 : decode cX10_whyOrder 15 = .ok (.iaload, 1) := by decide +kernel
theorem dX10_whyOrder_16 : decode cX10_whyOrder 16 = .ok (.invokevirtual 200, 3) := by decide +kernel
theorem dX10_whyOrder_19 : decode cX10_whyOrder 19 = .ok (.ifCond .ne 5, 3) := by decide +kernel
theorem dX10_whyOrder_22 : decode cX10_whyOrder 22 = .ok (.iconst (-1), 1) := by decide +kernel
theorem dX10_whyOrder_23 : decode cX10_whyOrder 23 = .ok (.ireturn, 1) := by decide +kernel
theorem dX10_whyOrder_24 : decode cX10_whyOrder 24 = .ok (.iinc 3 1, 3) := by decide +kernel
theorem dX10_whyOrder_27 : decode cX10_whyOrder 27 = .ok (.goto (-25), 3) := by decide +kernel
theorem dX10_whyOrder_30 : decode cX10_whyOrder 30 = .ok (.iconst 0, 1) := by decide +kernel
theorem dX10_whyOrder_31 : decode cX10_whyOrder 31 = .ok (.istore_n 3, 1) := by decide +kernel
theorem dX10_whyOrder_32 : decode cX10_whyOrder 32 = .ok (.iload_n 3, 1) := by decide +kernel
theorem dX10_whyOrder_33 : decode cX10_whyOrder 33 = .ok (.iload_n 2, 1) := by decide +kernel
theorem dX10_whyOrder_34 : decode cX10_whyOrder 34 = .ok (.if_icmp .ge 47, 3) := by decide +kernel
theorem dX10_whyOrder_37 : decode cX10_whyOrder 37 = .ok (.iconst 0, 1) := by decide +kernel
theorem dX10_whyOrder_38 : decode cX10_whyOrder 38 = .ok (.istore 4, 2) := by decide +kernel
theorem dX10_whyOrder_40 : decode cX10_whyOrder 40 = .ok (.iload 4, 2) := by decide +kernel
theorem dX10_whyOrder_42 : decode cX10_whyOrder 42 = .ok (.iload_n 3, 1) := by decide +kernel
theorem dX10_whyOrder_43 : decode cX10_whyOrder 43 = .ok (.if_icmp .ge 32, 3) := by decide +kernel
theorem dX10_whyOrder_46 : decode cX10_whyOrder 46 = .ok (.aload_n 0, 1) := by decide +kernel
theorem dX10_whyOrder_47 : decode cX10_whyOrder 47 = .ok (.getfield 16, 3) := by decide +kernel
theorem dX10_whyOrder_50 : decode cX10_whyOrder 50 = .ok (.iload_n 1, 1) := by decide +kernel
theorem dX10_whyOrder_51 : decode cX10_whyOrder 51 = .ok (.iload_n 3, 1) := by decide +kernel
theorem dX10_whyOrder_52 : decode cX10_whyOrder 52 = .ok (.iadd, 1) := by decide +kernel
theorem dX10_whyOrder_53 : decode cX10_whyOrder 53 = .ok (.iaload, 1) := by decide +kernel
theorem dX10_whyOrder_54 : decode cX10_whyOrder 54 = .ok (.aload_n 0, 1) := by decide +kernel
theorem dX10_whyOrder_55 : decode cX10_whyOrder 55 = .ok (.getfield 16, 3) := by decide +kernel
theorem dX10_whyOrder_58 : decode cX10_whyOrder 58 = .ok (.iload_n 1, 1) := by decide +kernel
theorem dX10_whyOrder_59 : decode cX10_whyOrder 59 = .ok (.iload 4, 2) := by decide +kernel
theorem dX10_whyOrder_61 : decode cX10_whyOrder 61 = .ok (.iadd, 1) := by decide +kernel
theorem dX10_whyOrder_62 : decode cX10_whyOrder 62 = .ok (.iaload, 1) := by decide +kernel
theorem dX10_whyOrder_63 : decode cX10_whyOrder 63 = .ok (.if_icmp .ne 6, 3) := by decide +kernel
theorem dX10_whyOrder_66 : decode cX10_whyOrder 66 = .ok (.bipush (-2), 2) := by decide +kernel
theorem dX10_whyOrder_68 : decode cX10_whyOrder 68 = .ok (.ireturn, 1) := by decide +kernel
theorem dX10_whyOrder_69 : decode cX10_whyOrder 69 = .ok (.iinc 4 1, 3) := by decide +kernel
theorem dX10_whyOrder_72 : decode cX10_whyOrder 72 = .ok (.goto (-32), 3) := by decide +kernel
theorem dX10_whyOrder_75 : decode cX10_whyOrder 75 = .ok (.iinc 3 1, 3) := by decide +kernel
theorem dX10_whyOrder_78 : decode cX10_whyOrder 78 = .ok (.goto (-46), 3) := by decide +kernel
theorem dX10_whyOrder_81 : decode cX10_whyOrder 81 = .ok (.iconst 0, 1) := by decide +kernel
theorem dX10_whyOrder_82 : decode cX10_whyOrder 82 = .ok (.ireturn, 1) := by decide +kernel
set_option maxRecDepth 20000 in
theorem ggX10_order_X10_isSheet : GoodIn wsX10_order wsX10_isSheet := goodIn_r _ [8, 9, 10, 7, 11] (by decide +kernel) (by decide +kernel)
set_option maxRecDepth 20000 in
theorem gX10_order_X10_isSheet : GoodIn wsX10_order (va_wsS RX10 130 yX10_isSheet wsX10_isSheet) := goodIn_app (goodIn_of _ (by decide +kernel)) ggX10_order_X10_isSheet
set_option maxRecDepth 20000 in
theorem ggX10_order_X10_isSort : GoodIn wsX10_order wsX10_isSort := goodIn_r _ [14, 9, 10, 7, 11] (by decide +kernel) (by decide +kernel)
set_option maxRecDepth 20000 in
theorem gX10_order_X10_isSort : GoodIn wsX10_order (va_wsS RX10 133 yX10_isSort wsX10_isSort) := goodIn_app (goodIn_of _ (by decide +kernel)) ggX10_order_X10_isSort
set_option maxRecDepth 20000 in
theorem ggX10_order_X10_within : GoodIn wsX10_order wsX10_within := goodIn_r _ [11] (by decide +kernel) (by decide +kernel)
set_option maxRecDepth 20000 in
theorem gX10_order_X10_within : GoodIn wsX10_order (va_wsS RX10 81 yX10_within wsX10_within) := goodIn_app (goodIn_of _ (by decide +kernel)) ggX10_order_X10_within
set_option maxRecDepth 20000 in
theorem ggX10_order_X10_against : GoodIn wsX10_order wsX10_against := goodIn_r _ [18, 19, 20, 95, 96, 97, 98, 99, 100, 101, 102, 103, 104, 105, 106, 107, 108, 109, 110, 111, 112, 113, 114, 115, 116, 117, 118, 119, 120, 121, 122, 123, 124, 125, 126, 127] (by decide +kernel) (by decide +kernel)
set_option maxRecDepth 20000 in
theorem gX10_order_X10_against : GoodIn wsX10_order (wsV RX10 136 RX10 yX10_against wsX10_against) := goodIn_app (goodIn_of _ (by decide +kernel)) ggX10_order_X10_against
set_option maxRecDepth 20000 in
theorem ggX10_order_X10_fails : GoodIn wsX10_order wsX10_fails := goodIn_r _ [24, 1, 95, 96, 97, 98, 99, 100, 101, 102, 103, 104, 105, 106, 107, 108, 109, 110, 111, 112, 113, 114, 115, 116, 117, 118, 119, 120, 121, 122, 123, 124, 125, 126, 127] (by decide +kernel) (by decide +kernel)
set_option maxRecDepth 20000 in
theorem gX10_order_X10_fails : GoodIn wsX10_order (wsV RX10 140 RX10 yX10_fails wsX10_fails) := goodIn_app (goodIn_of _ (by decide +kernel)) ggX10_order_X10_fails
set_option maxRecDepth 20000 in
theorem ggX10_order_X10_whyOrder : GoodIn wsX10_order wsX10_whyOrder := goodIn_r _ [28, 29, 30, 31, 32, 7, 33, 34, 35, 95, 96, 97, 98, 99, 100, 101, 102, 103, 104, 105, 106, 107, 108, 109, 110, 111, 112, 113, 114, 115, 116, 117, 118, 119, 120, 121, 122, 123, 124, 125, 126, 127] (by decide +kernel) (by decide +kernel)
set_option maxRecDepth 20000 in
theorem gX10_order_X10_whyOrder : GoodIn wsX10_order (wsV RX10 245 RX10 yX10_whyOrder wsX10_whyOrder) := goodIn_app (goodIn_of _ (by decide +kernel)) ggX10_order_X10_whyOrder
set_option maxRecDepth 20000 in
theorem ggX10_order_X10_layOrdered : GoodIn wsX10_order wsX10_layOrdered := goodIn_r _ [39, 40, 29, 95, 96, 97, 98, 99, 100, 101, 102, 103, 104, 105, 106, 107, 108, 109, 110, 111, 112, 113, 114, 115, 116, 117, 118, 119, 120, 121, 122, 123, 124, 125, 126, 127] (by decide +kernel) (by decide +kernel)
set_option maxRecDepth 20000 in
theorem gX10_order_X10_layOrdered : GoodIn wsX10_order (wsV RX10 248 RX10 yX10_layOrdered wsX10_layOrdered) := goodIn_app (goodIn_of _ (by decide +kernel)) ggX10_order_X10_layOrdered
set_option maxRecDepth 20000 in
theorem ggX10_order_X10_layCosts : GoodIn wsX10_order wsX10_layCosts := goodIn_r _ [44, 45, 46, 40, 47, 48, 49, 7, 50, 34, 35, 51, 52, 53, 54, 55, 56, 57, 58, 59, 60, 61, 62, 63, 64, 65, 9, 10, 11, 66, 67, 68, 69, 70, 71, 72, 73, 74, 75, 76, 77, 78, 79, 80, 81, 95, 96, 97, 98, 99, 100, 101, 102, 103, 104, 105, 106, 107, 108, 109, 110, 111, 112, 113, 114, 115, 116, 117, 118, 119, 120, 121, 122, 123, 124, 125, 126, 127] (by decide +kernel) (by decide +kernel)
set_option maxRecDepth 20000 in
theorem gX10_order_X10_layCosts : GoodIn wsX10_order (wsV RX10 252 RX10 yX10_layCosts wsX10_layCosts) := goodIn_app (goodIn_of _ (by decide +kernel)) ggX10_order_X10_layCosts
set_option maxRecDepth 20000 in
theorem ggX10_order_X10_findOrder : GoodIn wsX10_order wsX10_findOrder := goodIn_r _ [85, 3, 86, 87, 88, 89, 7, 90, 91, 92, 93, 94, 45, 4, 40, 95, 96, 97, 98, 99, 100, 101, 102, 103, 104, 105, 106, 107, 108, 109, 110, 111, 112, 113, 114, 115, 116, 117, 118, 119, 120, 121, 122, 123, 124, 125, 126, 127] (by decide +kernel) (by decide +kernel)
set_option maxRecDepth 20000 in
theorem gX10_order_X10_findOrder : GoodIn wsX10_order (wsV RX10 255 RX10 yX10_findOrder wsX10_findOrder) := goodIn_app (goodIn_of _ (by decide +kernel)) ggX10_order_X10_findOrder
theorem dX10_order_0 : decode cX10_order 0 = .ok (.aload_n 0, 1) := by decide +kernel
theorem dX10_order_1 : decode cX10_order 1 = .ok (.iconst 0, 1) := by decide +kernel
theorem dX10_order_2 : decode cX10_order 2 = .ok (.putfield 71, 3) := by decide +kernel
theorem dX10_order_5 : decode cX10_order 5 = .ok (.iload_n 2, 1) := by decide +kernel
theorem dX10_order_6 : decode cX10_order 6 = .ok (.invokestatic 130, 3) := by decide +kernel
theorem dX10_order_9 : decode cX10_order 9 = .ok (.ifCond .ne 5, 3) := by decide +kernel
theorem dX10_order_12 : decode cX10_order 12 = .ok (.iconst (-1), 1) := by decide +kernel
theorem dX10_order_13 : decode cX10_order 13 = .ok (.ireturn, 1) := by decide +kernel
theorem dX10_order_14 : decode cX10_order 14 = .ok (.iload_n 3, 1) := by decide +kernel
theorem dX10_order_15 : decode cX10_order 15 = .ok (.invokestatic 133, 3) := by decide +kernel
theorem dX10_order_18 : decode cX10_order 18 = .ok (.ifCond .eq 14, 3) := by decide +kernel
theorem dX10_order_21 : decode cX10_order 21 = .ok (.iload_n 1, 1) := by decide +kernel
theorem dX10_order_22 : decode cX10_order 22 = .ok (.iconst 0, 1) := by decide +kernel
theorem dX10_order_23 : decode cX10_order 23 = .ok (.sipush 9999, 3) := by decide +kernel
theorem dX10_order_26 : decode cX10_order 26 = .ok (.invokestatic 81, 3) := by decide +kernel
theorem dX10_order_29 : decode cX10_order 29 = .ok (.ifCond .ne 6, 3) := by decide +kernel
theorem dX10_order_32 : decode cX10_order 32 = .ok (.bipush (-2), 2) := by decide +kernel
theorem dX10_order_34 : decode cX10_order 34 = .ok (.ireturn, 1) := by decide +kernel
theorem dX10_order_35 : decode cX10_order 35 = .ok (.aload_n 0, 1) := by decide +kernel
theorem dX10_order_36 : decode cX10_order 36 = .ok (.iload_n 2, 1) := by decide +kernel
theorem dX10_order_37 : decode cX10_order 37 = .ok (.iload_n 3, 1) := by decide +kernel
theorem dX10_order_38 : decode cX10_order 38 = .ok (.iload 4, 2) := by decide +kernel
theorem dX10_order_40 : decode cX10_order 40 = .ok (.iload 5, 2) := by decide +kernel
theorem dX10_order_42 : decode cX10_order 42 = .ok (.iconst 1, 1) := by decide +kernel
theorem dX10_order_43 : decode cX10_order 43 = .ok (.invokevirtual 136, 3) := by decide +kernel
theorem dX10_order_46 : decode cX10_order 46 = .ok (.istore 7, 2) := by decide +kernel
theorem dX10_order_48 : decode cX10_order 48 = .ok (.iload 7, 2) := by decide +kernel
theorem dX10_order_50 : decode cX10_order 50 = .ok (.ifCond .eq 10, 3) := by decide +kernel
theorem dX10_order_53 : decode cX10_order 53 = .ok (.aload_n 0, 1) := by decide +kernel
theorem dX10_order_54 : decode cX10_order 54 = .ok (.iload 7, 2) := by decide +kernel
theorem dX10_order_56 : decode cX10_order 56 = .ok (.invokevirtual 140, 3) := by decide +kernel
theorem dX10_order_59 : decode cX10_order 59 = .ok (.ireturn, 1) := by decide +kernel
theorem dX10_order_60 : decode cX10_order 60 = .ok (.iload 5, 2) := by decide +kernel
theorem dX10_order_62 : decode cX10_order 62 = .ok (.iconst 1, 1) := by decide +kernel
theorem dX10_order_63 : decode cX10_order 63 = .ok (.bipush 6, 2) := by decide +kernel
theorem dX10_order_65 : decode cX10_order 65 = .ok (.invokestatic 81, 3) := by decide +kernel
theorem dX10_order_68 : decode cX10_order 68 = .ok (.ifCond .ne 6, 3) := by decide +kernel
theorem dX10_order_71 : decode cX10_order 71 = .ok (.bipush (-2), 2) := by decide +kernel
theorem dX10_order_73 : decode cX10_order 73 = .ok (.ireturn, 1) := by decide +kernel
theorem dX10_order_74 : decode cX10_order 74 = .ok (.bipush 80, 2) := by decide +kernel
theorem dX10_order_76 : decode cX10_order 76 = .ok (.iload_n 2, 1) := by decide +kernel
theorem dX10_order_77 : decode cX10_order 77 = .ok (.imul, 1) := by decide +kernel
theorem dX10_order_78 : decode cX10_order 78 = .ok (.iload 4, 2) := by decide +kernel
theorem dX10_order_80 : decode cX10_order 80 = .ok (.iadd, 1) := by decide +kernel
theorem dX10_order_81 : decode cX10_order 81 = .ok (.istore 8, 2) := by decide +kernel
theorem dX10_order_83 : decode cX10_order 83 = .ok (.aload_n 0, 1) := by decide +kernel
theorem dX10_order_84 : decode cX10_order 84 = .ok (.iload 8, 2) := by decide +kernel
theorem dX10_order_86 : decode cX10_order 86 = .ok (.iload 5, 2) := by decide +kernel
theorem dX10_order_88 : decode cX10_order 88 = .ok (.invokevirtual 245, 3) := by decide +kernel
theorem dX10_order_91 : decode cX10_order 91 = .ok (.istore 9, 2) := by decide +kernel
theorem dX10_order_93 : decode cX10_order 93 = .ok (.iload 9, 2) := by decide +kernel
theorem dX10_order_95 : decode cX10_order 95 = .ok (.ifCond .eq 6, 3) := by decide +kernel
theorem dX10_order_98 : decode cX10_order 98 = .ok (.iload 9, 2) := by decide +kernel
theorem dX10_order_100 : decode cX10_order 100 = .ok (.ireturn, 1) := by decide +kernel
theorem dX10_order_101 : decode cX10_order 101 = .ok (.iload 6, 2) := by decide +kernel
theorem dX10_order_103 : decode cX10_order 103 = .ok (.iconst (-1), 1) := by decide +kernel
theorem dX10_order_104 : decode cX10_order 104 = .ok (.iconst 5, 1) := by decide +kernel
theorem dX10_order_105 : decode cX10_order 105 = .ok (.invokestatic 81, 3) := by decide +kernel
theorem dX10_order_108 : decode cX10_order 108 = .ok (.ifCond .ne 5, 3) := by decide +kernel
theorem dX10_order_111 : decode cX10_order 111 = .ok (.iconst (-1), 1) := by decide +kernel
theorem dX10_order_112 : decode cX10_order 112 = .ok (.ireturn, 1) := by decide +kernel
theorem dX10_order_113 : decode cX10_order 113 = .ok (.aload_n 0, 1) := by decide +kernel
theorem dX10_order_114 : decode cX10_order 114 = .ok (.getfield 146, 3) := by decide +kernel
theorem dX10_order_117 : decode cX10_order 117 = .ok (.ifCond .ne 6, 3) := by decide +kernel
theorem dX10_order_120 : decode cX10_order 120 = .ok (.bipush (-3), 2) := by decide +kernel
theorem dX10_order_122 : decode cX10_order 122 = .ok (.ireturn, 1) := by decide +kernel
theorem dX10_order_123 : decode cX10_order 123 = .ok (.aload_n 0, 1) := by decide +kernel
theorem dX10_order_124 : decode cX10_order 124 = .ok (.iload 8, 2) := by decide +kernel
theorem dX10_order_126 : decode cX10_order 126 = .ok (.iload 5, 2) := by decide +kernel
theorem dX10_order_128 : decode cX10_order 128 = .ok (.invokevirtual 248, 3) := by decide +kernel
theorem dX10_order_131 : decode cX10_order 131 = .ok (.aload_n 0, 1) := by decide +kernel
theorem dX10_order_132 : decode cX10_order 132 = .ok (.iload 5, 2) := by decide +kernel
theorem dX10_order_134 : decode cX10_order 134 = .ok (.iload_n 1, 1) := by decide +kernel
theorem dX10_order_135 : decode cX10_order 135 = .ok (.invokevirtual 252, 3) := by decide +kernel
theorem dX10_order_138 : decode cX10_order 138 = .ok (.aload_n 0, 1) := by decide +kernel
theorem dX10_order_139 : decode cX10_order 139 = .ok (.iload 5, 2) := by decide +kernel
theorem dX10_order_141 : decode cX10_order 141 = .ok (.invokevirtual 255, 3) := by decide +kernel
theorem dX10_order_144 : decode cX10_order 144 = .ok (.iload 6, 2) := by decide +kernel
theorem dX10_order_146 : decode cX10_order 146 = .ok (.ifCond .ge 10, 3) := by decide +kernel
theorem dX10_order_149 : decode cX10_order 149 = .ok (.aload_n 0, 1) := by decide +kernel
theorem dX10_order_150 : decode cX10_order 150 = .ok (.getfield 235, 3) := by decide +kernel
theorem dX10_order_153 : decode cX10_order 153 = .ok (.goto 22, 3) := by decide +kernel
theorem dX10_order_156 : decode cX10_order 156 = .ok (.iload 6, 2) := by decide +kernel
theorem dX10_order_158 : decode cX10_order 158 = .ok (.iload 5, 2) := by decide +kernel
theorem dX10_order_160 : decode cX10_order 160 = .ok (.if_icmp .ge 13, 3) := by decide +kernel
theorem dX10_order_163 : decode cX10_order 163 = .ok (.aload_n 0, 1) := by decide +kernel
theorem dX10_order_164 : decode cX10_order 164 = .ok (.getfield 55, 3) := by decide +kernel
theorem dX10_order_167 : decode cX10_order 167 = .ok (.iload 6, 2) := by decide +kernel
theorem dX10_order_169 : decode cX10_order 169 = .ok (.iaload, 1) := by decide +kernel
theorem dX10_order_170 : decode cX10_order 170 = .ok (.goto 5, 3) := by decide +kernel
theorem dX10_order_173 : decode cX10_order 173 = .ok (.bipush (-9), 2) := by decide +kernel
theorem dX10_order_175 : decode cX10_order 175 = .ok (.ireturn, 1) := by decide +kernel
set_option maxRecDepth 20000 in
theorem ggX10_isTicks_X10_within : GoodIn wsX10_isTicks wsX10_within := goodIn_r _ [4] (by decide +kernel) (by decide +kernel)
set_option maxRecDepth 20000 in
theorem gX10_isTicks_X10_within : GoodIn wsX10_isTicks (va_wsS RX10 81 yX10_within wsX10_within) := goodIn_app (goodIn_of _ (by decide +kernel)) ggX10_isTicks_X10_within
theorem dX10_isTicks_0 : decode cX10_isTicks 0 = .ok (.iload_n 0, 1) := by decide +kernel
theorem dX10_isTicks_1 : decode cX10_isTicks 1 = .ok (.iconst 1, 1) := by decide +kernel
theorem dX10_isTicks_2 : decode cX10_isTicks 2 = .ok (.bipush 60, 2) := by decide +kernel
theorem dX10_isTicks_4 : decode cX10_isTicks 4 = .ok (.invokestatic 81, 3) := by decide +kernel
theorem dX10_isTicks_7 : decode cX10_isTicks 7 = .ok (.ireturn, 1) := by decide +kernel
theorem dX10_isWheel_0 : decode cX10_isWheel 0 = .ok (.aload_n 0, 1) := by decide +kernel
theorem dX10_isWheel_1 : decode cX10_isWheel 1 = .ok (.getfield 182, 3) := by decide +kernel
theorem dX10_isWheel_4 : decode cX10_isWheel 4 = .ok (.ifCond .le 18, 3) := by decide +kernel
theorem dX10_isWheel_7 : decode cX10_isWheel 7 = .ok (.aload_n 0, 1) := by decide +kernel
theorem dX10_isWheel_8 : decode cX10_isWheel 8 = .ok (.getfield 182, 3) := by decide +kernel
theorem dX10_isWheel_11 : decode cX10_isWheel 11 = .ok (.aload_n 0, 1) := by decide +kernel
theorem dX10_isWheel_12 : decode cX10_isWheel 12 = .ok (.getfield 185, 3) := by decide +kernel
theorem dX10_isWheel_15 : decode cX10_isWheel 15 = .ok (.if_icmp .ne 7, 3) := by decide +kernel
theorem dX10_isWheel_18 : decode cX10_isWheel 18 = .ok (.iconst 1, 1) := by decide +kernel
theorem dX10_isWheel_19 : decode cX10_isWheel 19 = .ok (.goto 4, 3) := by decide +kernel
theorem dX10_isWheel_22 : decode cX10_isWheel 22 = .ok (.iconst 0, 1) := by decide +kernel
theorem dX10_isWheel_23 : decode cX10_isWheel 23 = .ok (.ireturn, 1) := by decide +kernel
theorem dX10_turnedTo_0 : decode cX10_turnedTo 0 = .ok (.iload_n 1, 1) := by decide +kernel
theorem dX10_turnedTo_1 : decode cX10_turnedTo 1 = .ok (.aload_n 0, 1) := by decide +kernel
theorem dX10_turnedTo_2 : decode cX10_turnedTo 2 = .ok (.getfield 185, 3) := by decide +kernel
theorem dX10_turnedTo_5 : decode cX10_turnedTo 5 = .ok (.idiv, 1) := by decide +kernel
theorem dX10_turnedTo_6 : decode cX10_turnedTo 6 = .ok (.istore_n 3, 1) := by decide +kernel
theorem dX10_turnedTo_7 : decode cX10_turnedTo 7 = .ok (.iload_n 1, 1) := by decide +kernel
theorem dX10_turnedTo_8 : decode cX10_turnedTo 8 = .ok (.aload_n 0, 1) := by decide +kernel
theorem dX10_turnedTo_9 : decode cX10_turnedTo 9 = .ok (.getfield 185, 3) := by decide +kernel
theorem dX10_turnedTo_12 : decode cX10_turnedTo 12 = .ok (.irem, 1) := by decide +kernel
theorem dX10_turnedTo_13 : decode cX10_turnedTo 13 = .ok (.istore 4, 2) := by decide +kernel
theorem dX10_turnedTo_15 : decode cX10_turnedTo 15 = .ok (.iconst 0, 1) := by decide +kernel
theorem dX10_turnedTo_16 : decode cX10_turnedTo 16 = .ok (.istore 5, 2) := by decide +kernel
theorem dX10_turnedTo_18 : decode cX10_turnedTo 18 = .ok (.iload 5, 2) := by decide +kernel
theorem dX10_turnedTo_20 : decode cX10_turnedTo 20 = .ok (.iload_n 2, 1) := by decide +kernel
theorem dX10_turnedTo_21 : decode cX10_turnedTo 21 = .ok (.if_icmp .ge 26, 3) := by decide +kernel
theorem dX10_turnedTo_24 : decode cX10_turnedTo 24 = .ok (.iload_n 3, 1) := by decide +kernel
theorem dX10_turnedTo_25 : decode cX10_turnedTo 25 = .ok (.istore 6, 2) := by decide +kernel
theorem dX10_turnedTo_27 : decode cX10_turnedTo 27 = .ok (.aload_n 0, 1) := by decide +kernel
theorem dX10_turnedTo_28 : decode cX10_turnedTo 28 = .ok (.getfield 185, 3) := by decide +kernel
theorem dX10_turnedTo_31 : decode cX10_turnedTo 31 = .ok (.iconst 1, 1) := by decide +kernel
theorem dX10_turnedTo_32 : decode cX10_turnedTo 32 = .ok (.isub, 1) := by decide +kernel
theorem dX10_turnedTo_33 : decode cX10_turnedTo 33 = .ok (.iload 4, 2) := by decide +kernel
theorem dX10_turnedTo_35 : decode cX10_turnedTo 35 = .ok (.isub, 1) := by decide +kernel
theorem dX10_turnedTo_36 : decode cX10_turnedTo 36 = .ok (.istore_n 3, 1) := by decide +kernel
theorem dX10_turnedTo_37 : decode cX10_turnedTo 37 = .ok (.iload 6, 2) := by decide +kernel
theorem dX10_turnedTo_39 : decode cX10_turnedTo 39 = .ok (.istore 4, 2) := by decide +kernel
theorem dX10_turnedTo_41 : decode cX10_turnedTo 41 = .ok (.iinc 5 1, 3) := by decide +kernel
theorem dX10_turnedTo_44 : decode cX10_turnedTo 44 = .ok (.goto (-26), 3) := by decide +kernel
theorem dX10_turnedTo_47 : decode cX10_turnedTo 47 = .ok (.aload_n 0, 1) := by decide +kernel
theorem dX10_turnedTo_48 : decode cX10_turnedTo 48 = .ok (.getfield 37, 3) := by decide +kernel
theorem dX10_turnedTo_51 : decode cX10_turnedTo 51 = .ok (.aload_n 0, 1) := by decide +kernel
theorem dX10_turnedTo_52 : decode cX10_turnedTo 52 = .ok (.getfield 185, 3) := by decide +kernel
theorem dX10_turnedTo_55 : decode cX10_turnedTo 55 = .ok (.iload_n 3, 1) := by decide +kernel
theorem dX10_turnedTo_56 : decode cX10_turnedTo 56 = .ok (.imul, 1) := by decide +kernel
theorem dX10_turnedTo_57 : decode cX10_turnedTo 57 = .ok (.iload 4, 2) := by decide +kernel
theorem dX10_turnedTo_59 : decode cX10_turnedTo 59 = .ok (.iadd, 1) := by decide +kernel
theorem dX10_turnedTo_60 : decode cX10_turnedTo 60 = .ok (.iaload, 1) := by decide +kernel
theorem dX10_turnedTo_61 : decode cX10_turnedTo 61 = .ok (.ireturn, 1) := by decide +kernel
set_option maxRecDepth 20000 in
theorem ggX10_turned_X10_isCell : GoodIn wsX10_turned wsX10_isCell := goodIn_r _ [6, 7, 8, 24, 25, 26, 27, 28, 29, 30, 31, 32, 33, 34, 35, 36, 37, 38, 39, 40, 41, 42, 43, 44, 45, 46, 47, 48, 49, 50, 51, 52, 53, 54, 55, 56] (by decide +kernel) (by decide +kernel)
set_option maxRecDepth 20000 in
theorem gX10_turned_X10_isCell : GoodIn wsX10_turned (wsV RX10 200 RX10 yX10_isCell wsX10_isCell) := goodIn_app (goodIn_of _ (by decide +kernel)) ggX10_turned_X10_isCell
set_option maxRecDepth 20000 in
theorem ggX10_turned_X10_isTicks : GoodIn wsX10_turned wsX10_isTicks := goodIn_r _ [11, 12, 13, 5, 14] (by decide +kernel) (by decide +kernel)
set_option maxRecDepth 20000 in
theorem gX10_turned_X10_isTicks : GoodIn wsX10_turned (va_wsS RX10 258 yX10_isTicks wsX10_isTicks) := goodIn_app (goodIn_of _ (by decide +kernel)) ggX10_turned_X10_isTicks
set_option maxRecDepth 20000 in
theorem ggX10_turned_X10_within : GoodIn wsX10_turned wsX10_within := goodIn_r _ [14] (by decide +kernel) (by decide +kernel)
set_option maxRecDepth 20000 in
theorem gX10_turned_X10_within : GoodIn wsX10_turned (va_wsS RX10 81 yX10_within wsX10_within) := goodIn_app (goodIn_of _ (by decide +kernel)) ggX10_turned_X10_within
set_option maxRecDepth 20000 in
theorem ggX10_turned_X10_isWheel : GoodIn wsX10_turned wsX10_isWheel := goodIn_r _ [18, 7, 8, 24, 25, 26, 27, 28, 29, 30, 31, 32, 33, 34, 35, 36, 37, 38, 39, 40, 41, 42, 43, 44, 45, 46, 47, 48, 49, 50, 51, 52, 53, 54, 55, 56] (by decide +kernel) (by decide +kernel)
set_option maxRecDepth 20000 in
theorem gX10_turned_X10_isWheel : GoodIn wsX10_turned (wsV RX10 262 RX10 yX10_isWheel wsX10_isWheel) := goodIn_app (goodIn_of _ (by decide +kernel)) ggX10_turned_X10_isWheel
set_option maxRecDepth 20000 in
theorem ggX10_turned_X10_turnedTo : GoodIn wsX10_turned wsX10_turnedTo := goodIn_r _ [22, 8, 23, 24, 25, 26, 27, 28, 29, 30, 31, 32, 33, 34, 35, 36, 37, 38, 39, 40, 41, 42, 43, 44, 45, 46, 47, 48, 49, 50, 51, 52, 53, 54, 55, 56] (by decide +kernel) (by decide +kernel)
set_option maxRecDepth 20000 in
theorem gX10_turned_X10_turnedTo : GoodIn wsX10_turned (wsV RX10 266 RX10 yX10_turnedTo wsX10_turnedTo) := goodIn_app (goodIn_of _ (by decide +kernel)) ggX10_turned_X10_turnedTo
theorem dX10_turned_0 : decode cX10_turned 0 = .ok (.aload_n 0, 1) := by decide +kernel
theorem dX10_turned_1 : decode cX10_turned 1 = .ok (.iload_n 1, 1) := by decide +kernel
theorem dX10_turned_2 : decode cX10_turned 2 = .ok (.invokevirtual 200, 3) := by decide +kernel
theorem dX10_turned_5 : decode cX10_turned 5 = .ok (.ifCond .ne 5, 3) := by decide +kernel
theorem dX10_turned_8 : decode cX10_turned 8 = .ok (.iconst (-1), 1) := by decide +kernel
theorem dX10_turned_9 : decode cX10_turned 9 = .ok (.ireturn, 1) := by decide +kernel
theorem dX10_turned_10 : decode cX10_turned 10 = .ok (.iload_n 2, 1) := by decide +kernel
theorem dX10_turned_11 : decode cX10_turned 11 = .ok (.invokestatic 258, 3) := by decide +kernel
theorem dX10_turned_14 : decode cX10_turned 14 = .ok (.ifCond .eq 14, 3) := by decide +kernel
theorem dX10_turned_17 : decode cX10_turned 17 = .ok (.iload_n 3, 1) := by decide +kernel
theorem dX10_turned_18 : decode cX10_turned 18 = .ok (.iconst 0, 1) := by decide +kernel
theorem dX10_turned_19 : decode cX10_turned 19 = .ok (.ldc_w 261, 3) := by decide +kernel
theorem dX10_turned_22 : decode cX10_turned 22 = .ok (.invokestatic 81, 3) := by decide +kernel
theorem dX10_turned_25 : decode cX10_turned 25 = .ok (.ifCond .ne 6, 3) := by decide +kernel
theorem dX10_turned_28 : decode cX10_turned 28 = .ok (.bipush (-2), 2) := by decide +kernel
theorem dX10_turned_30 : decode cX10_turned 30 = .ok (.ireturn, 1) := by decide +kernel
theorem dX10_turned_31 : decode cX10_turned 31 = .ok (.aload_n 0, 1) := by decide +kernel
theorem dX10_turned_32 : decode cX10_turned 32 = .ok (.invokevirtual 262, 3) := by decide +kernel
theorem dX10_turned_35 : decode cX10_turned 35 = .ok (.ifCond .eq 16, 3) := by decide +kernel
theorem dX10_turned_38 : decode cX10_turned 38 = .ok (.aload_n 0, 1) := by decide +kernel
theorem dX10_turned_39 : decode cX10_turned 39 = .ok (.iload_n 1, 1) := by decide +kernel
theorem dX10_turned_40 : decode cX10_turned 40 = .ok (.iload_n 3, 1) := by decide +kernel
theorem dX10_turned_41 : decode cX10_turned 41 = .ok (.iload_n 2, 1) := by decide +kernel
theorem dX10_turned_42 : decode cX10_turned 42 = .ok (.idiv, 1) := by decide +kernel
theorem dX10_turned_43 : decode cX10_turned 43 = .ok (.iconst 4, 1) := by decide +kernel
theorem dX10_turned_44 : decode cX10_turned 44 = .ok (.irem, 1) := by decide +kernel
theorem dX10_turned_45 : decode cX10_turned 45 = .ok (.invokevirtual 266, 3) := by decide +kernel
theorem dX10_turned_48 : decode cX10_turned 48 = .ok (.goto 5, 3) := by decide +kernel
theorem dX10_turned_51 : decode cX10_turned 51 = .ok (.bipush (-3), 2) := by decide +kernel
theorem dX10_turned_53 : decode cX10_turned 53 = .ok (.ireturn, 1) := by decide +kernel
set_option maxRecDepth 20000 in
theorem ggX10_when_X10_isKnife : GoodIn wsX10_when wsX10_isKnife := goodIn_r _ [10, 11, 62, 63, 64, 65, 66, 67, 68, 69, 70, 71, 72, 73, 74, 75, 76, 77, 78, 79, 80, 81, 82, 83, 84, 85, 86, 87, 88, 89, 90, 91, 92, 93, 94] (by decide +kernel) (by decide +kernel)
set_option maxRecDepth 20000 in
theorem gX10_when_X10_isKnife : GoodIn wsX10_when (wsV RX10 88 RX10 yX10_isKnife wsX10_isKnife) := goodIn_app (goodIn_of _ (by decide +kernel)) ggX10_when_X10_isKnife
set_option maxRecDepth 20000 in
theorem ggX10_when_X10_isCell : GoodIn wsX10_when wsX10_isCell := goodIn_r _ [15, 3, 4, 62, 63, 64, 65, 66, 67, 68, 69, 70, 71, 72, 73, 74, 75, 76, 77, 78, 79, 80, 81, 82, 83, 84, 85, 86, 87, 88, 89, 90, 91, 92, 93, 94] (by decide +kernel) (by decide +kernel)
set_option maxRecDepth 20000 in
theorem gX10_when_X10_isCell : GoodIn wsX10_when (wsV RX10 200 RX10 yX10_isCell wsX10_isCell) := goodIn_app (goodIn_of _ (by decide +kernel)) ggX10_when_X10_isCell
set_option maxRecDepth 20000 in
theorem ggX10_when_X10_isFeet : GoodIn wsX10_when wsX10_isFeet := goodIn_r _ [18, 19, 20, 9, 21] (by decide +kernel) (by decide +kernel)
set_option maxRecDepth 20000 in
theorem gX10_when_X10_isFeet : GoodIn wsX10_when (va_wsS RX10 99 yX10_isFeet wsX10_isFeet) := goodIn_app (goodIn_of _ (by decide +kernel)) ggX10_when_X10_isFeet
set_option maxRecDepth 20000 in
theorem ggX10_when_X10_isTicks : GoodIn wsX10_when wsX10_isTicks := goodIn_r _ [24, 19, 20, 9, 21] (by decide +kernel) (by decide +kernel)
set_option maxRecDepth 20000 in
theorem gX10_when_X10_isTicks : GoodIn wsX10_when (va_wsS RX10 258 yX10_isTicks wsX10_isTicks) := goodIn_app (goodIn_of _ (by decide +kernel)) ggX10_when_X10_isTicks
set_option maxRecDepth 20000 in
theorem ggX10_when_X10_within : GoodIn wsX10_when wsX10_within := goodIn_r _ [21] (by decide +kernel) (by decide +kernel)
set_option maxRecDepth 20000 in
theorem gX10_when_X10_within : GoodIn wsX10_when (va_wsS RX10 81 yX10_within wsX10_within) := goodIn_app (goodIn_of _ (by decide +kernel)) ggX10_when_X10_within
set_option maxRecDepth 20000 in
theorem ggX10_when_X10_isWheel : GoodIn wsX10_when wsX10_isWheel := goodIn_r _ [28, 3, 4, 62, 63, 64, 65, 66, 67, 68, 69, 70, 71, 72, 73, 74, 75, 76, 77, 78, 79, 80, 81, 82, 83, 84, 85, 86, 87, 88, 89, 90, 91, 92, 93, 94] (by decide +kernel) (by decide +kernel)
set_option maxRecDepth 20000 in
theorem gX10_when_X10_isWheel : GoodIn wsX10_when (wsV RX10 262 RX10 yX10_isWheel wsX10_isWheel) := goodIn_app (goodIn_of _ (by decide +kernel)) ggX10_when_X10_isWheel
set_option maxRecDepth 20000 in
theorem ggX10_when_X10_turnedTo : GoodIn wsX10_when wsX10_turnedTo := goodIn_r _ [32, 4, 33, 62, 63, 64, 65, 66, 67, 68, 69, 70, 71, 72, 73, 74, 75, 76, 77, 78, 79, 80, 81, 82, 83, 84, 85, 86, 87, 88, 89, 90, 91, 92, 93, 94] (by decide +kernel) (by decide +kernel)
set_option maxRecDepth 20000 in
theorem gX10_when_X10_turnedTo : GoodIn wsX10_when (wsV RX10 266 RX10 yX10_turnedTo wsX10_turnedTo) := goodIn_app (goodIn_of _ (by decide +kernel)) ggX10_when_X10_turnedTo
set_option maxRecDepth 20000 in
theorem ggX10_when_X10_isLow : GoodIn wsX10_when wsX10_isLow := goodIn_r _ [37, 38, 39, 40, 9, 41, 5, 42, 43, 44, 45, 4, 3, 19, 20, 21, 46, 47, 48, 49, 50, 51, 52, 53, 54, 55, 56, 57, 58, 59, 60, 61, 62, 63, 64, 65, 66, 67, 68, 69, 70, 71, 72, 73, 74, 75, 76, 77, 78, 79, 80, 81, 82, 83, 84, 85, 86, 87, 88, 89, 90, 91, 92, 93, 94] (by decide +kernel) (by decide +kernel)
set_option maxRecDepth 20000 in
theorem gX10_when_X10_isLow : GoodIn wsX10_when (wsV RX10 220 RX10 yX10_isLow wsX10_isLow) := goodIn_app (goodIn_of _ (by decide +kernel)) ggX10_when_X10_isLow
theorem dX10_when_0 : decode cX10_when 0 = .ok (.aload_n 0, 1) := by decide +kernel
theorem dX10_when_1 : decode cX10_when 1 = .ok (.iload_n 1, 1) := by decide +kernel
theorem dX10_when_2 : decode cX10_when 2 = .ok (.invokevirtual 88, 3) := by decide +kernel
theorem dX10_when_5 : decode cX10_when 5 = .ok (.ifCond .eq 11, 3) := by decide +kernel
theorem dX10_when_8 : decode cX10_when 8 = .ok (.aload_n 0, 1) := by decide +kernel
theorem dX10_when_9 : decode cX10_when 9 = .ok (.iload_n 3, 1) := by decide +kernel
theorem dX10_when_10 : decode cX10_when 10 = .ok (.invokevirtual 200, 3) := by decide +kernel
theorem dX10_when_13 : decode cX10_when 13 = .ok (.ifCond .ne 5, 3) := by decide +kernel
theorem dX10_when_16 : decode cX10_when 16 = .ok (.iconst (-1), 1) := by decide +kernel
theorem dX10_when_17 : decode cX10_when 17 = .ok (.ireturn, 1) := by decide +kernel
theorem dX10_when_18 : decode cX10_when 18 = .ok (.iload_n 2, 1) := by decide +kernel
theorem dX10_when_19 : decode cX10_when 19 = .ok (.invokestatic 99, 3) := by decide +kernel
theorem dX10_when_22 : decode cX10_when 22 = .ok (.ifCond .eq 54, 3) := by decide +kernel
theorem dX10_when_25 : decode cX10_when 25 = .ok (.iload 4, 2) := by decide +kernel
theorem dX10_when_27 : decode cX10_when 27 = .ok (.invokestatic 258, 3) := by decide +kernel
theorem dX10_when_30 : decode cX10_when 30 = .ok (.ifCond .eq 46, 3) := by decide +kernel
theorem dX10_when_33 : decode cX10_when 33 = .ok (.iload 5, 2) := by decide +kernel
theorem dX10_when_35 : decode cX10_when 35 = .ok (.invokestatic 258, 3) := by decide +kernel
theorem dX10_when_38 : decode cX10_when 38 = .ok (.ifCond .eq 38, 3) := by decide +kernel
theorem dX10_when_41 : decode cX10_when 41 = .ok (.iload 6, 2) := by decide +kernel
theorem dX10_when_43 : decode cX10_when 43 = .ok (.iconst 0, 1) := by decide +kernel
theorem dX10_when_44 : decode cX10_when 44 = .ok (.iload 5, 2) := by decide +kernel
theorem dX10_when_46 : decode cX10_when 46 = .ok (.invokestatic 81, 3) := by decide +kernel
theorem dX10_when_49 : decode cX10_when 49 = .ok (.ifCond .eq 27, 3) := by decide +kernel
theorem dX10_when_52 : decode cX10_when 52 = .ok (.iload 7, 2) := by decide +kernel
theorem dX10_when_54 : decode cX10_when 54 = .ok (.iconst 0, 1) := by decide +kernel
theorem dX10_when_55 : decode cX10_when 55 = .ok (.sipush 1000, 3) := by decide +kernel
theorem dX10_when_58 : decode cX10_when 58 = .ok (.invokestatic 81, 3) := by decide +kernel
theorem dX10_when_61 : decode cX10_when 61 = .ok (.ifCond .eq 15, 3) := by decide +kernel
theorem dX10_when_64 : decode cX10_when 64 = .ok (.iload 8, 2) := by decide +kernel
theorem dX10_when_66 : decode cX10_when 66 = .ok (.iconst 0, 1) := by decide +kernel
theorem dX10_when_67 : decode cX10_when 67 = .ok (.sipush 9999, 3) := by decide +kernel
theorem dX10_when_70 : decode cX10_when 70 = .ok (.invokestatic 81, 3) := by decide +kernel
theorem dX10_when_73 : decode cX10_when 73 = .ok (.ifCond .ne 6, 3) := by decide +kernel
theorem dX10_when_76 : decode cX10_when 76 = .ok (.bipush (-2), 2) := by decide +kernel
theorem dX10_when_78 : decode cX10_when 78 = .ok (.ireturn, 1) := by decide +kernel
theorem dX10_when_79 : decode cX10_when 79 = .ok (.aload_n 0, 1) := by decide +kernel
theorem dX10_when_80 : decode cX10_when 80 = .ok (.getfield 146, 3) := by decide +kernel
theorem dX10_when_83 : decode cX10_when 83 = .ok (.ifCond .eq 10, 3) := by decide +kernel
theorem dX10_when_86 : decode cX10_when 86 = .ok (.aload_n 0, 1) := by decide +kernel
theorem dX10_when_87 : decode cX10_when 87 = .ok (.invokevirtual 262, 3) := by decide +kernel
theorem dX10_when_90 : decode cX10_when 90 = .ok (.ifCond .ne 6, 3) := by decide +kernel
theorem dX10_when_93 : decode cX10_when 93 = .ok (.bipush (-3), 2) := by decide +kernel
theorem dX10_when_95 : decode cX10_when 95 = .ok (.ireturn, 1) := by decide +kernel
theorem dX10_when_96 : decode cX10_when 96 = .ok (.iload_n 2, 1) := by decide +kernel
theorem dX10_when_97 : decode cX10_when 97 = .ok (.aload_n 0, 1) := by decide +kernel
theorem dX10_when_98 : decode cX10_when 98 = .ok (.getfield 22, 3) := by decide +kernel
theorem dX10_when_101 : decode cX10_when 101 = .ok (.iload_n 1, 1) := by decide +kernel
theorem dX10_when_102 : decode cX10_when 102 = .ok (.iaload, 1) := by decide +kernel
theorem dX10_when_103 : decode cX10_when 103 = .ok (.iadd, 1) := by decide +kernel
theorem dX10_when_104 : decode cX10_when 104 = .ok (.iconst 1, 1) := by decide +kernel
theorem dX10_when_105 : decode cX10_when 105 = .ok (.isub, 1) := by decide +kernel
theorem dX10_when_106 : decode cX10_when 106 = .ok (.aload_n 0, 1) := by decide +kernel
theorem dX10_when_107 : decode cX10_when 107 = .ok (.getfield 22, 3) := by decide +kernel
theorem dX10_when_110 : decode cX10_when 110 = .ok (.iload_n 1, 1) := by decide +kernel
theorem dX10_when_111 : decode cX10_when 111 = .ok (.iaload, 1) := by decide +kernel
theorem dX10_when_112 : decode cX10_when 112 = .ok (.idiv, 1) := by decide +kernel
theorem dX10_when_113 : decode cX10_when 113 = .ok (.istore 9, 2) := by decide +kernel
theorem dX10_when_115 : decode cX10_when 115 = .ok (.iload 8, 2) := by decide +kernel
theorem dX10_when_117 : decode cX10_when 117 = .ok (.istore 10, 2) := by decide +kernel
theorem dX10_when_119 : decode cX10_when 119 = .ok (.iload 10, 2) := by decide +kernel
theorem dX10_when_121 : decode cX10_when 121 = .ok (.iload 8, 2) := by decide +kernel
theorem dX10_when_123 : decode cX10_when 123 = .ok (.sipush 1000, 3) := by decide +kernel
theorem dX10_when_126 : decode cX10_when 126 = .ok (.iadd, 1) := by decide +kernel
theorem dX10_when_127 : decode cX10_when 127 = .ok (.if_icmp .gt 88, 3) := by decide +kernel
theorem dX10_when_130 : decode cX10_when 130 = .ok (.iload 10, 2) := by decide +kernel
theorem dX10_when_132 : decode cX10_when 132 = .ok (.iload 9, 2) := by decide +kernel
theorem dX10_when_134 : decode cX10_when 134 = .ok (.iadd, 1) := by decide +kernel
theorem dX10_when_135 : decode cX10_when 135 = .ok (.istore 11, 2) := by decide +kernel
theorem dX10_when_137 : decode cX10_when 137 = .ok (.iconst 0, 1) := by decide +kernel
theorem dX10_when_138 : decode cX10_when 138 = .ok (.istore 12, 2) := by decide +kernel
theorem dX10_when_140 : decode cX10_when 140 = .ok (.iload 12, 2) := by decide +kernel
theorem dX10_when_142 : decode cX10_when 142 = .ok (.aload_n 0, 1) := by decide +kernel
theorem dX10_when_143 : decode cX10_when 143 = .ok (.getfield 182, 3) := by decide +kernel
theorem dX10_when_146 : decode cX10_when 146 = .ok (.aload_n 0, 1) := by decide +kernel
theorem dX10_when_147 : decode cX10_when 147 = .ok (.getfield 185, 3) := by decide +kernel
theorem dX10_when_150 : decode cX10_when 150 = .ok (.imul, 1) := by decide +kernel
theorem dX10_when_151 : decode cX10_when 151 = .ok (.if_icmp .ge 29, 3) := by decide +kernel
theorem dX10_when_154 : decode cX10_when 154 = .ok (.aload_n 0, 1) := by decide +kernel
theorem dX10_when_155 : decode cX10_when 155 = .ok (.getfield 43, 3) := by decide +kernel
theorem dX10_when_158 : decode cX10_when 158 = .ok (.iload 12, 2) := by decide +kernel
theorem dX10_when_160 : decode cX10_when 160 = .ok (.aload_n 0, 1) := by decide +kernel
theorem dX10_when_161 : decode cX10_when 161 = .ok (.iload 12, 2) := by decide +kernel
theorem dX10_when_163 : decode cX10_when 163 = .ok (.iload 11, 2) := by decide +kernel
theorem dX10_when_165 : decode cX10_when 165 = .ok (.iload 4, 2) := by decide +kernel
theorem dX10_when_167 : decode cX10_when 167 = .ok (.idiv, 1) := by decide +kernel
theorem dX10_when_168 : decode cX10_when 168 = .ok (.iconst 4, 1) := by decide +kernel
theorem dX10_when_169 : decode cX10_when 169 = .ok (.irem, 1) := by decide +kernel
theorem dX10_when_170 : decode cX10_when 170 = .ok (.invokevirtual 266, 3) := by decide +kernel
theorem dX10_when_173 : decode cX10_when 173 = .ok (.iastore, 1) := by decide +kernel
theorem dX10_when_174 : decode cX10_when 174 = .ok (.iinc 12 1, 3) := by decide +kernel
theorem dX10_when_177 : decode cX10_when 177 = .ok (.goto (-37), 3) := by decide +kernel
theorem dX10_when_180 : decode cX10_when 180 = .ok (.aload_n 0, 1) := by decide +kernel
theorem dX10_when_181 : decode cX10_when 181 = .ok (.iload_n 3, 1) := by decide +kernel
theorem dX10_when_182 : decode cX10_when 182 = .ok (.iconst 0, 1) := by decide +kernel
theorem dX10_when_183 : decode cX10_when 183 = .ok (.iload 11, 2) := by decide +kernel
theorem dX10_when_185 : decode cX10_when 185 = .ok (.iload 5, 2) := by decide +kernel
theorem dX10_when_187 : decode cX10_when 187 = .ok (.irem, 1) := by decide +kernel
theorem dX10_when_188 : decode cX10_when 188 = .ok (.iload 6, 2) := by decide +kernel
theorem dX10_when_190 : decode cX10_when 190 = .ok (.if_icmp .ge 7, 3) := by decide +kernel
theorem dX10_when_193 : decode cX10_when 193 = .ok (.iconst 1, 1) := by decide +kernel
theorem dX10_when_194 : decode cX10_when 194 = .ok (.goto 4, 3) := by decide +kernel
theorem dX10_when_197 : decode cX10_when 197 = .ok (.iconst 0, 1) := by decide +kernel
theorem dX10_when_198 : decode cX10_when 198 = .ok (.iload 7, 2) := by decide +kernel
theorem dX10_when_200 : decode cX10_when 200 = .ok (.invokevirtual 220, 3) := by decide +kernel
theorem dX10_when_203 : decode cX10_when 203 = .ok (.ifCond .eq 6, 3) := by decide +kernel
theorem dX10_when_206 : decode cX10_when 206 = .ok (.iload 10, 2) := by decide +kernel
theorem dX10_when_208 : decode cX10_when 208 = .ok (.ireturn, 1) := by decide +kernel
theorem dX10_when_209 : decode cX10_when 209 = .ok (.iinc 10 1, 3) := by decide +kernel
theorem dX10_when_212 : decode cX10_when 212 = .ok (.goto (-93), 3) := by decide +kernel
theorem dX10_when_215 : decode cX10_when 215 = .ok (.bipush (-9), 2) := by decide +kernel
theorem dX10_when_217 : decode cX10_when 217 = .ok (.ireturn, 1) := by decide +kernel
set_option maxRecDepth 20000 in
theorem ggX10_mark_X10_isFeet : GoodIn wsX10_mark wsX10_isFeet := goodIn_r _ [7, 8, 9, 6, 10] (by decide +kernel) (by decide +kernel)
set_option maxRecDepth 20000 in
theorem gX10_mark_X10_isFeet : GoodIn wsX10_mark (va_wsS RX10 99 yX10_isFeet wsX10_isFeet) := goodIn_app (goodIn_of _ (by decide +kernel)) ggX10_mark_X10_isFeet
set_option maxRecDepth 20000 in
theorem ggX10_mark_X10_within : GoodIn wsX10_mark wsX10_within := goodIn_r _ [10] (by decide +kernel) (by decide +kernel)
set_option maxRecDepth 20000 in
theorem gX10_mark_X10_within : GoodIn wsX10_mark (va_wsS RX10 81 yX10_within wsX10_within) := goodIn_app (goodIn_of _ (by decide +kernel)) ggX10_mark_X10_within
theorem dX10_mark_0 : decode cX10_mark 0 = .ok (.iload_n 1, 1) := by decide +kernel
theorem dX10_mark_1 : decode cX10_mark 1 = .ok (.invokestatic 99, 3) := by decide +kernel
theorem dX10_mark_4 : decode cX10_mark 4 = .ok (.ifCond .eq 12, 3) := by decide +kernel
theorem dX10_mark_7 : decode cX10_mark 7 = .ok (.iload_n 2, 1) := by decide +kernel
theorem dX10_mark_8 : decode cX10_mark 8 = .ok (.iconst 0, 1) := by decide +kernel
theorem dX10_mark_9 : decode cX10_mark 9 = .ok (.iconst 3, 1) := by decide +kernel
theorem dX10_mark_10 : decode cX10_mark 10 = .ok (.invokestatic 81, 3) := by decide +kernel
theorem dX10_mark_13 : decode cX10_mark 13 = .ok (.ifCond .ne 6, 3) := by decide +kernel
theorem dX10_mark_16 : decode cX10_mark 16 = .ok (.bipush (-2), 2) := by decide +kernel
theorem dX10_mark_18 : decode cX10_mark 18 = .ok (.ireturn, 1) := by decide +kernel
theorem dX10_mark_19 : decode cX10_mark 19 = .ok (.aload_n 0, 1) := by decide +kernel
theorem dX10_mark_20 : decode cX10_mark 20 = .ok (.getfield 269, 3) := by decide +kernel
theorem dX10_mark_23 : decode cX10_mark 23 = .ok (.bipush 10, 2) := by decide +kernel
theorem dX10_mark_25 : decode cX10_mark 25 = .ok (.if_icmp .ne 6, 3) := by decide +kernel
theorem dX10_mark_28 : decode cX10_mark 28 = .ok (.bipush (-4), 2) := by decide +kernel
theorem dX10_mark_30 : decode cX10_mark 30 = .ok (.ireturn, 1) := by decide +kernel
theorem dX10_mark_31 : decode cX10_mark 31 = .ok (.aload_n 0, 1) := by decide +kernel
theorem dX10_mark_32 : decode cX10_mark 32 = .ok (.getfield 58, 3) := by decide +kernel
theorem dX10_mark_35 : decode cX10_mark 35 = .ok (.aload_n 0, 1) := by decide +kernel
theorem dX10_mark_36 : decode cX10_mark 36 = .ok (.getfield 269, 3) := by decide +kernel
theorem dX10_mark_39 : decode cX10_mark 39 = .ok (.iload_n 1, 1) := by decide +kernel
theorem dX10_mark_40 : decode cX10_mark 40 = .ok (.iastore, 1) := by decide +kernel
theorem dX10_mark_41 : decode cX10_mark 41 = .ok (.aload_n 0, 1) := by decide +kernel
theorem dX10_mark_42 : decode cX10_mark 42 = .ok (.getfield 61, 3) := by decide +kernel
theorem dX10_mark_45 : decode cX10_mark 45 = .ok (.aload_n 0, 1) := by decide +kernel
theorem dX10_mark_46 : decode cX10_mark 46 = .ok (.getfield 269, 3) := by decide +kernel
theorem dX10_mark_49 : decode cX10_mark 49 = .ok (.iload_n 2, 1) := by decide +kernel
theorem dX10_mark_50 : decode cX10_mark 50 = .ok (.iastore, 1) := by decide +kernel
theorem dX10_mark_51 : decode cX10_mark 51 = .ok (.aload_n 0, 1) := by decide +kernel
theorem dX10_mark_52 : decode cX10_mark 52 = .ok (.dup, 1) := by decide +kernel
theorem dX10_mark_53 : decode cX10_mark 53 = .ok (.getfield 269, 3) := by decide +kernel
theorem dX10_mark_56 : decode cX10_mark 56 = .ok (.iconst 1, 1) := by decide +kernel
theorem dX10_mark_57 : decode cX10_mark 57 = .ok (.iadd, 1) := by decide +kernel
theorem dX10_mark_58 : decode cX10_mark 58 = .ok (.putfield 269, 3) := by decide +kernel
theorem dX10_mark_61 : decode cX10_mark 61 = .ok (.aload_n 0, 1) := by decide +kernel
theorem dX10_mark_62 : decode cX10_mark 62 = .ok (.getfield 269, 3) := by decide +kernel
theorem dX10_mark_65 : decode cX10_mark 65 = .ok (.iconst 1, 1) := by decide +kernel
theorem dX10_mark_66 : decode cX10_mark 66 = .ok (.isub, 1) := by decide +kernel
theorem dX10_mark_67 : decode cX10_mark 67 = .ok (.ireturn, 1) := by decide +kernel
set_option maxRecDepth 20000 in
theorem ggX10_back_X10_within : GoodIn wsX10_back wsX10_within := goodIn_r _ [5] (by decide +kernel) (by decide +kernel)
set_option maxRecDepth 20000 in
theorem gX10_back_X10_within : GoodIn wsX10_back (va_wsS RX10 81 yX10_within wsX10_within) := goodIn_app (goodIn_of _ (by decide +kernel)) ggX10_back_X10_within
theorem dX10_back_0 : decode cX10_back 0 = .ok (.iload_n 1, 1) := by decide +kernel
theorem dX10_back_1 : decode cX10_back 1 = .ok (.iconst 0, 1) := by decide +kernel
theorem dX10_back_2 : decode cX10_back 2 = .ok (.aload_n 0, 1) := by decide +kernel
theorem dX10_back_3 : decode cX10_back 3 = .ok (.getfield 269, 3) := by decide +kernel
theorem dX10_back_6 : decode cX10_back 6 = .ok (.invokestatic 81, 3) := by decide +kernel
theorem dX10_back_9 : decode cX10_back 9 = .ok (.ifCond .ne 6, 3) := by decide +kernel
theorem dX10_back_12 : decode cX10_back 12 = .ok (.bipush (-2), 2) := by decide +kernel
theorem dX10_back_14 : decode cX10_back 14 = .ok (.ireturn, 1) := by decide +kernel
theorem dX10_back_15 : decode cX10_back 15 = .ok (.aload_n 0, 1) := by decide +kernel
theorem dX10_back_16 : decode cX10_back 16 = .ok (.dup, 1) := by decide +kernel
theorem dX10_back_17 : decode cX10_back 17 = .ok (.getfield 269, 3) := by decide +kernel
theorem dX10_back_20 : decode cX10_back 20 = .ok (.iload_n 1, 1) := by decide +kernel
theorem dX10_back_21 : decode cX10_back 21 = .ok (.isub, 1) := by decide +kernel
theorem dX10_back_22 : decode cX10_back 22 = .ok (.putfield 269, 3) := by decide +kernel
theorem dX10_back_25 : decode cX10_back 25 = .ok (.aload_n 0, 1) := by decide +kernel
theorem dX10_back_26 : decode cX10_back 26 = .ok (.getfield 269, 3) := by decide +kernel
theorem dX10_back_29 : decode cX10_back 29 = .ok (.ireturn, 1) := by decide +kernel
set_option maxRecDepth 20000 in
theorem ggX10_cameBy_X10_round : GoodIn wsX10_cameBy wsX10_round := goodIn_r _ [5] (by decide +kernel) (by decide +kernel)
set_option maxRecDepth 20000 in
theorem gX10_cameBy_X10_round : GoodIn wsX10_cameBy (va_wsS RX10 105 yX10_round wsX10_round) := goodIn_app (goodIn_of _ (by decide +kernel)) ggX10_cameBy_X10_round
set_option maxRecDepth 20000 in
theorem ggX10_cameBy_X10_width : GoodIn wsX10_cameBy wsX10_width := goodIn_r _ [9, 10, 11, 18, 19, 20, 21, 22, 23, 24, 25, 26, 27, 28, 29, 30, 31, 32, 33, 34, 35, 36, 37, 38, 39, 40, 41, 42, 43, 44, 45, 46, 47, 48, 49, 50] (by decide +kernel) (by decide +kernel)
set_option maxRecDepth 20000 in
theorem gX10_cameBy_X10_width : GoodIn wsX10_cameBy (wsV RX10 92 RX10 yX10_width wsX10_width) := goodIn_app (goodIn_of _ (by decide +kernel)) ggX10_cameBy_X10_width
set_option maxRecDepth 20000 in
theorem ggX10_cameBy_X10_came : GoodIn wsX10_cameBy wsX10_came := goodIn_r _ [14, 15, 16, 4, 17] (by decide +kernel) (by decide +kernel)
set_option maxRecDepth 20000 in
theorem gX10_cameBy_X10_came : GoodIn wsX10_cameBy (va_wsS RX10 117 yX10_came wsX10_came) := goodIn_app (goodIn_of _ (by decide +kernel)) ggX10_cameBy_X10_came
theorem dX10_cameBy_0 : decode cX10_cameBy 0 = .ok (.iload_n 2, 1) := by decide +kernel
theorem dX10_cameBy_1 : decode cX10_cameBy 1 = .ok (.bipush 24, 2) := by decide +kernel
theorem dX10_cameBy_3 : decode cX10_cameBy 3 = .ok (.idiv, 1) := by decide +kernel
theorem dX10_cameBy_4 : decode cX10_cameBy 4 = .ok (.iload_n 2, 1) := by decide +kernel
theorem dX10_cameBy_5 : decode cX10_cameBy 5 = .ok (.bipush 24, 2) := by decide +kernel
theorem dX10_cameBy_7 : decode cX10_cameBy 7 = .ok (.irem, 1) := by decide +kernel
theorem dX10_cameBy_8 : decode cX10_cameBy 8 = .ok (.iconst 1, 1) := by decide +kernel
theorem dX10_cameBy_9 : decode cX10_cameBy 9 = .ok (.iadd, 1) := by decide +kernel
theorem dX10_cameBy_10 : decode cX10_cameBy 10 = .ok (.iload_n 3, 1) := by decide +kernel
theorem dX10_cameBy_11 : decode cX10_cameBy 11 = .ok (.aload_n 0, 1) := by decide +kernel
theorem dX10_cameBy_12 : decode cX10_cameBy 12 = .ok (.getfield 22, 3) := by decide +kernel
theorem dX10_cameBy_15 : decode cX10_cameBy 15 = .ok (.iload_n 1, 1) := by decide +kernel
theorem dX10_cameBy_16 : decode cX10_cameBy 16 = .ok (.iaload, 1) := by decide +kernel
theorem dX10_cameBy_17 : decode cX10_cameBy 17 = .ok (.invokestatic 105, 3) := by decide +kernel
theorem dX10_cameBy_20 : decode cX10_cameBy 20 = .ok (.aload_n 0, 1) := by decide +kernel
theorem dX10_cameBy_21 : decode cX10_cameBy 21 = .ok (.iload_n 1, 1) := by decide +kernel
theorem dX10_cameBy_22 : decode cX10_cameBy 22 = .ok (.invokevirtual 92, 3) := by decide +kernel
theorem dX10_cameBy_25 : decode cX10_cameBy 25 = .ok (.aload_n 0, 1) := by decide +kernel
theorem dX10_cameBy_26 : decode cX10_cameBy 26 = .ok (.getfield 22, 3) := by decide +kernel
theorem dX10_cameBy_29 : decode cX10_cameBy 29 = .ok (.iload_n 1, 1) := by decide +kernel
theorem dX10_cameBy_30 : decode cX10_cameBy 30 = .ok (.iaload, 1) := by decide +kernel
theorem dX10_cameBy_31 : decode cX10_cameBy 31 = .ok (.invokestatic 117, 3) := by decide +kernel
theorem dX10_cameBy_34 : decode cX10_cameBy 34 = .ok (.ireturn, 1) := by decide +kernel
set_option maxRecDepth 20000 in
theorem ggX10_layFitting_X10_cameBy : GoodIn wsX10_layFitting wsX10_cameBy := goodIn_r _ [9, 10, 11, 12, 8, 13, 14, 15, 16, 17, 18, 19, 20, 21, 22, 23, 24, 25, 26, 27, 28, 29, 30, 31, 32, 33, 34, 35, 36, 37, 38, 39, 40, 41, 42, 43, 44, 45, 46, 47, 48, 49, 50, 51, 52, 53, 54, 55, 56, 57, 58] (by decide +kernel) (by decide +kernel)
set_option maxRecDepth 20000 in
theorem gX10_layFitting_X10_cameBy : GoodIn wsX10_layFitting (wsV RX10 272 RX10 yX10_cameBy wsX10_cameBy) := goodIn_app (goodIn_of _ (by decide +kernel)) ggX10_layFitting_X10_cameBy
theorem dX10_layFitting_0 : decode cX10_layFitting 0 = .ok (.iconst 0, 1) := by decide +kernel
theorem dX10_layFitting_1 : decode cX10_layFitting 1 = .ok (.istore_n 2, 1) := by decide +kernel
theorem dX10_layFitting_2 : decode cX10_layFitting 2 = .ok (.iconst 0, 1) := by decide +kernel
theorem dX10_layFitting_3 : decode cX10_layFitting 3 = .ok (.istore_n 3, 1) := by decide +kernel
theorem dX10_layFitting_4 : decode cX10_layFitting 4 = .ok (.iload_n 3, 1) := by decide +kernel
theorem dX10_layFitting_5 : decode cX10_layFitting 5 = .ok (.sipush 576, 3) := by decide +kernel
theorem dX10_layFitting_8 : decode cX10_layFitting 8 = .ok (.if_icmp .ge 86, 3) := by decide +kernel
theorem dX10_layFitting_11 : decode cX10_layFitting 11 = .ok (.iconst 1, 1) := by decide +kernel
theorem dX10_layFitting_12 : decode cX10_layFitting 12 = .ok (.istore 4, 2) := by decide +kernel
theorem dX10_layFitting_14 : decode cX10_layFitting 14 = .ok (.iconst 0, 1) := by decide +kernel
theorem dX10_layFitting_15 : decode cX10_layFitting 15 = .ok (.istore 5, 2) := by decide +kernel
theorem dX10_layFitting_17 : decode cX10_layFitting 17 = .ok (.iload 5, 2) := by decide +kernel
theorem dX10_layFitting_19 : decode cX10_layFitting 19 = .ok (.aload_n 0, 1) := by decide +kernel
theorem dX10_layFitting_20 : decode cX10_layFitting 20 = .ok (.getfield 269, 3) := by decide +kernel
theorem dX10_layFitting_23 : decode cX10_layFitting 23 = .ok (.if_icmp .ge 44, 3) := by decide +kernel
theorem dX10_layFitting_26 : decode cX10_layFitting 26 = .ok (.iload 4, 2) := by decide +kernel
theorem dX10_layFitting_28 : decode cX10_layFitting 28 = .ok (.ifCond .eq 39, 3) := by decide +kernel
theorem dX10_layFitting_31 : decode cX10_layFitting 31 = .ok (.aload_n 0, 1) := by decide +kernel
theorem dX10_layFitting_32 : decode cX10_layFitting 32 = .ok (.iload_n 1, 1) := by decide +kernel
theorem dX10_layFitting_33 : decode cX10_layFitting 33 = .ok (.iload_n 3, 1) := by decide +kernel
theorem dX10_layFitting_34 : decode cX10_layFitting 34 = .ok (.aload_n 0, 1) := by decide +kernel
theorem dX10_layFitting_35 : decode cX10_layFitting 35 = .ok (.getfield 58, 3) := by decide +kernel
theorem dX10_layFitting_38 : decode cX10_layFitting 38 = .ok (.iload 5, 2) := by decide +kernel
theorem dX10_layFitting_40 : decode cX10_layFitting 40 = .ok (.iaload, 1) := by decide +kernel
theorem dX10_layFitting_41 : decode cX10_layFitting 41 = .ok (.invokevirtual 272, 3) := by decide +kernel
theorem dX10_layFitting_44 : decode cX10_layFitting 44 = .ok (.aload_n 0, 1) := by decide +kernel
theorem dX10_layFitting_45 : decode cX10_layFitting 45 = .ok (.getfield 61, 3) := by decide +kernel
theorem dX10_layFitting_48 : decode cX10_layFitting 48 = .ok (.iload 5, 2) := by decide +kernel
theorem dX10_layFitting_50 : decode cX10_layFitting 50 = .ok (.iaload, 1) := by decide +kernel
theorem dX10_layFitting_51 : decode cX10_layFitting 51 = .ok (.if_icmp .ne 7, 3) := by decide +kernel
theorem dX10_layFitting_54 : decode cX10_layFitting 54 = .ok (.iconst 1, 1) := by decide +kernel
theorem dX10_layFitting_55 : decode cX10_layFitting 55 = .ok (.goto 4, 3) := by decide +kernel
theorem dX10_layFitting_58 : decode cX10_layFitting 58 = .ok (.iconst 0, 1) := by decide +kernel
theorem dX10_layFitting_59 : decode cX10_layFitting 59 = .ok (.istore 4, 2) := by decide +kernel
theorem dX10_layFitting_61 : decode cX10_layFitting 61 = .ok (.iinc 5 1, 3) := by decide +kernel
theorem dX10_layFitting_64 : decode cX10_layFitting 64 = .ok (.goto (-47), 3) := by decide +kernel
theorem dX10_layFitting_67 : decode cX10_layFitting 67 = .ok (.aload_n 0, 1) := by decide +kernel
theorem dX10_layFitting_68 : decode cX10_layFitting 68 = .ok (.getfield 64, 3) := by decide +kernel
theorem dX10_layFitting_71 : decode cX10_layFitting 71 = .ok (.iload_n 3, 1) := by decide +kernel
theorem dX10_layFitting_72 : decode cX10_layFitting 72 = .ok (.iload 4, 2) := by decide +kernel
theorem dX10_layFitting_74 : decode cX10_layFitting 74 = .ok (.bastore, 1) := by decide +kernel
theorem dX10_layFitting_75 : decode cX10_layFitting 75 = .ok (.iload_n 2, 1) := by decide +kernel
theorem dX10_layFitting_76 : decode cX10_layFitting 76 = .ok (.iload 4, 2) := by decide +kernel
theorem dX10_layFitting_78 : decode cX10_layFitting 78 = .ok (.ifCond .eq 7, 3) := by decide +kernel
theorem dX10_layFitting_81 : decode cX10_layFitting 81 = .ok (.iconst 1, 1) := by decide +kernel
theorem dX10_layFitting_82 : decode cX10_layFitting 82 = .ok (.goto 4, 3) := by decide +kernel
theorem dX10_layFitting_85 : decode cX10_layFitting 85 = .ok (.iconst 0, 1) := by decide +kernel
theorem dX10_layFitting_86 : decode cX10_layFitting 86 = .ok (.iadd, 1) := by decide +kernel
theorem dX10_layFitting_87 : decode cX10_layFitting 87 = .ok (.istore_n 2, 1) := by decide +kernel
theorem dX10_layFitting_88 : decode cX10_layFitting 88 = .ok (.iinc 3 1, 3) := by decide +kernel
theorem dX10_layFitting_91 : decode cX10_layFitting 91 = .ok (.goto (-87), 3) := by decide +kernel
theorem dX10_layFitting_94 : decode cX10_layFitting 94 = .ok (.iload_n 2, 1) := by decide +kernel
theorem dX10_layFitting_95 : decode cX10_layFitting 95 = .ok (.ireturn, 1) := by decide +kernel
set_option maxRecDepth 20000 in
theorem ggX10_guessed_X10_isKnife : GoodIn wsX10_guessed wsX10_isKnife := goodIn_r _ [6, 7, 38, 39, 40, 41, 42, 43, 44, 45, 46, 47, 48, 49, 50, 51, 52, 53, 54, 55, 56, 57, 58, 59, 60, 61, 62, 63, 64, 65, 66, 67, 68, 69, 70] (by decide +kernel) (by decide +kernel)
set_option maxRecDepth 20000 in
theorem gX10_guessed_X10_isKnife : GoodIn wsX10_guessed (wsV RX10 88 RX10 yX10_isKnife wsX10_isKnife) := goodIn_app (goodIn_of _ (by decide +kernel)) ggX10_guessed_X10_isKnife
set_option maxRecDepth 20000 in
theorem ggX10_guessed_X10_within : GoodIn wsX10_guessed wsX10_within := goodIn_r _ [10] (by decide +kernel) (by decide +kernel)
set_option maxRecDepth 20000 in
theorem gX10_guessed_X10_within : GoodIn wsX10_guessed (va_wsS RX10 81 yX10_within wsX10_within) := goodIn_app (goodIn_of _ (by decide +kernel)) ggX10_guessed_X10_within
set_option maxRecDepth 20000 in
theorem ggX10_guessed_X10_layFitting : GoodIn wsX10_guessed wsX10_layFitting := goodIn_r _ [14, 15, 16, 17, 1, 18, 19, 20, 5, 21, 22, 23, 24, 25, 26, 27, 28, 29, 30, 31, 32, 33, 34, 35, 36, 37, 38, 39, 40, 41, 42, 43, 44, 45, 46, 47, 48, 49, 50, 51, 52, 53, 54, 55, 56, 57, 58, 59, 60, 61, 62, 63, 64, 65, 66, 67, 68, 69, 70] (by decide +kernel) (by decide +kernel)
set_option maxRecDepth 20000 in
theorem gX10_guessed_X10_layFitting : GoodIn wsX10_guessed (wsV RX10 275 RX10 yX10_layFitting wsX10_layFitting) := goodIn_app (goodIn_of _ (by decide +kernel)) ggX10_guessed_X10_layFitting
theorem dX10_guessed_0 : decode cX10_guessed 0 = .ok (.aload_n 0, 1) := by decide +kernel
theorem dX10_guessed_1 : decode cX10_guessed 1 = .ok (.iload_n 1, 1) := by decide +kernel
theorem dX10_guessed_2 : decode cX10_guessed 2 = .ok (.invokevirtual 88, 3) := by decide +kernel
theorem dX10_guessed_5 : decode cX10_guessed 5 = .ok (.ifCond .ne 5, 3) := by decide +kernel
theorem dX10_guessed_8 : decode cX10_guessed 8 = .ok (.iconst (-1), 1) := by decide +kernel
theorem dX10_guessed_9 : decode cX10_guessed 9 = .ok (.ireturn, 1) := by decide +kernel
theorem dX10_guessed_10 : decode cX10_guessed 10 = .ok (.iload_n 2, 1) := by decide +kernel
theorem dX10_guessed_11 : decode cX10_guessed 11 = .ok (.iconst 0, 1) := by decide +kernel
theorem dX10_guessed_12 : decode cX10_guessed 12 = .ok (.iconst 1, 1) := by decide +kernel
theorem dX10_guessed_13 : decode cX10_guessed 13 = .ok (.invokestatic 81, 3) := by decide +kernel
theorem dX10_guessed_16 : decode cX10_guessed 16 = .ok (.ifCond .ne 6, 3) := by decide +kernel
theorem dX10_guessed_19 : decode cX10_guessed 19 = .ok (.bipush (-2), 2) := by decide +kernel
theorem dX10_guessed_21 : decode cX10_guessed 21 = .ok (.ireturn, 1) := by decide +kernel
theorem dX10_guessed_22 : decode cX10_guessed 22 = .ok (.aload_n 0, 1) := by decide +kernel
theorem dX10_guessed_23 : decode cX10_guessed 23 = .ok (.iload_n 1, 1) := by decide +kernel
theorem dX10_guessed_24 : decode cX10_guessed 24 = .ok (.invokevirtual 275, 3) := by decide +kernel
theorem dX10_guessed_27 : decode cX10_guessed 27 = .ok (.istore_n 3, 1) := by decide +kernel
theorem dX10_guessed_28 : decode cX10_guessed 28 = .ok (.iload_n 2, 1) := by decide +kernel
theorem dX10_guessed_29 : decode cX10_guessed 29 = .ok (.ifCond .ne 5, 3) := by decide +kernel
theorem dX10_guessed_32 : decode cX10_guessed 32 = .ok (.iload_n 3, 1) := by decide +kernel
theorem dX10_guessed_33 : decode cX10_guessed 33 = .ok (.ireturn, 1) := by decide +kernel
theorem dX10_guessed_34 : decode cX10_guessed 34 = .ok (.iconst 0, 1) := by decide +kernel
theorem dX10_guessed_35 : decode cX10_guessed 35 = .ok (.istore 4, 2) := by decide +kernel
theorem dX10_guessed_37 : decode cX10_guessed 37 = .ok (.iload 4, 2) := by decide +kernel
theorem dX10_guessed_39 : decode cX10_guessed 39 = .ok (.sipush 576, 3) := by decide +kernel
theorem dX10_guessed_42 : decode cX10_guessed 42 = .ok (.if_icmp .ge 36, 3) := by decide +kernel
theorem dX10_guessed_45 : decode cX10_guessed 45 = .ok (.aload_n 0, 1) := by decide +kernel
theorem dX10_guessed_46 : decode cX10_guessed 46 = .ok (.getfield 64, 3) := by decide +kernel
theorem dX10_guessed_49 : decode cX10_guessed 49 = .ok (.iload 4, 2) := by decide +kernel
theorem dX10_guessed_51 : decode cX10_guessed 51 = .ok (.baload, 1) := by decide +kernel
theorem dX10_guessed_52 : decode cX10_guessed 52 = .ok (.ifCond .eq 20, 3) := by decide +kernel
theorem dX10_guessed_55 : decode cX10_guessed 55 = .ok (.bipush 100, 2) := by decide +kernel
theorem dX10_guessed_57 : decode cX10_guessed 57 = .ok (.iload 4, 2) := by decide +kernel
theorem dX10_guessed_59 : decode cX10_guessed 59 = .ok (.bipush 24, 2) := by decide +kernel
theorem dX10_guessed_61 : decode cX10_guessed 61 = .ok (.idiv, 1) := by decide +kernel
theorem dX10_guessed_62 : decode cX10_guessed 62 = .ok (.imul, 1) := by decide +kernel
theorem dX10_guessed_63 : decode cX10_guessed 63 = .ok (.iload 4, 2) := by decide +kernel
theorem dX10_guessed_65 : decode cX10_guessed 65 = .ok (.bipush 24, 2) := by decide +kernel
theorem dX10_guessed_67 : decode cX10_guessed 67 = .ok (.irem, 1) := by decide +kernel
theorem dX10_guessed_68 : decode cX10_guessed 68 = .ok (.iadd, 1) := by decide +kernel
theorem dX10_guessed_69 : decode cX10_guessed 69 = .ok (.iconst 1, 1) := by decide +kernel
theorem dX10_guessed_70 : decode cX10_guessed 70 = .ok (.iadd, 1) := by decide +kernel
theorem dX10_guessed_71 : decode cX10_guessed 71 = .ok (.ireturn, 1) := by decide +kernel
theorem dX10_guessed_72 : decode cX10_guessed 72 = .ok (.iinc 4 1, 3) := by decide +kernel
theorem dX10_guessed_75 : decode cX10_guessed 75 = .ok (.goto (-38), 3) := by decide +kernel
theorem dX10_guessed_78 : decode cX10_guessed 78 = .ok (.bipush (-9), 2) := by decide +kernel
theorem dX10_guessed_80 : decode cX10_guessed 80 = .ok (.ireturn, 1) := by decide +kernel
set_option maxRecDepth 20000 in
theorem ggX10_worst_X10_cameBy : GoodIn wsX10_worst wsX10_cameBy := goodIn_r _ [7, 8, 9, 10, 6, 11, 12, 13, 14, 15, 16, 17, 18, 19, 20, 21, 22, 23, 24, 25, 26, 27, 28, 29, 30, 31, 32, 33, 34, 35, 36, 37, 38, 39, 40, 41, 42, 43, 44, 45, 46, 47, 48, 49, 50, 51, 52, 53, 54, 55, 56] (by decide +kernel) (by decide +kernel)
set_option maxRecDepth 20000 in
theorem gX10_worst_X10_cameBy : GoodIn wsX10_worst (wsV RX10 272 RX10 yX10_cameBy wsX10_cameBy) := goodIn_app (goodIn_of _ (by decide +kernel)) ggX10_worst_X10_cameBy
theorem dX10_worst_0 : decode cX10_worst 0 = .ok (.iconst 0, 1) := by decide +kernel
theorem dX10_worst_1 : decode cX10_worst 1 = .ok (.istore_n 3, 1) := by decide +kernel
theorem dX10_worst_2 : decode cX10_worst 2 = .ok (.iload_n 3, 1) := by decide +kernel
theorem dX10_worst_3 : decode cX10_worst 3 = .ok (.iconst 4, 1) := by decide +kernel
theorem dX10_worst_4 : decode cX10_worst 4 = .ok (.if_icmp .ge 16, 3) := by decide +kernel
theorem dX10_worst_7 : decode cX10_worst 7 = .ok (.aload_n 0, 1) := by decide +kernel
theorem dX10_worst_8 : decode cX10_worst 8 = .ok (.getfield 68, 3) := by decide +kernel
theorem dX10_worst_11 : decode cX10_worst 11 = .ok (.iload_n 3, 1) := by decide +kernel
theorem dX10_worst_12 : decode cX10_worst 12 = .ok (.iconst 0, 1) := by decide +kernel
theorem dX10_worst_13 : decode cX10_worst 13 = .ok (.iastore, 1) := by decide +kernel
theorem dX10_worst_14 : decode cX10_worst 14 = .ok (.iinc 3 1, 3) := by decide +kernel
theorem dX10_worst_17 : decode cX10_worst 17 = .ok (.goto (-15), 3) := by decide +kernel
theorem dX10_worst_20 : decode cX10_worst 20 = .ok (.iconst 0, 1) := by decide +kernel
theorem dX10_worst_21 : decode cX10_worst 21 = .ok (.istore_n 3, 1) := by decide +kernel
theorem dX10_worst_22 : decode cX10_worst 22 = .ok (.iconst 0, 1) := by decide +kernel
theorem dX10_worst_23 : decode cX10_worst 23 = .ok (.istore 4, 2) := by decide +kernel
theorem dX10_worst_25 : decode cX10_worst 25 = .ok (.iload 4, 2) := by decide +kernel
theorem dX10_worst_27 : decode cX10_worst 27 = .ok (.sipush 576, 3) := by decide +kernel
theorem dX10_worst_30 : decode cX10_worst 30 = .ok (.if_icmp .ge 63, 3) := by decide +kernel
theorem dX10_worst_33 : decode cX10_worst 33 = .ok (.aload_n 0, 1) := by decide +kernel
theorem dX10_worst_34 : decode cX10_worst 34 = .ok (.getfield 64, 3) := by decide +kernel
theorem dX10_worst_37 : decode cX10_worst 37 = .ok (.iload 4, 2) := by decide +kernel
theorem dX10_worst_39 : decode cX10_worst 39 = .ok (.baload, 1) := by decide +kernel
theorem dX10_worst_40 : decode cX10_worst 40 = .ok (.ifCond .eq 47, 3) := by decide +kernel
theorem dX10_worst_43 : decode cX10_worst 43 = .ok (.aload_n 0, 1) := by decide +kernel
theorem dX10_worst_44 : decode cX10_worst 44 = .ok (.iload_n 1, 1) := by decide +kernel
theorem dX10_worst_45 : decode cX10_worst 45 = .ok (.iload 4, 2) := by decide +kernel
theorem dX10_worst_47 : decode cX10_worst 47 = .ok (.iload_n 2, 1) := by decide +kernel
theorem dX10_worst_48 : decode cX10_worst 48 = .ok (.invokevirtual 272, 3) := by decide +kernel
theorem dX10_worst_51 : decode cX10_worst 51 = .ok (.istore 5, 2) := by decide +kernel
theorem dX10_worst_53 : decode cX10_worst 53 = .ok (.aload_n 0, 1) := by decide +kernel
theorem dX10_worst_54 : decode cX10_worst 54 = .ok (.getfield 68, 3) := by decide +kernel
theorem dX10_worst_57 : decode cX10_worst 57 = .ok (.iload 5, 2) := by decide +kernel
theorem dX10_worst_59 : decode cX10_worst 59 = .ok (.dup2, 1) := by decide +kernel
theorem dX10_worst_60 : decode cX10_worst 60 = .ok (.iaload, 1) := by decide +kernel
theorem dX10_worst_61 : decode cX10_worst 61 = .ok (.iconst 1, 1) := by decide +kernel
theorem dX10_worst_62 : decode cX10_worst 62 = .ok (.iadd, 1) := by decide +kernel
theorem dX10_worst_63 : decode cX10_worst 63 = .ok (.iastore, 1) := by decide +kernel
theorem dX10_worst_64 : decode cX10_worst 64 = .ok (.aload_n 0, 1) := by decide +kernel
theorem dX10_worst_65 : decode cX10_worst 65 = .ok (.getfield 68, 3) := by decide +kernel
theorem dX10_worst_68 : decode cX10_worst 68 = .ok (.iload 5, 2) := by decide +kernel
theorem dX10_worst_70 : decode cX10_worst 70 = .ok (.iaload, 1) := by decide +kernel
theorem dX10_worst_71 : decode cX10_worst 71 = .ok (.iload_n 3, 1) := by decide +kernel
theorem dX10_worst_72 : decode cX10_worst 72 = .ok (.if_icmp .le 13, 3) := by decide +kernel
theorem dX10_worst_75 : decode cX10_worst 75 = .ok (.aload_n 0, 1) := by decide +kernel
theorem dX10_worst_76 : decode cX10_worst 76 = .ok (.getfield 68, 3) := by decide +kernel
theorem dX10_worst_79 : decode cX10_worst 79 = .ok (.iload 5, 2) := by decide +kernel
theorem dX10_worst_81 : decode cX10_worst 81 = .ok (.iaload, 1) := by decide +kernel
theorem dX10_worst_82 : decode cX10_worst 82 = .ok (.goto 4, 3) := by decide +kernel
theorem dX10_worst_85 : decode cX10_worst 85 = .ok (.iload_n 3, 1) := by decide +kernel
theorem dX10_worst_86 : decode cX10_worst 86 = .ok (.istore_n 3, 1) := by decide +kernel
theorem dX10_worst_87 : decode cX10_worst 87 = .ok (.iinc 4 1, 3) := by decide +kernel
theorem dX10_worst_90 : decode cX10_worst 90 = .ok (.goto (-65), 3) := by decide +kernel
theorem dX10_worst_93 : decode cX10_worst 93 = .ok (.iload_n 3, 1) := by decide +kernel
theorem dX10_worst_94 : decode cX10_worst 94 = .ok (.ireturn, 1) := by decide +kernel
set_option maxRecDepth 20000 in
theorem ggX10_tells_X10_isKnife : GoodIn wsX10_tells wsX10_isKnife := goodIn_r _ [5, 6, 43, 44, 45, 46, 47, 48, 49, 50, 51, 52, 53, 54, 55, 56, 57, 58, 59, 60, 61, 62, 63, 64, 65, 66, 67, 68, 69, 70, 71, 72, 73, 74, 75] (by decide +kernel) (by decide +kernel)
set_option maxRecDepth 20000 in
theorem gX10_tells_X10_isKnife : GoodIn wsX10_tells (wsV RX10 88 RX10 yX10_isKnife wsX10_isKnife) := goodIn_app (goodIn_of _ (by decide +kernel)) ggX10_tells_X10_isKnife
set_option maxRecDepth 20000 in
theorem ggX10_tells_X10_within : GoodIn wsX10_tells wsX10_within := goodIn_r _ [9] (by decide +kernel) (by decide +kernel)
set_option maxRecDepth 20000 in
theorem gX10_tells_X10_within : GoodIn wsX10_tells (va_wsS RX10 81 yX10_within wsX10_within) := goodIn_app (goodIn_of _ (by decide +kernel)) ggX10_tells_X10_within
set_option maxRecDepth 20000 in
theorem ggX10_tells_X10_layFitting : GoodIn wsX10_tells wsX10_layFitting := goodIn_r _ [13, 14, 15, 16, 17, 18, 19, 20, 4, 21, 22, 23, 24, 25, 26, 27, 28, 29, 30, 31, 32, 33, 34, 35, 36, 37, 43, 44, 45, 46, 47, 48, 49, 50, 51, 52, 53, 54, 55, 56, 57, 58, 59, 60, 61, 62, 63, 64, 65, 66, 67, 68, 69, 70, 71, 72, 73, 74, 75] (by decide +kernel) (by decide +kernel)
set_option maxRecDepth 20000 in
theorem gX10_tells_X10_layFitting : GoodIn wsX10_tells (wsV RX10 275 RX10 yX10_layFitting wsX10_layFitting) := goodIn_app (goodIn_of _ (by decide +kernel)) ggX10_tells_X10_layFitting
set_option maxRecDepth 20000 in
theorem ggX10_tells_X10_worst : GoodIn wsX10_tells wsX10_worst := goodIn_r _ [41, 42, 17, 18, 19, 20, 4, 21, 22, 23, 24, 25, 26, 27, 28, 29, 30, 31, 32, 33, 34, 35, 36, 37, 43, 44, 45, 46, 47, 48, 49, 50, 51, 52, 53, 54, 55, 56, 57, 58, 59, 60, 61, 62, 63, 64, 65, 66, 67, 68, 69, 70, 71, 72, 73, 74, 75] (by decide +kernel) (by decide +kernel)
set_option maxRecDepth 20000 in
theorem gX10_tells_X10_worst : GoodIn wsX10_tells (wsV RX10 278 RX10 yX10_worst wsX10_worst) := goodIn_app (goodIn_of _ (by decide +kernel)) ggX10_tells_X10_worst
theorem dX10_tells_0 : decode cX10_tells 0 = .ok (.aload_n 0, 1) := by decide +kernel
theorem dX10_tells_1 : decode cX10_tells 1 = .ok (.iload_n 1, 1) := by decide +kernel
theorem dX10_tells_2 : decode cX10_tells 2 = .ok (.invokevirtual 88, 3) := by decide +kernel
theorem dX10_tells_5 : decode cX10_tells 5 = .ok (.ifCond .ne 5, 3) := by decide +kernel
theorem dX10_tells_8 : decode cX10_tells 8 = .ok (.iconst (-1), 1) := by decide +kernel
theorem dX10_tells_9 : decode cX10_tells 9 = .ok (.ireturn, 1) := by decide +kernel
theorem dX10_tells_10 : decode cX10_tells 10 = .ok (.iload_n 2, 1) := by decide +kernel
theorem dX10_tells_11 : decode cX10_tells 11 = .ok (.iconst 0, 1) := by decide +kernel
theorem dX10_tells_12 : decode cX10_tells 12 = .ok (.iconst 1, 1) := by decide +kernel
theorem dX10_tells_13 : decode cX10_tells 13 = .ok (.invokestatic 81, 3) := by decide +kernel
theorem dX10_tells_16 : decode cX10_tells 16 = .ok (.ifCond .ne 6, 3) := by decide +kernel
theorem dX10_tells_19 : decode cX10_tells 19 = .ok (.bipush (-2), 2) := by decide +kernel
theorem dX10_tells_21 : decode cX10_tells 21 = .ok (.ireturn, 1) := by decide +kernel
theorem dX10_tells_22 : decode cX10_tells 22 = .ok (.aload_n 0, 1) := by decide +kernel
theorem dX10_tells_23 : decode cX10_tells 23 = .ok (.iload_n 1, 1) := by decide +kernel
theorem dX10_tells_24 : decode cX10_tells 24 = .ok (.invokevirtual 275, 3) := by decide +kernel
theorem dX10_tells_27 : decode cX10_tells 27 = .ok (.ifCond .ne 6, 3) := by decide +kernel
theorem dX10_tells_30 : decode cX10_tells 30 = .ok (.bipush (-9), 2) := by decide +kernel
theorem dX10_tells_32 : decode cX10_tells 32 = .ok (.ireturn, 1) := by decide +kernel
theorem dX10_tells_33 : decode cX10_tells 33 = .ok (.iconst 1, 1) := by decide +kernel
theorem dX10_tells_34 : decode cX10_tells 34 = .ok (.istore_n 3, 1) := by decide +kernel
theorem dX10_tells_35 : decode cX10_tells 35 = .ok (.aload_n 0, 1) := by decide +kernel
theorem dX10_tells_36 : decode cX10_tells 36 = .ok (.iload_n 1, 1) := by decide +kernel
theorem dX10_tells_37 : decode cX10_tells 37 = .ok (.iconst 1, 1) := by decide +kernel
theorem dX10_tells_38 : decode cX10_tells 38 = .ok (.invokevirtual 278, 3) := by decide +kernel
theorem dX10_tells_41 : decode cX10_tells 41 = .ok (.istore 4, 2) := by decide +kernel
theorem dX10_tells_43 : decode cX10_tells 43 = .ok (.iconst 2, 1) := by decide +kernel
theorem dX10_tells_44 : decode cX10_tells 44 = .ok (.istore 5, 2) := by decide +kernel
theorem dX10_tells_46 : decode cX10_tells 46 = .ok (.iload 5, 2) := by decide +kernel
theorem dX10_tells_48 : decode cX10_tells 48 = .ok (.bipush 40, 2) := by decide +kernel
theorem dX10_tells_50 : decode cX10_tells 50 = .ok (.if_icmp .gt 32, 3) := by decide +kernel
theorem dX10_tells_53 : decode cX10_tells 53 = .ok (.aload_n 0, 1) := by decide +kernel
theorem dX10_tells_54 : decode cX10_tells 54 = .ok (.iload_n 1, 1) := by decide +kernel
theorem dX10_tells_55 : decode cX10_tells 55 = .ok (.iload 5, 2) := by decide +kernel
theorem dX10_tells_57 : decode cX10_tells 57 = .ok (.invokevirtual 278, 3) := by decide +kernel
theorem dX10_tells_60 : decode cX10_tells 60 = .ok (.istore 6, 2) := by decide +kernel
theorem dX10_tells_62 : decode cX10_tells 62 = .ok (.iload 6, 2) := by decide +kernel
theorem dX10_tells_64 : decode cX10_tells 64 = .ok (.iload 4, 2) := by decide +kernel
theorem dX10_tells_66 : decode cX10_tells 66 = .ok (.if_icmp .ge 10, 3) := by decide +kernel
theorem dX10_tells_69 : decode cX10_tells 69 = .ok (.iload 6, 2) := by decide +kernel
theorem dX10_tells_71 : decode cX10_tells 71 = .ok (.istore 4, 2) := by decide +kernel
theorem dX10_tells_73 : decode cX10_tells 73 = .ok (.iload 5, 2) := by decide +kernel
theorem dX10_tells_75 : decode cX10_tells 75 = .ok (.istore_n 3, 1) := by decide +kernel
theorem dX10_tells_76 : decode cX10_tells 76 = .ok (.iinc 5 1, 3) := by decide +kernel
theorem dX10_tells_79 : decode cX10_tells 79 = .ok (.goto (-33), 3) := by decide +kernel
theorem dX10_tells_82 : decode cX10_tells 82 = .ok (.iload_n 2, 1) := by decide +kernel
theorem dX10_tells_83 : decode cX10_tells 83 = .ok (.ifCond .ne 7, 3) := by decide +kernel
theorem dX10_tells_86 : decode cX10_tells 86 = .ok (.iload_n 3, 1) := by decide +kernel
theorem dX10_tells_87 : decode cX10_tells 87 = .ok (.goto 5, 3) := by decide +kernel
theorem dX10_tells_90 : decode cX10_tells 90 = .ok (.iload 4, 2) := by decide +kernel
theorem dX10_tells_92 : decode cX10_tells 92 = .ok (.ireturn, 1) := by decide +kernel
set_option maxRecDepth 20000 in
theorem ggX10_isChalk_X10_within : GoodIn wsX10_isChalk wsX10_within := goodIn_r _ [5] (by decide +kernel) (by decide +kernel)
set_option maxRecDepth 20000 in
theorem gX10_isChalk_X10_within : GoodIn wsX10_isChalk (va_wsS RX10 81 yX10_within wsX10_within) := goodIn_app (goodIn_of _ (by decide +kernel)) ggX10_isChalk_X10_within
theorem dX10_isChalk_0 : decode cX10_isChalk 0 = .ok (.iconst 0, 1) := by decide +kernel
theorem dX10_isChalk_1 : decode cX10_isChalk 1 = .ok (.istore_n 3, 1) := by decide +kernel
theorem dX10_isChalk_2 : decode cX10_isChalk 2 = .ok (.iload_n 3, 1) := by decide +kernel
theorem dX10_isChalk_3 : decode cX10_isChalk 3 = .ok (.iconst 2, 1) := by decide +kernel
theorem dX10_isChalk_4 : decode cX10_isChalk 4 = .ok (.iload_n 2, 1) := by decide +kernel
theorem dX10_isChalk_5 : decode cX10_isChalk 5 = .ok (.imul, 1) := by decide +kernel
theorem dX10_isChalk_6 : decode cX10_isChalk 6 = .ok (.if_icmp .ge 29, 3) := by decide +kernel
theorem dX10_isChalk_9 : decode cX10_isChalk 9 = .ok (.aload_n 0, 1) := by decide +kernel
theorem dX10_isChalk_10 : decode cX10_isChalk 10 = .ok (.getfield 16, 3) := by decide +kernel
theorem dX10_isChalk_13 : decode cX10_isChalk 13 = .ok (.iload_n 1, 1) := by decide +kernel
theorem dX10_isChalk_14 : decode cX10_isChalk 14 = .ok (.iload_n 3, 1) := by decide +kernel
theorem dX10_isChalk_15 : decode cX10_isChalk 15 = .ok (.iadd, 1) := by decide +kernel
theorem dX10_isChalk_16 : decode cX10_isChalk 16 = .ok (.iaload, 1) := by decide +kernel
theorem dX10_isChalk_17 : decode cX10_isChalk 17 = .ok (.bipush (-99), 2) := by decide +kernel
theorem dX10_isChalk_19 : decode cX10_isChalk 19 = .ok (.bipush 99, 2) := by decide +kernel
theorem dX10_isChalk_21 : decode cX10_isChalk 21 = .ok (.invokestatic 81, 3) := by decide +kernel
theorem dX10_isChalk_24 : decode cX10_isChalk 24 = .ok (.ifCond .ne 5, 3) := by decide +kernel
theorem dX10_isChalk_27 : decode cX10_isChalk 27 = .ok (.iconst 0, 1) := by decide +kernel
theorem dX10_isChalk_28 : decode cX10_isChalk 28 = .ok (.ireturn, 1) := by decide +kernel
theorem dX10_isChalk_29 : decode cX10_isChalk 29 = .ok (.iinc 3 1, 3) := by decide +kernel
theorem dX10_isChalk_32 : decode cX10_isChalk 32 = .ok (.goto (-30), 3) := by decide +kernel
theorem dX10_isChalk_35 : decode cX10_isChalk 35 = .ok (.iload_n 2, 1) := by decide +kernel
theorem dX10_isChalk_36 : decode cX10_isChalk 36 = .ok (.iconst 1, 1) := by decide +kernel
theorem dX10_isChalk_37 : decode cX10_isChalk 37 = .ok (.bipush 40, 2) := by decide +kernel
theorem dX10_isChalk_39 : decode cX10_isChalk 39 = .ok (.invokestatic 81, 3) := by decide +kernel
theorem dX10_isChalk_42 : decode cX10_isChalk 42 = .ok (.ireturn, 1) := by decide +kernel
set_option maxRecDepth 20000 in
theorem ggX10_chalk_X10_isSheet : GoodIn wsX10_chalk wsX10_isSheet := goodIn_r _ [7, 8, 9, 6, 10] (by decide +kernel) (by decide +kernel)
set_option maxRecDepth 20000 in
theorem gX10_chalk_X10_isSheet : GoodIn wsX10_chalk (va_wsS RX10 130 yX10_isSheet wsX10_isSheet) := goodIn_app (goodIn_of _ (by decide +kernel)) ggX10_chalk_X10_isSheet
set_option maxRecDepth 20000 in
theorem ggX10_chalk_X10_isSort : GoodIn wsX10_chalk wsX10_isSort := goodIn_r _ [13, 8, 9, 6, 10] (by decide +kernel) (by decide +kernel)
set_option maxRecDepth 20000 in
theorem gX10_chalk_X10_isSort : GoodIn wsX10_chalk (va_wsS RX10 133 yX10_isSort wsX10_isSort) := goodIn_app (goodIn_of _ (by decide +kernel)) ggX10_chalk_X10_isSort
set_option maxRecDepth 20000 in
theorem ggX10_chalk_X10_against : GoodIn wsX10_chalk wsX10_against := goodIn_r _ [17, 18, 19, 37, 38, 39, 40, 41, 42, 43, 44, 45, 46, 47, 48, 49, 50, 51, 52, 53, 54, 55, 56, 57, 58, 59, 60, 61, 62, 63, 64, 65, 66, 67, 68, 69] (by decide +kernel) (by decide +kernel)
set_option maxRecDepth 20000 in
theorem gX10_chalk_X10_against : GoodIn wsX10_chalk (wsV RX10 136 RX10 yX10_against wsX10_against) := goodIn_app (goodIn_of _ (by decide +kernel)) ggX10_chalk_X10_against
set_option maxRecDepth 20000 in
theorem ggX10_chalk_X10_lost : GoodIn wsX10_chalk wsX10_lost := goodIn_r _ [23, 1, 2, 37, 38, 39, 40, 41, 42, 43, 44, 45, 46, 47, 48, 49, 50, 51, 52, 53, 54, 55, 56, 57, 58, 59, 60, 61, 62, 63, 64, 65, 66, 67, 68, 69] (by decide +kernel) (by decide +kernel)
set_option maxRecDepth 20000 in
theorem gX10_chalk_X10_lost : GoodIn wsX10_chalk (wsV RX10 281 RX10 yX10_lost wsX10_lost) := goodIn_app (goodIn_of _ (by decide +kernel)) ggX10_chalk_X10_lost
set_option maxRecDepth 20000 in
theorem ggX10_chalk_X10_isChalk : GoodIn wsX10_chalk wsX10_isChalk := goodIn_r _ [27, 3, 8, 9, 6, 10, 37, 38, 39, 40, 41, 42, 43, 44, 45, 46, 47, 48, 49, 50, 51, 52, 53, 54, 55, 56, 57, 58, 59, 60, 61, 62, 63, 64, 65, 66, 67, 68, 69] (by decide +kernel) (by decide +kernel)
set_option maxRecDepth 20000 in
theorem gX10_chalk_X10_isChalk : GoodIn wsX10_chalk (wsV RX10 285 RX10 yX10_isChalk wsX10_isChalk) := goodIn_app (goodIn_of _ (by decide +kernel)) ggX10_chalk_X10_isChalk
set_option maxRecDepth 20000 in
theorem ggX10_chalk_X10_within : GoodIn wsX10_chalk wsX10_within := goodIn_r _ [10] (by decide +kernel) (by decide +kernel)
set_option maxRecDepth 20000 in
theorem gX10_chalk_X10_within : GoodIn wsX10_chalk (va_wsS RX10 81 yX10_within wsX10_within) := goodIn_app (goodIn_of _ (by decide +kernel)) ggX10_chalk_X10_within
set_option maxRecDepth 20000 in
theorem ggX10_chalk_X10_isWhich : GoodIn wsX10_chalk wsX10_isWhich := goodIn_r _ [30, 8, 9, 6, 10] (by decide +kernel) (by decide +kernel)
set_option maxRecDepth 20000 in
theorem gX10_chalk_X10_isWhich : GoodIn wsX10_chalk (va_wsS RX10 102 yX10_isWhich wsX10_isWhich) := goodIn_app (goodIn_of _ (by decide +kernel)) ggX10_chalk_X10_isWhich
set_option maxRecDepth 20000 in
theorem ggX10_chalk_X10_share : GoodIn wsX10_chalk wsX10_share := goodIn_r _ [33, 34, 35, 6, 36] (by decide +kernel) (by decide +kernel)
set_option maxRecDepth 20000 in
theorem gX10_chalk_X10_share : GoodIn wsX10_chalk (va_wsS RX10 109 yX10_share wsX10_share) := goodIn_app (goodIn_of _ (by decide +kernel)) ggX10_chalk_X10_share
theorem dX10_chalk_0 : decode cX10_chalk 0 = .ok (.aload_n 0, 1) := by decide +kernel
theorem dX10_chalk_1 : decode cX10_chalk 1 = .ok (.iconst 0, 1) := by decide +kernel
theorem dX10_chalk_2 : decode cX10_chalk 2 = .ok (.putfield 71, 3) := by decide +kernel
theorem dX10_chalk_5 : decode cX10_chalk 5 = .ok (.iload_n 1, 1) := by decide +kernel
theorem dX10_chalk_6 : decode cX10_chalk 6 = .ok (.invokestatic 130, 3) := by decide +kernel
theorem dX10_chalk_9 : decode cX10_chalk 9 = .ok (.ifCond .eq 10, 3) := by decide +kernel
theorem dX10_chalk_12 : decode cX10_chalk 12 = .ok (.iload_n 2, 1) := by decide +kernel
theorem dX10_chalk_13 : decode cX10_chalk 13 = .ok (.invokestatic 133, 3) := by decide +kernel
theorem dX10_chalk_16 : decode cX10_chalk 16 = .ok (.ifCond .ne 7, 3) := by decide +kernel
theorem dX10_chalk_19 : decode cX10_chalk 19 = .ok (.ldc2_w 75, 3) := by decide +kernel
theorem dX10_chalk_22 : decode cX10_chalk 22 = .ok (.lreturn, 1) := by decide +kernel
theorem dX10_chalk_23 : decode cX10_chalk 23 = .ok (.aload_n 0, 1) := by decide +kernel
theorem dX10_chalk_24 : decode cX10_chalk 24 = .ok (.iload_n 1, 1) := by decide +kernel
theorem dX10_chalk_25 : decode cX10_chalk 25 = .ok (.iload_n 2, 1) := by decide +kernel
theorem dX10_chalk_26 : decode cX10_chalk 26 = .ok (.iload_n 3, 1) := by decide +kernel
theorem dX10_chalk_27 : decode cX10_chalk 27 = .ok (.iload 4, 2) := by decide +kernel
theorem dX10_chalk_29 : decode cX10_chalk 29 = .ok (.iconst 2, 1) := by decide +kernel
theorem dX10_chalk_30 : decode cX10_chalk 30 = .ok (.invokevirtual 136, 3) := by decide +kernel
theorem dX10_chalk_33 : decode cX10_chalk 33 = .ok (.istore 7, 2) := by decide +kernel
theorem dX10_chalk_35 : decode cX10_chalk 35 = .ok (.iload 7, 2) := by decide +kernel
theorem dX10_chalk_37 : decode cX10_chalk 37 = .ok (.ifCond .eq 10, 3) := by decide +kernel
theorem dX10_chalk_40 : decode cX10_chalk 40 = .ok (.aload_n 0, 1) := by decide +kernel
theorem dX10_chalk_41 : decode cX10_chalk 41 = .ok (.iload 7, 2) := by decide +kernel
theorem dX10_chalk_43 : decode cX10_chalk 43 = .ok (.invokevirtual 281, 3) := by decide +kernel
theorem dX10_chalk_46 : decode cX10_chalk 46 = .ok (.lreturn, 1) := by decide +kernel
theorem dX10_chalk_47 : decode cX10_chalk 47 = .ok (.bipush 80, 2) := by decide +kernel
theorem dX10_chalk_49 : decode cX10_chalk 49 = .ok (.iload_n 1, 1) := by decide +kernel
theorem dX10_chalk_50 : decode cX10_chalk 50 = .ok (.imul, 1) := by decide +kernel
theorem dX10_chalk_51 : decode cX10_chalk 51 = .ok (.iload_n 3, 1) := by decide +kernel
theorem dX10_chalk_52 : decode cX10_chalk 52 = .ok (.iadd, 1) := by decide +kernel
theorem dX10_chalk_53 : decode cX10_chalk 53 = .ok (.istore 8, 2) := by decide +kernel
theorem dX10_chalk_55 : decode cX10_chalk 55 = .ok (.aload_n 0, 1) := by decide +kernel
theorem dX10_chalk_56 : decode cX10_chalk 56 = .ok (.iload 8, 2) := by decide +kernel
theorem dX10_chalk_58 : decode cX10_chalk 58 = .ok (.iload 4, 2) := by decide +kernel
theorem dX10_chalk_60 : decode cX10_chalk 60 = .ok (.invokevirtual 285, 3) := by decide +kernel
theorem dX10_chalk_63 : decode cX10_chalk 63 = .ok (.ifCond .eq 21, 3) := by decide +kernel
theorem dX10_chalk_66 : decode cX10_chalk 66 = .ok (.iload 5, 2) := by decide +kernel
theorem dX10_chalk_68 : decode cX10_chalk 68 = .ok (.iconst 0, 1) := by decide +kernel
theorem dX10_chalk_69 : decode cX10_chalk 69 = .ok (.iconst 3, 1) := by decide +kernel
theorem dX10_chalk_70 : decode cX10_chalk 70 = .ok (.invokestatic 81, 3) := by decide +kernel
theorem dX10_chalk_73 : decode cX10_chalk 73 = .ok (.ifCond .eq 11, 3) := by decide +kernel
theorem dX10_chalk_76 : decode cX10_chalk 76 = .ok (.iload 6, 2) := by decide +kernel
theorem dX10_chalk_78 : decode cX10_chalk 78 = .ok (.invokestatic 102, 3) := by decide +kernel
theorem dX10_chalk_81 : decode cX10_chalk 81 = .ok (.ifCond .ne 7, 3) := by decide +kernel
theorem dX10_chalk_84 : decode cX10_chalk 84 = .ok (.ldc2_w 75, 3) := by decide +kernel
theorem dX10_chalk_87 : decode cX10_chalk 87 = .ok (.lreturn, 1) := by decide +kernel
theorem dX10_chalk_88 : decode cX10_chalk 88 = .ok (.iconst 0, 1) := by decide +kernel
theorem dX10_chalk_89 : decode cX10_chalk 89 = .ok (.istore 9, 2) := by decide +kernel
theorem dX10_chalk_91 : decode cX10_chalk 91 = .ok (.iconst 0, 1) := by decide +kernel
theorem dX10_chalk_92 : decode cX10_chalk 92 = .ok (.istore 10, 2) := by decide +kernel
theorem dX10_chalk_94 : decode cX10_chalk 94 = .ok (.iload 10, 2) := by decide +kernel
theorem dX10_chalk_96 : decode cX10_chalk 96 = .ok (.iload 4, 2) := by decide +kernel
theorem dX10_chalk_98 : decode cX10_chalk 98 = .ok (.if_icmp .ge 52, 3) := by decide +kernel
theorem dX10_chalk_101 : decode cX10_chalk 101 = .ok (.aload_n 0, 1) := by decide +kernel
theorem dX10_chalk_102 : decode cX10_chalk 102 = .ok (.getfield 16, 3) := by decide +kernel
theorem dX10_chalk_105 : decode cX10_chalk 105 = .ok (.iload 8, 2) := by decide +kernel
theorem dX10_chalk_107 : decode cX10_chalk 107 = .ok (.iconst 2, 1) := by decide +kernel
theorem dX10_chalk_108 : decode cX10_chalk 108 = .ok (.iload 10, 2) := by decide +kernel
theorem dX10_chalk_110 : decode cX10_chalk 110 = .ok (.imul, 1) := by decide +kernel
theorem dX10_chalk_111 : decode cX10_chalk 111 = .ok (.iadd, 1) := by decide +kernel
theorem dX10_chalk_112 : decode cX10_chalk 112 = .ok (.iload 5, 2) := by decide +kernel
theorem dX10_chalk_114 : decode cX10_chalk 114 = .ok (.iconst 2, 1) := by decide +kernel
theorem dX10_chalk_115 : decode cX10_chalk 115 = .ok (.irem, 1) := by decide +kernel
theorem dX10_chalk_116 : decode cX10_chalk 116 = .ok (.iadd, 1) := by decide +kernel
theorem dX10_chalk_117 : decode cX10_chalk 117 = .ok (.iaload, 1) := by decide +kernel
theorem dX10_chalk_118 : decode cX10_chalk 118 = .ok (.istore 11, 2) := by decide +kernel
theorem dX10_chalk_120 : decode cX10_chalk 120 = .ok (.iload 9, 2) := by decide +kernel
theorem dX10_chalk_122 : decode cX10_chalk 122 = .ok (.iload 5, 2) := by decide +kernel
theorem dX10_chalk_124 : decode cX10_chalk 124 = .ok (.iconst 1, 1) := by decide +kernel
theorem dX10_chalk_125 : decode cX10_chalk 125 = .ok (.if_icmp .le 14, 3) := by decide +kernel
theorem dX10_chalk_128 : decode cX10_chalk 128 = .ok (.iload 11, 2) := by decide +kernel
theorem dX10_chalk_130 : decode cX10_chalk 130 = .ok (.ifCond .ge 9, 3) := by decide +kernel
theorem dX10_chalk_133 : decode cX10_chalk 133 = .ok (.iload 11, 2) := by decide +kernel
theorem dX10_chalk_135 : decode cX10_chalk 135 = .ok (.ineg, 1) := by decide +kernel
theorem dX10_chalk_136 : decode cX10_chalk 136 = .ok (.goto 5, 3) := by decide +kernel
theorem dX10_chalk_139 : decode cX10_chalk 139 = .ok (.iload 11, 2) := by decide +kernel
theorem dX10_chalk_141 : decode cX10_chalk 141 = .ok (.iadd, 1) := by decide +kernel
theorem dX10_chalk_142 : decode cX10_chalk 142 = .ok (.istore 9, 2) := by decide +kernel
theorem dX10_chalk_144 : decode cX10_chalk 144 = .ok (.iinc 10 1, 3) := by decide +kernel
theorem dX10_chalk_147 : decode cX10_chalk 147 = .ok (.goto (-53), 3) := by decide +kernel
theorem dX10_chalk_150 : decode cX10_chalk 150 = .ok (.iload 5, 2) := by decide +kernel
theorem dX10_chalk_152 : decode cX10_chalk 152 = .ok (.iconst 2, 1) := by decide +kernel
theorem dX10_chalk_153 : decode cX10_chalk 153 = .ok (.if_icmp .ge 17, 3) := by decide +kernel
theorem dX10_chalk_156 : decode cX10_chalk 156 = .ok (.iload 9, 2) := by decide +kernel
theorem dX10_chalk_158 : decode cX10_chalk 158 = .ok (.i2l, 1) := by decide +kernel
theorem dX10_chalk_159 : decode cX10_chalk 159 = .ok (.iload 4, 2) := by decide +kernel
theorem dX10_chalk_161 : decode cX10_chalk 161 = .ok (.i2l, 1) := by decide +kernel
theorem dX10_chalk_162 : decode cX10_chalk 162 = .ok (.iload 6, 2) := by decide +kernel
theorem dX10_chalk_164 : decode cX10_chalk 164 = .ok (.invokestatic 109, 3) := by decide +kernel
theorem dX10_chalk_167 : decode cX10_chalk 167 = .ok (.goto 15, 3) := by decide +kernel
theorem dX10_chalk_170 : decode cX10_chalk 170 = .ok (.iload 6, 2) := by decide +kernel
theorem dX10_chalk_172 : decode cX10_chalk 172 = .ok (.ifCond .ne 9, 3) := by decide +kernel
theorem dX10_chalk_175 : decode cX10_chalk 175 = .ok (.iload 9, 2) := by decide +kernel
theorem dX10_chalk_177 : decode cX10_chalk 177 = .ok (.i2l, 1) := by decide +kernel
theorem dX10_chalk_178 : decode cX10_chalk 178 = .ok (.goto 4, 3) := by decide +kernel
theorem dX10_chalk_181 : decode cX10_chalk 181 = .ok (.lconst 1, 1) := by decide +kernel
theorem dX10_chalk_182 : decode cX10_chalk 182 = .ok (.lreturn, 1) := by decide +kernel
set_option maxRecDepth 20000 in
theorem ggX10_byChalk_X10_isCell : GoodIn wsX10_byChalk wsX10_isCell := goodIn_r _ [9, 10, 11, 51, 52, 53, 54, 55, 56, 57, 58, 59, 60, 61, 62, 63, 64, 65, 66, 67, 68, 69, 70, 71, 72, 73, 74, 75, 76, 77, 78, 79, 80, 81, 82, 83] (by decide +kernel) (by decide +kernel)
set_option maxRecDepth 20000 in
theorem gX10_byChalk_X10_isCell : GoodIn wsX10_byChalk (wsV RX10 200 RX10 yX10_isCell wsX10_isCell) := goodIn_app (goodIn_of _ (by decide +kernel)) ggX10_byChalk_X10_isCell
set_option maxRecDepth 20000 in
theorem ggX10_byChalk_X10_isSheet : GoodIn wsX10_byChalk wsX10_isSheet := goodIn_r _ [14, 15, 16, 8, 17] (by decide +kernel) (by decide +kernel)
set_option maxRecDepth 20000 in
theorem gX10_byChalk_X10_isSheet : GoodIn wsX10_byChalk (va_wsS RX10 130 yX10_isSheet wsX10_isSheet) := goodIn_app (goodIn_of _ (by decide +kernel)) ggX10_byChalk_X10_isSheet
set_option maxRecDepth 20000 in
theorem ggX10_byChalk_X10_isSort : GoodIn wsX10_byChalk wsX10_isSort := goodIn_r _ [20, 15, 16, 8, 17] (by decide +kernel) (by decide +kernel)
set_option maxRecDepth 20000 in
theorem gX10_byChalk_X10_isSort : GoodIn wsX10_byChalk (va_wsS RX10 133 yX10_isSort wsX10_isSort) := goodIn_app (goodIn_of _ (by decide +kernel)) ggX10_byChalk_X10_isSort
set_option maxRecDepth 20000 in
theorem ggX10_byChalk_X10_against : GoodIn wsX10_byChalk wsX10_against := goodIn_r _ [24, 25, 26, 51, 52, 53, 54, 55, 56, 57, 58, 59, 60, 61, 62, 63, 64, 65, 66, 67, 68, 69, 70, 71, 72, 73, 74, 75, 76, 77, 78, 79, 80, 81, 82, 83] (by decide +kernel) (by decide +kernel)
set_option maxRecDepth 20000 in
theorem gX10_byChalk_X10_against : GoodIn wsX10_byChalk (wsV RX10 136 RX10 yX10_against wsX10_against) := goodIn_app (goodIn_of _ (by decide +kernel)) ggX10_byChalk_X10_against
set_option maxRecDepth 20000 in
theorem ggX10_byChalk_X10_lost : GoodIn wsX10_byChalk wsX10_lost := goodIn_r _ [30, 1, 2, 51, 52, 53, 54, 55, 56, 57, 58, 59, 60, 61, 62, 63, 64, 65, 66, 67, 68, 69, 70, 71, 72, 73, 74, 75, 76, 77, 78, 79, 80, 81, 82, 83] (by decide +kernel) (by decide +kernel)
set_option maxRecDepth 20000 in
theorem gX10_byChalk_X10_lost : GoodIn wsX10_byChalk (wsV RX10 281 RX10 yX10_lost wsX10_lost) := goodIn_app (goodIn_of _ (by decide +kernel)) ggX10_byChalk_X10_lost
set_option maxRecDepth 20000 in
theorem ggX10_byChalk_X10_isChalk : GoodIn wsX10_byChalk wsX10_isChalk := goodIn_r _ [34, 3, 15, 16, 8, 17, 51, 52, 53, 54, 55, 56, 57, 58, 59, 60, 61, 62, 63, 64, 65, 66, 67, 68, 69, 70, 71, 72, 73, 74, 75, 76, 77, 78, 79, 80, 81, 82, 83] (by decide +kernel) (by decide +kernel)
set_option maxRecDepth 20000 in
theorem gX10_byChalk_X10_isChalk : GoodIn wsX10_byChalk (wsV RX10 285 RX10 yX10_isChalk wsX10_isChalk) := goodIn_app (goodIn_of _ (by decide +kernel)) ggX10_byChalk_X10_isChalk
set_option maxRecDepth 20000 in
theorem ggX10_byChalk_X10_isWhich : GoodIn wsX10_byChalk wsX10_isWhich := goodIn_r _ [37, 15, 16, 8, 17] (by decide +kernel) (by decide +kernel)
set_option maxRecDepth 20000 in
theorem gX10_byChalk_X10_isWhich : GoodIn wsX10_byChalk (va_wsS RX10 102 yX10_isWhich wsX10_isWhich) := goodIn_app (goodIn_of _ (by decide +kernel)) ggX10_byChalk_X10_isWhich
set_option maxRecDepth 20000 in
theorem ggX10_byChalk_X10_cellBy : GoodIn wsX10_byChalk wsX10_cellBy := goodIn_r _ [41, 11, 10, 15, 16, 8, 17, 51, 52, 53, 54, 55, 56, 57, 58, 59, 60, 61, 62, 63, 64, 65, 66, 67, 68, 69, 70, 71, 72, 73, 74, 75, 76, 77, 78, 79, 80, 81, 82, 83] (by decide +kernel) (by decide +kernel)
set_option maxRecDepth 20000 in
theorem gX10_byChalk_X10_cellBy : GoodIn wsX10_byChalk (wsV RX10 203 RX10 yX10_cellBy wsX10_cellBy) := goodIn_app (goodIn_of _ (by decide +kernel)) ggX10_byChalk_X10_cellBy
set_option maxRecDepth 20000 in
theorem ggX10_byChalk_X10_isHurt : GoodIn wsX10_byChalk wsX10_isHurt := goodIn_r _ [44] (by decide +kernel) (by decide +kernel)
set_option maxRecDepth 20000 in
theorem gX10_byChalk_X10_isHurt : GoodIn wsX10_byChalk (va_wsS RX10 206 yX10_isHurt wsX10_isHurt) := goodIn_app (goodIn_of _ (by decide +kernel)) ggX10_byChalk_X10_isHurt
set_option maxRecDepth 20000 in
theorem ggX10_byChalk_X10_share : GoodIn wsX10_byChalk wsX10_share := goodIn_r _ [47, 48, 49, 8, 50] (by decide +kernel) (by decide +kernel)
set_option maxRecDepth 20000 in
theorem gX10_byChalk_X10_share : GoodIn wsX10_byChalk (va_wsS RX10 109 yX10_share wsX10_share) := goodIn_app (goodIn_of _ (by decide +kernel)) ggX10_byChalk_X10_share
theorem dX10_byChalk_0 : decode cX10_byChalk 0 = .ok (.aload_n 0, 1) := by decide +kernel
theorem dX10_byChalk_1 : decode cX10_byChalk 1 = .ok (.iconst 0, 1) := by decide +kernel
theorem dX10_byChalk_2 : decode cX10_byChalk 2 = .ok (.putfield 71, 3) := by decide +kernel
theorem dX10_byChalk_5 : decode cX10_byChalk 5 = .ok (.aload_n 0, 1) := by decide +kernel
theorem dX10_byChalk_6 : decode cX10_byChalk 6 = .ok (.iload_n 1, 1) := by decide +kernel
theorem dX10_byChalk_7 : decode cX10_byChalk 7 = .ok (.invokevirtual 200, 3) := by decide +kernel
theorem dX10_byChalk_10 : decode cX10_byChalk 10 = .ok (.ifCond .eq 17, 3) := by decide +kernel
theorem dX10_byChalk_13 : decode cX10_byChalk 13 = .ok (.iload_n 2, 1) := by decide +kernel
theorem dX10_byChalk_14 : decode cX10_byChalk 14 = .ok (.invokestatic 130, 3) := by decide +kernel
theorem dX10_byChalk_17 : decode cX10_byChalk 17 = .ok (.ifCond .eq 10, 3) := by decide +kernel
theorem dX10_byChalk_20 : decode cX10_byChalk 20 = .ok (.iload_n 3, 1) := by decide +kernel
theorem dX10_byChalk_21 : decode cX10_byChalk 21 = .ok (.invokestatic 133, 3) := by decide +kernel
theorem dX10_byChalk_24 : decode cX10_byChalk 24 = .ok (.ifCond .ne 7, 3) := by decide +kernel
theorem dX10_byChalk_27 : decode cX10_byChalk 27 = .ok (.ldc2_w 75, 3) := by decide +kernel
theorem dX10_byChalk_30 : decode cX10_byChalk 30 = .ok (.lreturn, 1) := by decide +kernel
theorem dX10_byChalk_31 : decode cX10_byChalk 31 = .ok (.aload_n 0, 1) := by decide +kernel
theorem dX10_byChalk_32 : decode cX10_byChalk 32 = .ok (.iload_n 2, 1) := by decide +kernel
theorem dX10_byChalk_33 : decode cX10_byChalk 33 = .ok (.iload_n 3, 1) := by decide +kernel
theorem dX10_byChalk_34 : decode cX10_byChalk 34 = .ok (.iload 4, 2) := by decide +kernel
theorem dX10_byChalk_36 : decode cX10_byChalk 36 = .ok (.iload 5, 2) := by decide +kernel
theorem dX10_byChalk_38 : decode cX10_byChalk 38 = .ok (.iconst 2, 1) := by decide +kernel
theorem dX10_byChalk_39 : decode cX10_byChalk 39 = .ok (.invokevirtual 136, 3) := by decide +kernel
theorem dX10_byChalk_42 : decode cX10_byChalk 42 = .ok (.istore 7, 2) := by decide +kernel
theorem dX10_byChalk_44 : decode cX10_byChalk 44 = .ok (.iload 7, 2) := by decide +kernel
theorem dX10_byChalk_46 : decode cX10_byChalk 46 = .ok (.ifCond .eq 10, 3) := by decide +kernel
theorem dX10_byChalk_49 : decode cX10_byChalk 49 = .ok (.aload_n 0, 1) := by decide +kernel
theorem dX10_byChalk_50 : decode cX10_byChalk 50 = .ok (.iload 7, 2) := by decide +kernel
theorem dX10_byChalk_52 : decode cX10_byChalk 52 = .ok (.invokevirtual 281, 3) := by decide +kernel
theorem dX10_byChalk_55 : decode cX10_byChalk 55 = .ok (.lreturn, 1) := by decide +kernel
theorem dX10_byChalk_56 : decode cX10_byChalk 56 = .ok (.bipush 80, 2) := by decide +kernel
theorem dX10_byChalk_58 : decode cX10_byChalk 58 = .ok (.iload_n 2, 1) := by decide +kernel
theorem dX10_byChalk_59 : decode cX10_byChalk 59 = .ok (.imul, 1) := by decide +kernel
theorem dX10_byChalk_60 : decode cX10_byChalk 60 = .ok (.iload 4, 2) := by decide +kernel
theorem dX10_byChalk_62 : decode cX10_byChalk 62 = .ok (.iadd, 1) := by decide +kernel
theorem dX10_byChalk_63 : decode cX10_byChalk 63 = .ok (.istore 8, 2) := by decide +kernel
theorem dX10_byChalk_65 : decode cX10_byChalk 65 = .ok (.aload_n 0, 1) := by decide +kernel
theorem dX10_byChalk_66 : decode cX10_byChalk 66 = .ok (.iload 8, 2) := by decide +kernel
theorem dX10_byChalk_68 : decode cX10_byChalk 68 = .ok (.iload 5, 2) := by decide +kernel
theorem dX10_byChalk_70 : decode cX10_byChalk 70 = .ok (.invokevirtual 285, 3) := by decide +kernel
theorem dX10_byChalk_73 : decode cX10_byChalk 73 = .ok (.ifCond .eq 11, 3) := by decide +kernel
theorem dX10_byChalk_76 : decode cX10_byChalk 76 = .ok (.iload 6, 2) := by decide +kernel
theorem dX10_byChalk_78 : decode cX10_byChalk 78 = .ok (.invokestatic 102, 3) := by decide +kernel
theorem dX10_byChalk_81 : decode cX10_byChalk 81 = .ok (.ifCond .ne 7, 3) := by decide +kernel
theorem dX10_byChalk_84 : decode cX10_byChalk 84 = .ok (.ldc2_w 75, 3) := by decide +kernel
theorem dX10_byChalk_87 : decode cX10_byChalk 87 = .ok (.lreturn, 1) := by decide +kernel
theorem dX10_byChalk_88 : decode cX10_byChalk 88 = .ok (.iconst 0, 1) := by decide +kernel
theorem dX10_byChalk_89 : decode cX10_byChalk 89 = .ok (.istore 9, 2) := by decide +kernel
theorem dX10_byChalk_91 : decode cX10_byChalk 91 = .ok (.iconst 0, 1) := by decide +kernel
theorem dX10_byChalk_92 : decode cX10_byChalk 92 = .ok (.istore 10, 2) := by decide +kernel
theorem dX10_byChalk_94 : decode cX10_byChalk 94 = .ok (.iload 10, 2) := by decide +kernel
theorem dX10_byChalk_96 : decode cX10_byChalk 96 = .ok (.iload 5, 2) := by decide +kernel
theorem dX10_byChalk_98 : decode cX10_byChalk 98 = .ok (.if_icmp .ge 73, 3) := by decide +kernel
theorem dX10_byChalk_101 : decode cX10_byChalk 101 = .ok (.aload_n 0, 1) := by decide +kernel
theorem dX10_byChalk_102 : decode cX10_byChalk 102 = .ok (.iload_n 1, 1) := by decide +kernel
theorem dX10_byChalk_103 : decode cX10_byChalk 103 = .ok (.aload_n 0, 1) := by decide +kernel
theorem dX10_byChalk_104 : decode cX10_byChalk 104 = .ok (.getfield 16, 3) := by decide +kernel
theorem dX10_byChalk_107 : decode cX10_byChalk 107 = .ok (.iload 8, 2) := by decide +kernel
theorem dX10_byChalk_109 : decode cX10_byChalk 109 = .ok (.iconst 2, 1) := by decide +kernel
theorem dX10_byChalk_110 : decode cX10_byChalk 110 = .ok (.iload 10, 2) := by decide +kernel
theorem dX10_byChalk_112 : decode cX10_byChalk 112 = .ok (.imul, 1) := by decide +kernel
theorem dX10_byChalk_113 : decode cX10_byChalk 113 = .ok (.iadd, 1) := by decide +kernel
theorem dX10_byChalk_114 : decode cX10_byChalk 114 = .ok (.iaload, 1) := by decide +kernel
theorem dX10_byChalk_115 : decode cX10_byChalk 115 = .ok (.aload_n 0, 1) := by decide +kernel
theorem dX10_byChalk_116 : decode cX10_byChalk 116 = .ok (.getfield 16, 3) := by decide +kernel
theorem dX10_byChalk_119 : decode cX10_byChalk 119 = .ok (.iload 8, 2) := by decide +kernel
theorem dX10_byChalk_121 : decode cX10_byChalk 121 = .ok (.iconst 2, 1) := by decide +kernel
theorem dX10_byChalk_122 : decode cX10_byChalk 122 = .ok (.iload 10, 2) := by decide +kernel
theorem dX10_byChalk_124 : decode cX10_byChalk 124 = .ok (.imul, 1) := by decide +kernel
theorem dX10_byChalk_125 : decode cX10_byChalk 125 = .ok (.iadd, 1) := by decide +kernel
theorem dX10_byChalk_126 : decode cX10_byChalk 126 = .ok (.iconst 1, 1) := by decide +kernel
theorem dX10_byChalk_127 : decode cX10_byChalk 127 = .ok (.iadd, 1) := by decide +kernel
theorem dX10_byChalk_128 : decode cX10_byChalk 128 = .ok (.iaload, 1) := by decide +kernel
theorem dX10_byChalk_129 : decode cX10_byChalk 129 = .ok (.invokevirtual 203, 3) := by decide +kernel
theorem dX10_byChalk_132 : decode cX10_byChalk 132 = .ok (.istore 11, 2) := by decide +kernel
theorem dX10_byChalk_134 : decode cX10_byChalk 134 = .ok (.iload 9, 2) := by decide +kernel
theorem dX10_byChalk_136 : decode cX10_byChalk 136 = .ok (.iload 11, 2) := by decide +kernel
theorem dX10_byChalk_138 : decode cX10_byChalk 138 = .ok (.bipush (-9), 2) := by decide +kernel
theorem dX10_byChalk_140 : decode cX10_byChalk 140 = .ok (.if_icmp .eq 21, 3) := by decide +kernel
theorem dX10_byChalk_143 : decode cX10_byChalk 143 = .ok (.aload_n 0, 1) := by decide +kernel
theorem dX10_byChalk_144 : decode cX10_byChalk 144 = .ok (.getfield 37, 3) := by decide +kernel
theorem dX10_byChalk_147 : decode cX10_byChalk 147 = .ok (.iload 11, 2) := by decide +kernel
theorem dX10_byChalk_149 : decode cX10_byChalk 149 = .ok (.iaload, 1) := by decide +kernel
theorem dX10_byChalk_150 : decode cX10_byChalk 150 = .ok (.iconst 1, 1) := by decide +kernel
theorem dX10_byChalk_151 : decode cX10_byChalk 151 = .ok (.invokestatic 206, 3) := by decide +kernel
theorem dX10_byChalk_154 : decode cX10_byChalk 154 = .ok (.ifCond .eq 7, 3) := by decide +kernel
theorem dX10_byChalk_157 : decode cX10_byChalk 157 = .ok (.iconst 1, 1) := by decide +kernel
theorem dX10_byChalk_158 : decode cX10_byChalk 158 = .ok (.goto 4, 3) := by decide +kernel
theorem dX10_byChalk_161 : decode cX10_byChalk 161 = .ok (.iconst 0, 1) := by decide +kernel
theorem dX10_byChalk_162 : decode cX10_byChalk 162 = .ok (.iadd, 1) := by decide +kernel
theorem dX10_byChalk_163 : decode cX10_byChalk 163 = .ok (.istore 9, 2) := by decide +kernel
theorem dX10_byChalk_165 : decode cX10_byChalk 165 = .ok (.iinc 10 1, 3) := by decide +kernel
theorem dX10_byChalk_168 : decode cX10_byChalk 168 = .ok (.goto (-74), 3) := by decide +kernel
theorem dX10_byChalk_171 : decode cX10_byChalk 171 = .ok (.iload 9, 2) := by decide +kernel
theorem dX10_byChalk_173 : decode cX10_byChalk 173 = .ok (.i2l, 1) := by decide +kernel
theorem dX10_byChalk_174 : decode cX10_byChalk 174 = .ok (.iload 5, 2) := by decide +kernel
theorem dX10_byChalk_176 : decode cX10_byChalk 176 = .ok (.i2l, 1) := by decide +kernel
theorem dX10_byChalk_177 : decode cX10_byChalk 177 = .ok (.iload 6, 2) := by decide +kernel
theorem dX10_byChalk_179 : decode cX10_byChalk 179 = .ok (.invokestatic 109, 3) := by decide +kernel
theorem dX10_byChalk_182 : decode cX10_byChalk 182 = .ok (.lreturn, 1) := by decide +kernel
set_option maxRecDepth 20000 in
theorem ggX10_sheet_X10_isSheet : GoodIn wsX10_sheet wsX10_isSheet := goodIn_r _ [8, 9, 10, 7, 11] (by decide +kernel) (by decide +kernel)
set_option maxRecDepth 20000 in
theorem gX10_sheet_X10_isSheet : GoodIn wsX10_sheet (va_wsS RX10 130 yX10_isSheet wsX10_isSheet) := goodIn_app (goodIn_of _ (by decide +kernel)) ggX10_sheet_X10_isSheet
set_option maxRecDepth 20000 in
theorem ggX10_sheet_X10_isSort : GoodIn wsX10_sheet wsX10_isSort := goodIn_r _ [14, 9, 10, 7, 11] (by decide +kernel) (by decide +kernel)
set_option maxRecDepth 20000 in
theorem gX10_sheet_X10_isSort : GoodIn wsX10_sheet (va_wsS RX10 133 yX10_isSort wsX10_isSort) := goodIn_app (goodIn_of _ (by decide +kernel)) ggX10_sheet_X10_isSort
set_option maxRecDepth 20000 in
theorem ggX10_sheet_X10_fails : GoodIn wsX10_sheet wsX10_fails := goodIn_r _ [18, 1, 19, 20, 21, 22, 23, 24, 25, 26, 27, 28, 29, 30, 31, 32, 33, 34, 35, 36, 37, 38, 39, 40, 41, 42, 43, 44, 45, 46, 47, 48, 49, 50, 51] (by decide +kernel) (by decide +kernel)
set_option maxRecDepth 20000 in
theorem gX10_sheet_X10_fails : GoodIn wsX10_sheet (wsV RX10 140 RX10 yX10_fails wsX10_fails) := goodIn_app (goodIn_of _ (by decide +kernel)) ggX10_sheet_X10_fails
theorem dX10_sheet_0 : decode cX10_sheet 0 = .ok (.aload_n 0, 1) := by decide +kernel
theorem dX10_sheet_1 : decode cX10_sheet 1 = .ok (.iconst 0, 1) := by decide +kernel
theorem dX10_sheet_2 : decode cX10_sheet 2 = .ok (.putfield 71, 3) := by decide +kernel
theorem dX10_sheet_5 : decode cX10_sheet 5 = .ok (.iload_n 1, 1) := by decide +kernel
theorem dX10_sheet_6 : decode cX10_sheet 6 = .ok (.invokestatic 130, 3) := by decide +kernel
theorem dX10_sheet_9 : decode cX10_sheet 9 = .ok (.ifCond .ne 5, 3) := by decide +kernel
theorem dX10_sheet_12 : decode cX10_sheet 12 = .ok (.iconst (-1), 1) := by decide +kernel
theorem dX10_sheet_13 : decode cX10_sheet 13 = .ok (.ireturn, 1) := by decide +kernel
theorem dX10_sheet_14 : decode cX10_sheet 14 = .ok (.iload_n 2, 1) := by decide +kernel
theorem dX10_sheet_15 : decode cX10_sheet 15 = .ok (.invokestatic 133, 3) := by decide +kernel
theorem dX10_sheet_18 : decode cX10_sheet 18 = .ok (.ifCond .eq 9, 3) := by decide +kernel
theorem dX10_sheet_21 : decode cX10_sheet 21 = .ok (.iload_n 3, 1) := by decide +kernel
theorem dX10_sheet_22 : decode cX10_sheet 22 = .ok (.bipush 80, 2) := by decide +kernel
theorem dX10_sheet_24 : decode cX10_sheet 24 = .ok (.if_icmp .le 6, 3) := by decide +kernel
theorem dX10_sheet_27 : decode cX10_sheet 27 = .ok (.bipush (-2), 2) := by decide +kernel
theorem dX10_sheet_29 : decode cX10_sheet 29 = .ok (.ireturn, 1) := by decide +kernel
theorem dX10_sheet_30 : decode cX10_sheet 30 = .ok (.iload_n 3, 1) := by decide +kernel
theorem dX10_sheet_31 : decode cX10_sheet 31 = .ok (.ifCond .ge 9, 3) := by decide +kernel
theorem dX10_sheet_34 : decode cX10_sheet 34 = .ok (.aload_n 0, 1) := by decide +kernel
theorem dX10_sheet_35 : decode cX10_sheet 35 = .ok (.iconst 4, 1) := by decide +kernel
theorem dX10_sheet_36 : decode cX10_sheet 36 = .ok (.invokevirtual 140, 3) := by decide +kernel
theorem dX10_sheet_39 : decode cX10_sheet 39 = .ok (.ireturn, 1) := by decide +kernel
theorem dX10_sheet_40 : decode cX10_sheet 40 = .ok (.aload_n 0, 1) := by decide +kernel
theorem dX10_sheet_41 : decode cX10_sheet 41 = .ok (.getfield 9, 3) := by decide +kernel
theorem dX10_sheet_44 : decode cX10_sheet 44 = .ok (.iload_n 1, 1) := by decide +kernel
theorem dX10_sheet_45 : decode cX10_sheet 45 = .ok (.iload_n 2, 1) := by decide +kernel
theorem dX10_sheet_46 : decode cX10_sheet 46 = .ok (.iastore, 1) := by decide +kernel
theorem dX10_sheet_47 : decode cX10_sheet 47 = .ok (.aload_n 0, 1) := by decide +kernel
theorem dX10_sheet_48 : decode cX10_sheet 48 = .ok (.getfield 13, 3) := by decide +kernel
theorem dX10_sheet_51 : decode cX10_sheet 51 = .ok (.iload_n 1, 1) := by decide +kernel
theorem dX10_sheet_52 : decode cX10_sheet 52 = .ok (.iload_n 3, 1) := by decide +kernel
theorem dX10_sheet_53 : decode cX10_sheet 53 = .ok (.iastore, 1) := by decide +kernel
theorem dX10_sheet_54 : decode cX10_sheet 54 = .ok (.iconst 0, 1) := by decide +kernel
theorem dX10_sheet_55 : decode cX10_sheet 55 = .ok (.istore 4, 2) := by decide +kernel
theorem dX10_sheet_57 : decode cX10_sheet 57 = .ok (.iload 4, 2) := by decide +kernel
theorem dX10_sheet_59 : decode cX10_sheet 59 = .ok (.bipush 80, 2) := by decide +kernel
theorem dX10_sheet_61 : decode cX10_sheet 61 = .ok (.if_icmp .ge 22, 3) := by decide +kernel
theorem dX10_sheet_64 : decode cX10_sheet 64 = .ok (.aload_n 0, 1) := by decide +kernel
theorem dX10_sheet_65 : decode cX10_sheet 65 = .ok (.getfield 16, 3) := by decide +kernel
theorem dX10_sheet_68 : decode cX10_sheet 68 = .ok (.bipush 80, 2) := by decide +kernel
theorem dX10_sheet_70 : decode cX10_sheet 70 = .ok (.iload_n 1, 1) := by decide +kernel
theorem dX10_sheet_71 : decode cX10_sheet 71 = .ok (.imul, 1) := by decide +kernel
theorem dX10_sheet_72 : decode cX10_sheet 72 = .ok (.iload 4, 2) := by decide +kernel
theorem dX10_sheet_74 : decode cX10_sheet 74 = .ok (.iadd, 1) := by decide +kernel
theorem dX10_sheet_75 : decode cX10_sheet 75 = .ok (.iconst 0, 1) := by decide +kernel
theorem dX10_sheet_76 : decode cX10_sheet 76 = .ok (.iastore, 1) := by decide +kernel
theorem dX10_sheet_77 : decode cX10_sheet 77 = .ok (.iinc 4 1, 3) := by decide +kernel
theorem dX10_sheet_80 : decode cX10_sheet 80 = .ok (.goto (-23), 3) := by decide +kernel
theorem dX10_sheet_83 : decode cX10_sheet 83 = .ok (.iconst 1, 1) := by decide +kernel
theorem dX10_sheet_84 : decode cX10_sheet 84 = .ok (.ireturn, 1) := by decide +kernel
set_option maxRecDepth 20000 in
theorem ggX10_lose_X10_isSheet : GoodIn wsX10_lose wsX10_isSheet := goodIn_r _ [5, 6, 7, 4, 8] (by decide +kernel) (by decide +kernel)
set_option maxRecDepth 20000 in
theorem gX10_lose_X10_isSheet : GoodIn wsX10_lose (va_wsS RX10 130 yX10_isSheet wsX10_isSheet) := goodIn_app (goodIn_of _ (by decide +kernel)) ggX10_lose_X10_isSheet
theorem dX10_lose_0 : decode cX10_lose 0 = .ok (.iload_n 1, 1) := by decide +kernel
theorem dX10_lose_1 : decode cX10_lose 1 = .ok (.invokestatic 130, 3) := by decide +kernel
theorem dX10_lose_4 : decode cX10_lose 4 = .ok (.ifCond .ne 5, 3) := by decide +kernel
theorem dX10_lose_7 : decode cX10_lose 7 = .ok (.iconst (-1), 1) := by decide +kernel
theorem dX10_lose_8 : decode cX10_lose 8 = .ok (.ireturn, 1) := by decide +kernel
theorem dX10_lose_9 : decode cX10_lose 9 = .ok (.aload_n 0, 1) := by decide +kernel
theorem dX10_lose_10 : decode cX10_lose 10 = .ok (.getfield 9, 3) := by decide +kernel
theorem dX10_lose_13 : decode cX10_lose 13 = .ok (.iload_n 1, 1) := by decide +kernel
theorem dX10_lose_14 : decode cX10_lose 14 = .ok (.iaload, 1) := by decide +kernel
theorem dX10_lose_15 : decode cX10_lose 15 = .ok (.bipush (-9), 2) := by decide +kernel
theorem dX10_lose_17 : decode cX10_lose 17 = .ok (.if_icmp .ne 7, 3) := by decide +kernel
theorem dX10_lose_20 : decode cX10_lose 20 = .ok (.iconst 0, 1) := by decide +kernel
theorem dX10_lose_21 : decode cX10_lose 21 = .ok (.goto 4, 3) := by decide +kernel
theorem dX10_lose_24 : decode cX10_lose 24 = .ok (.iconst 1, 1) := by decide +kernel
theorem dX10_lose_25 : decode cX10_lose 25 = .ok (.istore_n 2, 1) := by decide +kernel
theorem dX10_lose_26 : decode cX10_lose 26 = .ok (.aload_n 0, 1) := by decide +kernel
theorem dX10_lose_27 : decode cX10_lose 27 = .ok (.getfield 9, 3) := by decide +kernel
theorem dX10_lose_30 : decode cX10_lose 30 = .ok (.iload_n 1, 1) := by decide +kernel
theorem dX10_lose_31 : decode cX10_lose 31 = .ok (.bipush (-9), 2) := by decide +kernel
theorem dX10_lose_33 : decode cX10_lose 33 = .ok (.iastore, 1) := by decide +kernel
theorem dX10_lose_34 : decode cX10_lose 34 = .ok (.iload_n 2, 1) := by decide +kernel
theorem dX10_lose_35 : decode cX10_lose 35 = .ok (.ireturn, 1) := by decide +kernel
set_option maxRecDepth 20000 in
theorem ggX10_put_X10_isSheet : GoodIn wsX10_put wsX10_isSheet := goodIn_r _ [8, 9, 10, 7, 11] (by decide +kernel) (by decide +kernel)
set_option maxRecDepth 20000 in
theorem gX10_put_X10_isSheet : GoodIn wsX10_put (va_wsS RX10 130 yX10_isSheet wsX10_isSheet) := goodIn_app (goodIn_of _ (by decide +kernel)) ggX10_put_X10_isSheet
set_option maxRecDepth 20000 in
theorem ggX10_put_X10_fails : GoodIn wsX10_put wsX10_fails := goodIn_r _ [15, 1, 16, 17, 18, 19, 20, 21, 22, 23, 24, 25, 26, 27, 28, 29, 30, 31, 32, 33, 34, 35, 36, 37, 38, 39, 40, 41, 42, 43, 44, 45, 46, 47, 48] (by decide +kernel) (by decide +kernel)
set_option maxRecDepth 20000 in
theorem gX10_put_X10_fails : GoodIn wsX10_put (wsV RX10 140 RX10 yX10_fails wsX10_fails) := goodIn_app (goodIn_of _ (by decide +kernel)) ggX10_put_X10_fails
set_option maxRecDepth 20000 in
theorem ggX10_put_X10_within : GoodIn wsX10_put wsX10_within := goodIn_r _ [11] (by decide +kernel) (by decide +kernel)
set_option maxRecDepth 20000 in
theorem gX10_put_X10_within : GoodIn wsX10_put (va_wsS RX10 81 yX10_within wsX10_within) := goodIn_app (goodIn_of _ (by decide +kernel)) ggX10_put_X10_within
theorem dX10_put_0 : decode cX10_put 0 = .ok (.aload_n 0, 1) := by decide +kernel
theorem dX10_put_1 : decode cX10_put 1 = .ok (.iconst 0, 1) := by decide +kernel
theorem dX10_put_2 : decode cX10_put 2 = .ok (.putfield 71, 3) := by decide +kernel
theorem dX10_put_5 : decode cX10_put 5 = .ok (.iload_n 1, 1) := by decide +kernel
theorem dX10_put_6 : decode cX10_put 6 = .ok (.invokestatic 130, 3) := by decide +kernel
theorem dX10_put_9 : decode cX10_put 9 = .ok (.ifCond .ne 5, 3) := by decide +kernel
theorem dX10_put_12 : decode cX10_put 12 = .ok (.iconst (-1), 1) := by decide +kernel
theorem dX10_put_13 : decode cX10_put 13 = .ok (.ireturn, 1) := by decide +kernel
theorem dX10_put_14 : decode cX10_put 14 = .ok (.aload_n 0, 1) := by decide +kernel
theorem dX10_put_15 : decode cX10_put 15 = .ok (.getfield 9, 3) := by decide +kernel
theorem dX10_put_18 : decode cX10_put 18 = .ok (.iload_n 1, 1) := by decide +kernel
theorem dX10_put_19 : decode cX10_put 19 = .ok (.iaload, 1) := by decide +kernel
theorem dX10_put_20 : decode cX10_put 20 = .ok (.bipush (-9), 2) := by decide +kernel
theorem dX10_put_22 : decode cX10_put 22 = .ok (.if_icmp .ne 9, 3) := by decide +kernel
theorem dX10_put_25 : decode cX10_put 25 = .ok (.aload_n 0, 1) := by decide +kernel
theorem dX10_put_26 : decode cX10_put 26 = .ok (.iconst 1, 1) := by decide +kernel
theorem dX10_put_27 : decode cX10_put 27 = .ok (.invokevirtual 140, 3) := by decide +kernel
theorem dX10_put_30 : decode cX10_put 30 = .ok (.ireturn, 1) := by decide +kernel
theorem dX10_put_31 : decode cX10_put 31 = .ok (.iload_n 2, 1) := by decide +kernel
theorem dX10_put_32 : decode cX10_put 32 = .ok (.iconst 0, 1) := by decide +kernel
theorem dX10_put_33 : decode cX10_put 33 = .ok (.aload_n 0, 1) := by decide +kernel
theorem dX10_put_34 : decode cX10_put 34 = .ok (.getfield 13, 3) := by decide +kernel
theorem dX10_put_37 : decode cX10_put 37 = .ok (.iload_n 1, 1) := by decide +kernel
theorem dX10_put_38 : decode cX10_put 38 = .ok (.iaload, 1) := by decide +kernel
theorem dX10_put_39 : decode cX10_put 39 = .ok (.iconst 1, 1) := by decide +kernel
theorem dX10_put_40 : decode cX10_put 40 = .ok (.isub, 1) := by decide +kernel
theorem dX10_put_41 : decode cX10_put 41 = .ok (.invokestatic 81, 3) := by decide +kernel
theorem dX10_put_44 : decode cX10_put 44 = .ok (.ifCond .ne 9, 3) := by decide +kernel
theorem dX10_put_47 : decode cX10_put 47 = .ok (.aload_n 0, 1) := by decide +kernel
theorem dX10_put_48 : decode cX10_put 48 = .ok (.iconst 3, 1) := by decide +kernel
theorem dX10_put_49 : decode cX10_put 49 = .ok (.invokevirtual 140, 3) := by decide +kernel
theorem dX10_put_52 : decode cX10_put 52 = .ok (.ireturn, 1) := by decide +kernel
theorem dX10_put_53 : decode cX10_put 53 = .ok (.aload_n 0, 1) := by decide +kernel
theorem dX10_put_54 : decode cX10_put 54 = .ok (.getfield 16, 3) := by decide +kernel
theorem dX10_put_57 : decode cX10_put 57 = .ok (.bipush 80, 2) := by decide +kernel
theorem dX10_put_59 : decode cX10_put 59 = .ok (.iload_n 1, 1) := by decide +kernel
theorem dX10_put_60 : decode cX10_put 60 = .ok (.imul, 1) := by decide +kernel
theorem dX10_put_61 : decode cX10_put 61 = .ok (.iload_n 2, 1) := by decide +kernel
theorem dX10_put_62 : decode cX10_put 62 = .ok (.iadd, 1) := by decide +kernel
theorem dX10_put_63 : decode cX10_put 63 = .ok (.aload_n 0, 1) := by decide +kernel
theorem dX10_put_64 : decode cX10_put 64 = .ok (.getfield 9, 3) := by decide +kernel
theorem dX10_put_67 : decode cX10_put 67 = .ok (.iload_n 1, 1) := by decide +kernel
theorem dX10_put_68 : decode cX10_put 68 = .ok (.iaload, 1) := by decide +kernel
theorem dX10_put_69 : decode cX10_put 69 = .ok (.ifCond .ne 8, 3) := by decide +kernel
theorem dX10_put_72 : decode cX10_put 72 = .ok (.iload_n 3, 1) := by decide +kernel
theorem dX10_put_73 : decode cX10_put 73 = .ok (.i2b, 1) := by decide +kernel
theorem dX10_put_74 : decode cX10_put 74 = .ok (.goto 19, 3) := by decide +kernel
theorem dX10_put_77 : decode cX10_put 77 = .ok (.aload_n 0, 1) := by decide +kernel
theorem dX10_put_78 : decode cX10_put 78 = .ok (.getfield 9, 3) := by decide +kernel
theorem dX10_put_81 : decode cX10_put 81 = .ok (.iload_n 1, 1) := by decide +kernel
theorem dX10_put_82 : decode cX10_put 82 = .ok (.iaload, 1) := by decide +kernel
theorem dX10_put_83 : decode cX10_put 83 = .ok (.iconst 1, 1) := by decide +kernel
theorem dX10_put_84 : decode cX10_put 84 = .ok (.if_icmp .ne 8, 3) := by decide +kernel
theorem dX10_put_87 : decode cX10_put 87 = .ok (.iload_n 3, 1) := by decide +kernel
theorem dX10_put_88 : decode cX10_put 88 = .ok (.i2s, 1) := by decide +kernel
theorem dX10_put_89 : decode cX10_put 89 = .ok (.goto 4, 3) := by decide +kernel
theorem dX10_put_92 : decode cX10_put 92 = .ok (.iload_n 3, 1) := by decide +kernel
theorem dX10_put_93 : decode cX10_put 93 = .ok (.iastore, 1) := by decide +kernel
theorem dX10_put_94 : decode cX10_put 94 = .ok (.iconst 1, 1) := by decide +kernel
theorem dX10_put_95 : decode cX10_put 95 = .ok (.ireturn, 1) := by decide +kernel
set_option maxRecDepth 20000 in
theorem ggX10_cell_X10_isSheet : GoodIn wsX10_cell wsX10_isSheet := goodIn_r _ [9, 10, 11, 8, 12] (by decide +kernel) (by decide +kernel)
set_option maxRecDepth 20000 in
theorem gX10_cell_X10_isSheet : GoodIn wsX10_cell (va_wsS RX10 130 yX10_isSheet wsX10_isSheet) := goodIn_app (goodIn_of _ (by decide +kernel)) ggX10_cell_X10_isSheet
set_option maxRecDepth 20000 in
theorem ggX10_cell_X10_isSort : GoodIn wsX10_cell wsX10_isSort := goodIn_r _ [15, 10, 11, 8, 12] (by decide +kernel) (by decide +kernel)
set_option maxRecDepth 20000 in
theorem gX10_cell_X10_isSort : GoodIn wsX10_cell (va_wsS RX10 133 yX10_isSort wsX10_isSort) := goodIn_app (goodIn_of _ (by decide +kernel)) ggX10_cell_X10_isSort
set_option maxRecDepth 20000 in
theorem ggX10_cell_X10_lost : GoodIn wsX10_cell wsX10_lost := goodIn_r _ [19, 1, 2, 20, 21, 22, 23, 24, 25, 26, 27, 28, 29, 30, 31, 32, 33, 34, 35, 36, 37, 38, 39, 40, 41, 42, 43, 44, 45, 46, 47, 48, 49, 50, 51, 52] (by decide +kernel) (by decide +kernel)
set_option maxRecDepth 20000 in
theorem gX10_cell_X10_lost : GoodIn wsX10_cell (wsV RX10 281 RX10 yX10_lost wsX10_lost) := goodIn_app (goodIn_of _ (by decide +kernel)) ggX10_cell_X10_lost
set_option maxRecDepth 20000 in
theorem ggX10_cell_X10_within : GoodIn wsX10_cell wsX10_within := goodIn_r _ [12] (by decide +kernel) (by decide +kernel)
set_option maxRecDepth 20000 in
theorem gX10_cell_X10_within : GoodIn wsX10_cell (va_wsS RX10 81 yX10_within wsX10_within) := goodIn_app (goodIn_of _ (by decide +kernel)) ggX10_cell_X10_within
theorem dX10_cell_0 : decode cX10_cell 0 = .ok (.aload_n 0, 1) := by decide +kernel
theorem dX10_cell_1 : decode cX10_cell 1 = .ok (.iconst 0, 1) := by decide +kernel
theorem dX10_cell_2 : decode cX10_cell 2 = .ok (.putfield 71, 3) := by decide +kernel
theorem dX10_cell_5 : decode cX10_cell 5 = .ok (.iload_n 1, 1) := by decide +kernel
theorem dX10_cell_6 : decode cX10_cell 6 = .ok (.invokestatic 130, 3) := by decide +kernel
theorem dX10_cell_9 : decode cX10_cell 9 = .ok (.ifCond .eq 10, 3) := by decide +kernel
theorem dX10_cell_12 : decode cX10_cell 12 = .ok (.iload_n 3, 1) := by decide +kernel
theorem dX10_cell_13 : decode cX10_cell 13 = .ok (.invokestatic 133, 3) := by decide +kernel
theorem dX10_cell_16 : decode cX10_cell 16 = .ok (.ifCond .ne 7, 3) := by decide +kernel
theorem dX10_cell_19 : decode cX10_cell 19 = .ok (.ldc2_w 75, 3) := by decide +kernel
theorem dX10_cell_22 : decode cX10_cell 22 = .ok (.lreturn, 1) := by decide +kernel
theorem dX10_cell_23 : decode cX10_cell 23 = .ok (.aload_n 0, 1) := by decide +kernel
theorem dX10_cell_24 : decode cX10_cell 24 = .ok (.getfield 9, 3) := by decide +kernel
theorem dX10_cell_27 : decode cX10_cell 27 = .ok (.iload_n 1, 1) := by decide +kernel
theorem dX10_cell_28 : decode cX10_cell 28 = .ok (.iaload, 1) := by decide +kernel
theorem dX10_cell_29 : decode cX10_cell 29 = .ok (.bipush (-9), 2) := by decide +kernel
theorem dX10_cell_31 : decode cX10_cell 31 = .ok (.if_icmp .eq 19, 3) := by decide +kernel
theorem dX10_cell_34 : decode cX10_cell 34 = .ok (.aload_n 0, 1) := by decide +kernel
theorem dX10_cell_35 : decode cX10_cell 35 = .ok (.getfield 9, 3) := by decide +kernel
theorem dX10_cell_38 : decode cX10_cell 38 = .ok (.iload_n 1, 1) := by decide +kernel
theorem dX10_cell_39 : decode cX10_cell 39 = .ok (.iaload, 1) := by decide +kernel
theorem dX10_cell_40 : decode cX10_cell 40 = .ok (.iload_n 3, 1) := by decide +kernel
theorem dX10_cell_41 : decode cX10_cell 41 = .ok (.if_icmp .eq 9, 3) := by decide +kernel
theorem dX10_cell_44 : decode cX10_cell 44 = .ok (.aload_n 0, 1) := by decide +kernel
theorem dX10_cell_45 : decode cX10_cell 45 = .ok (.iconst 2, 1) := by decide +kernel
theorem dX10_cell_46 : decode cX10_cell 46 = .ok (.invokevirtual 281, 3) := by decide +kernel
theorem dX10_cell_49 : decode cX10_cell 49 = .ok (.lreturn, 1) := by decide +kernel
theorem dX10_cell_50 : decode cX10_cell 50 = .ok (.aload_n 0, 1) := by decide +kernel
theorem dX10_cell_51 : decode cX10_cell 51 = .ok (.getfield 9, 3) := by decide +kernel
theorem dX10_cell_54 : decode cX10_cell 54 = .ok (.iload_n 1, 1) := by decide +kernel
theorem dX10_cell_55 : decode cX10_cell 55 = .ok (.iaload, 1) := by decide +kernel
theorem dX10_cell_56 : decode cX10_cell 56 = .ok (.bipush (-9), 2) := by decide +kernel
theorem dX10_cell_58 : decode cX10_cell 58 = .ok (.if_icmp .ne 9, 3) := by decide +kernel
theorem dX10_cell_61 : decode cX10_cell 61 = .ok (.aload_n 0, 1) := by decide +kernel
theorem dX10_cell_62 : decode cX10_cell 62 = .ok (.iconst 1, 1) := by decide +kernel
theorem dX10_cell_63 : decode cX10_cell 63 = .ok (.invokevirtual 281, 3) := by decide +kernel
theorem dX10_cell_66 : decode cX10_cell 66 = .ok (.lreturn, 1) := by decide +kernel
theorem dX10_cell_67 : decode cX10_cell 67 = .ok (.iload_n 2, 1) := by decide +kernel
theorem dX10_cell_68 : decode cX10_cell 68 = .ok (.iconst 0, 1) := by decide +kernel
theorem dX10_cell_69 : decode cX10_cell 69 = .ok (.aload_n 0, 1) := by decide +kernel
theorem dX10_cell_70 : decode cX10_cell 70 = .ok (.getfield 13, 3) := by decide +kernel
theorem dX10_cell_73 : decode cX10_cell 73 = .ok (.iload_n 1, 1) := by decide +kernel
theorem dX10_cell_74 : decode cX10_cell 74 = .ok (.iaload, 1) := by decide +kernel
theorem dX10_cell_75 : decode cX10_cell 75 = .ok (.iconst 1, 1) := by decide +kernel
theorem dX10_cell_76 : decode cX10_cell 76 = .ok (.isub, 1) := by decide +kernel
theorem dX10_cell_77 : decode cX10_cell 77 = .ok (.invokestatic 81, 3) := by decide +kernel
theorem dX10_cell_80 : decode cX10_cell 80 = .ok (.ifCond .ne 9, 3) := by decide +kernel
theorem dX10_cell_83 : decode cX10_cell 83 = .ok (.aload_n 0, 1) := by decide +kernel
theorem dX10_cell_84 : decode cX10_cell 84 = .ok (.iconst 3, 1) := by decide +kernel
theorem dX10_cell_85 : decode cX10_cell 85 = .ok (.invokevirtual 281, 3) := by decide +kernel
theorem dX10_cell_88 : decode cX10_cell 88 = .ok (.lreturn, 1) := by decide +kernel
theorem dX10_cell_89 : decode cX10_cell 89 = .ok (.aload_n 0, 1) := by decide +kernel
theorem dX10_cell_90 : decode cX10_cell 90 = .ok (.getfield 16, 3) := by decide +kernel
theorem dX10_cell_93 : decode cX10_cell 93 = .ok (.bipush 80, 2) := by decide +kernel
theorem dX10_cell_95 : decode cX10_cell 95 = .ok (.iload_n 1, 1) := by decide +kernel
theorem dX10_cell_96 : decode cX10_cell 96 = .ok (.imul, 1) := by decide +kernel
theorem dX10_cell_97 : decode cX10_cell 97 = .ok (.iload_n 2, 1) := by decide +kernel
theorem dX10_cell_98 : decode cX10_cell 98 = .ok (.iadd, 1) := by decide +kernel
theorem dX10_cell_99 : decode cX10_cell 99 = .ok (.iaload, 1) := by decide +kernel
theorem dX10_cell_100 : decode cX10_cell 100 = .ok (.i2l, 1) := by decide +kernel
theorem dX10_cell_101 : decode cX10_cell 101 = .ok (.lreturn, 1) := by decide +kernel
set_option maxRecDepth 20000 in
theorem ggX10_copy_X10_isSheet : GoodIn wsX10_copy wsX10_isSheet := goodIn_r _ [8, 9, 10, 7, 11] (by decide +kernel) (by decide +kernel)
set_option maxRecDepth 20000 in
theorem gX10_copy_X10_isSheet : GoodIn wsX10_copy (va_wsS RX10 130 yX10_isSheet wsX10_isSheet) := goodIn_app (goodIn_of _ (by decide +kernel)) ggX10_copy_X10_isSheet
set_option maxRecDepth 20000 in
theorem ggX10_copy_X10_fails : GoodIn wsX10_copy wsX10_fails := goodIn_r _ [15, 1, 16, 17, 18, 19, 20, 21, 22, 23, 24, 25, 26, 27, 28, 29, 30, 31, 32, 33, 34, 35, 36, 37, 38, 39, 40, 41, 42, 43, 44, 45, 46, 47, 48] (by decide +kernel) (by decide +kernel)
set_option maxRecDepth 20000 in
theorem gX10_copy_X10_fails : GoodIn wsX10_copy (wsV RX10 140 RX10 yX10_fails wsX10_fails) := goodIn_app (goodIn_of _ (by decide +kernel)) ggX10_copy_X10_fails
theorem dX10_copy_0 : decode cX10_copy 0 = .ok (.aload_n 0, 1) := by decide +kernel
theorem dX10_copy_1 : decode cX10_copy 1 = .ok (.iconst 0, 1) := by decide +kernel
theorem dX10_copy_2 : decode cX10_copy 2 = .ok (.putfield 71, 3) := by decide +kernel
theorem dX10_copy_5 : decode cX10_copy 5 = .ok (.iload_n 1, 1) := by decide +kernel
theorem dX10_copy_6 : decode cX10_copy 6 = .ok (.invokestatic 130, 3) := by decide +kernel
theorem dX10_copy_9 : decode cX10_copy 9 = .ok (.ifCond .eq 10, 3) := by decide +kernel
theorem dX10_copy_12 : decode cX10_copy 12 = .ok (.iload_n 3, 1) := by decide +kernel
theorem dX10_copy_13 : decode cX10_copy 13 = .ok (.invokestatic 130, 3) := by decide +kernel
theorem dX10_copy_16 : decode cX10_copy 16 = .ok (.ifCond .ne 5, 3) := by decide +kernel
theorem dX10_copy_19 : decode cX10_copy 19 = .ok (.iconst (-1), 1) := by decide +kernel
theorem dX10_copy_20 : decode cX10_copy 20 = .ok (.ireturn, 1) := by decide +kernel
theorem dX10_copy_21 : decode cX10_copy 21 = .ok (.aload_n 0, 1) := by decide +kernel
theorem dX10_copy_22 : decode cX10_copy 22 = .ok (.getfield 9, 3) := by decide +kernel
theorem dX10_copy_25 : decode cX10_copy 25 = .ok (.iload_n 1, 1) := by decide +kernel
theorem dX10_copy_26 : decode cX10_copy 26 = .ok (.iaload, 1) := by decide +kernel
theorem dX10_copy_27 : decode cX10_copy 27 = .ok (.bipush (-9), 2) := by decide +kernel
theorem dX10_copy_29 : decode cX10_copy 29 = .ok (.if_icmp .eq 14, 3) := by decide +kernel
theorem dX10_copy_32 : decode cX10_copy 32 = .ok (.aload_n 0, 1) := by decide +kernel
theorem dX10_copy_33 : decode cX10_copy 33 = .ok (.getfield 9, 3) := by decide +kernel
theorem dX10_copy_36 : decode cX10_copy 36 = .ok (.iload_n 3, 1) := by decide +kernel
theorem dX10_copy_37 : decode cX10_copy 37 = .ok (.iaload, 1) := by decide +kernel
theorem dX10_copy_38 : decode cX10_copy 38 = .ok (.bipush (-9), 2) := by decide +kernel
theorem dX10_copy_40 : decode cX10_copy 40 = .ok (.if_icmp .ne 9, 3) := by decide +kernel
theorem dX10_copy_43 : decode cX10_copy 43 = .ok (.aload_n 0, 1) := by decide +kernel
theorem dX10_copy_44 : decode cX10_copy 44 = .ok (.iconst 1, 1) := by decide +kernel
theorem dX10_copy_45 : decode cX10_copy 45 = .ok (.invokevirtual 140, 3) := by decide +kernel
theorem dX10_copy_48 : decode cX10_copy 48 = .ok (.ireturn, 1) := by decide +kernel
theorem dX10_copy_49 : decode cX10_copy 49 = .ok (.aload_n 0, 1) := by decide +kernel
theorem dX10_copy_50 : decode cX10_copy 50 = .ok (.getfield 9, 3) := by decide +kernel
theorem dX10_copy_53 : decode cX10_copy 53 = .ok (.iload_n 1, 1) := by decide +kernel
theorem dX10_copy_54 : decode cX10_copy 54 = .ok (.iaload, 1) := by decide +kernel
theorem dX10_copy_55 : decode cX10_copy 55 = .ok (.aload_n 0, 1) := by decide +kernel
theorem dX10_copy_56 : decode cX10_copy 56 = .ok (.getfield 9, 3) := by decide +kernel
theorem dX10_copy_59 : decode cX10_copy 59 = .ok (.iload_n 3, 1) := by decide +kernel
theorem dX10_copy_60 : decode cX10_copy 60 = .ok (.iaload, 1) := by decide +kernel
theorem dX10_copy_61 : decode cX10_copy 61 = .ok (.if_icmp .eq 9, 3) := by decide +kernel
theorem dX10_copy_64 : decode cX10_copy 64 = .ok (.aload_n 0, 1) := by decide +kernel
theorem dX10_copy_65 : decode cX10_copy 65 = .ok (.iconst 2, 1) := by decide +kernel
theorem dX10_copy_66 : decode cX10_copy 66 = .ok (.invokevirtual 140, 3) := by decide +kernel
theorem dX10_copy_69 : decode cX10_copy 69 = .ok (.ireturn, 1) := by decide +kernel
theorem dX10_copy_70 : decode cX10_copy 70 = .ok (.iload_n 2, 1) := by decide +kernel
theorem dX10_copy_71 : decode cX10_copy 71 = .ok (.ifCond .lt 38, 3) := by decide +kernel
theorem dX10_copy_74 : decode cX10_copy 74 = .ok (.iload 4, 2) := by decide +kernel
theorem dX10_copy_76 : decode cX10_copy 76 = .ok (.ifCond .lt 33, 3) := by decide +kernel
theorem dX10_copy_79 : decode cX10_copy 79 = .ok (.iload 5, 2) := by decide +kernel
theorem dX10_copy_81 : decode cX10_copy 81 = .ok (.ifCond .lt 28, 3) := by decide +kernel
theorem dX10_copy_84 : decode cX10_copy 84 = .ok (.iload_n 2, 1) := by decide +kernel
theorem dX10_copy_85 : decode cX10_copy 85 = .ok (.aload_n 0, 1) := by decide +kernel
theorem dX10_copy_86 : decode cX10_copy 86 = .ok (.getfield 13, 3) := by decide +kernel
theorem dX10_copy_89 : decode cX10_copy 89 = .ok (.iload_n 1, 1) := by decide +kernel
theorem dX10_copy_90 : decode cX10_copy 90 = .ok (.iaload, 1) := by decide +kernel
theorem dX10_copy_91 : decode cX10_copy 91 = .ok (.if_icmp .gt 18, 3) := by decide +kernel
theorem dX10_copy_94 : decode cX10_copy 94 = .ok (.iload 4, 2) := by decide +kernel
theorem dX10_copy_96 : decode cX10_copy 96 = .ok (.aload_n 0, 1) := by decide +kernel
theorem dX10_copy_97 : decode cX10_copy 97 = .ok (.getfield 13, 3) := by decide +kernel
theorem dX10_copy_100 : decode cX10_copy 100 = .ok (.iload_n 3, 1) := by decide +kernel
theorem dX10_copy_101 : decode cX10_copy 101 = .ok (.iaload, 1) := by decide +kernel
theorem dX10_copy_102 : decode cX10_copy 102 = .ok (.if_icmp .gt 7, 3) := by decide +kernel
theorem dX10_copy_105 : decode cX10_copy 105 = .ok (.iconst 1, 1) := by decide +kernel
theorem dX10_copy_106 : decode cX10_copy 106 = .ok (.goto 4, 3) := by decide +kernel
theorem dX10_copy_109 : decode cX10_copy 109 = .ok (.iconst 0, 1) := by decide +kernel
theorem dX10_copy_110 : decode cX10_copy 110 = .ok (.istore 6, 2) := by decide +kernel
theorem dX10_copy_112 : decode cX10_copy 112 = .ok (.iload 6, 2) := by decide +kernel
theorem dX10_copy_114 : decode cX10_copy 114 = .ok (.ifCond .eq 30, 3) := by decide +kernel
theorem dX10_copy_117 : decode cX10_copy 117 = .ok (.iload 5, 2) := by decide +kernel
theorem dX10_copy_119 : decode cX10_copy 119 = .ok (.aload_n 0, 1) := by decide +kernel
theorem dX10_copy_120 : decode cX10_copy 120 = .ok (.getfield 13, 3) := by decide +kernel
theorem dX10_copy_123 : decode cX10_copy 123 = .ok (.iload_n 1, 1) := by decide +kernel
theorem dX10_copy_124 : decode cX10_copy 124 = .ok (.iaload, 1) := by decide +kernel
theorem dX10_copy_125 : decode cX10_copy 125 = .ok (.iload_n 2, 1) := by decide +kernel
theorem dX10_copy_126 : decode cX10_copy 126 = .ok (.isub, 1) := by decide +kernel
theorem dX10_copy_127 : decode cX10_copy 127 = .ok (.if_icmp .gt 17, 3) := by decide +kernel
theorem dX10_copy_130 : decode cX10_copy 130 = .ok (.iload 5, 2) := by decide +kernel
theorem dX10_copy_132 : decode cX10_copy 132 = .ok (.aload_n 0, 1) := by decide +kernel
theorem dX10_copy_133 : decode cX10_copy 133 = .ok (.getfield 13, 3) := by decide +kernel
theorem dX10_copy_136 : decode cX10_copy 136 = .ok (.iload_n 3, 1) := by decide +kernel
theorem dX10_copy_137 : decode cX10_copy 137 = .ok (.iaload, 1) := by decide +kernel
theorem dX10_copy_138 : decode cX10_copy 138 = .ok (.iload 4, 2) := by decide +kernel
theorem dX10_copy_140 : decode cX10_copy 140 = .ok (.isub, 1) := by decide +kernel
theorem dX10_copy_141 : decode cX10_copy 141 = .ok (.if_icmp .le 9, 3) := by decide +kernel
theorem dX10_copy_144 : decode cX10_copy 144 = .ok (.aload_n 0, 1) := by decide +kernel
theorem dX10_copy_145 : decode cX10_copy 145 = .ok (.iconst 3, 1) := by decide +kernel
theorem dX10_copy_146 : decode cX10_copy 146 = .ok (.invokevirtual 140, 3) := by decide +kernel
theorem dX10_copy_149 : decode cX10_copy 149 = .ok (.ireturn, 1) := by decide +kernel
theorem dX10_copy_150 : decode cX10_copy 150 = .ok (.iload_n 2, 1) := by decide +kernel
theorem dX10_copy_151 : decode cX10_copy 151 = .ok (.iload 4, 2) := by decide +kernel
theorem dX10_copy_153 : decode cX10_copy 153 = .ok (.if_icmp .ge 7, 3) := by decide +kernel
theorem dX10_copy_156 : decode cX10_copy 156 = .ok (.iconst 1, 1) := by decide +kernel
theorem dX10_copy_157 : decode cX10_copy 157 = .ok (.goto 4, 3) := by decide +kernel
theorem dX10_copy_160 : decode cX10_copy 160 = .ok (.iconst 0, 1) := by decide +kernel
theorem dX10_copy_161 : decode cX10_copy 161 = .ok (.istore 7, 2) := by decide +kernel
theorem dX10_copy_163 : decode cX10_copy 163 = .ok (.iconst 0, 1) := by decide +kernel
theorem dX10_copy_164 : decode cX10_copy 164 = .ok (.istore 8, 2) := by decide +kernel
theorem dX10_copy_166 : decode cX10_copy 166 = .ok (.iload 8, 2) := by decide +kernel
theorem dX10_copy_168 : decode cX10_copy 168 = .ok (.iload 5, 2) := by decide +kernel
theorem dX10_copy_170 : decode cX10_copy 170 = .ok (.if_icmp .ge 57, 3) := by decide +kernel
theorem dX10_copy_173 : decode cX10_copy 173 = .ok (.iload 7, 2) := by decide +kernel
theorem dX10_copy_175 : decode cX10_copy 175 = .ok (.ifCond .eq 13, 3) := by decide +kernel
theorem dX10_copy_178 : decode cX10_copy 178 = .ok (.iload 5, 2) := by decide +kernel
theorem dX10_copy_180 : decode cX10_copy 180 = .ok (.iconst 1, 1) := by decide +kernel
theorem dX10_copy_181 : decode cX10_copy 181 = .ok (.isub, 1) := by decide +kernel
theorem dX10_copy_182 : decode cX10_copy 182 = .ok (.iload 8, 2) := by decide +kernel
theorem dX10_copy_184 : decode cX10_copy 184 = .ok (.isub, 1) := by decide +kernel
theorem dX10_copy_185 : decode cX10_copy 185 = .ok (.goto 5, 3) := by decide +kernel
theorem dX10_copy_188 : decode cX10_copy 188 = .ok (.iload 8, 2) := by decide +kernel
theorem dX10_copy_190 : decode cX10_copy 190 = .ok (.istore 9, 2) := by decide +kernel
theorem dX10_copy_192 : decode cX10_copy 192 = .ok (.aload_n 0, 1) := by decide +kernel
theorem dX10_copy_193 : decode cX10_copy 193 = .ok (.getfield 16, 3) := by decide +kernel
theorem dX10_copy_196 : decode cX10_copy 196 = .ok (.bipush 80, 2) := by decide +kernel
theorem dX10_copy_198 : decode cX10_copy 198 = .ok (.iload_n 3, 1) := by decide +kernel
theorem dX10_copy_199 : decode cX10_copy 199 = .ok (.imul, 1) := by decide +kernel
theorem dX10_copy_200 : decode cX10_copy 200 = .ok (.iload 4, 2) := by decide +kernel
theorem dX10_copy_202 : decode cX10_copy 202 = .ok (.iadd, 1) := by decide +kernel
theorem dX10_copy_203 : decode cX10_copy 203 = .ok (.iload 9, 2) := by decide +kernel
theorem dX10_copy_205 : decode cX10_copy 205 = .ok (.iadd, 1) := by decide +kernel
theorem dX10_copy_206 : decode cX10_copy 206 = .ok (.aload_n 0, 1) := by decide +kernel
theorem dX10_copy_207 : decode cX10_copy 207 = .ok (.getfield 16, 3) := by decide +kernel
theorem dX10_copy_210 : decode cX10_copy 210 = .ok (.bipush 80, 2) := by decide +kernel
theorem dX10_copy_212 : decode cX10_copy 212 = .ok (.iload_n 1, 1) := by decide +kernel
theorem dX10_copy_213 : decode cX10_copy 213 = .ok (.imul, 1) := by decide +kernel
theorem dX10_copy_214 : decode cX10_copy 214 = .ok (.iload_n 2, 1) := by decide +kernel
theorem dX10_copy_215 : decode cX10_copy 215 = .ok (.iadd, 1) := by decide +kernel
theorem dX10_copy_216 : decode cX10_copy 216 = .ok (.iload 9, 2) := by decide +kernel
theorem dX10_copy_218 : decode cX10_copy 218 = .ok (.iadd, 1) := by decide +kernel
theorem dX10_copy_219 : decode cX10_copy 219 = .ok (.iaload, 1) := by decide +kernel
theorem dX10_copy_220 : decode cX10_copy 220 = .ok (.iastore, 1) := by decide +kernel
theorem dX10_copy_221 : decode cX10_copy 221 = .ok (.iinc 8 1, 3) := by decide +kernel
theorem dX10_copy_224 : decode cX10_copy 224 = .ok (.goto (-58), 3) := by decide +kernel
theorem dX10_copy_227 : decode cX10_copy 227 = .ok (.iload 5, 2) := by decide +kernel
theorem dX10_copy_229 : decode cX10_copy 229 = .ok (.ireturn, 1) := by decide +kernel
theorem dX10_begins_0 : decode cX10_begins 0 = .ok (.aload_n 0, 1) := by decide +kernel
theorem dX10_begins_1 : decode cX10_begins 1 = .ok (.bipush 31, 2) := by decide +kernel
theorem dX10_begins_3 : decode cX10_begins 3 = .ok (.aload_n 0, 1) := by decide +kernel
theorem dX10_begins_4 : decode cX10_begins 4 = .ok (.getfield 288, 3) := by decide +kernel
theorem dX10_begins_7 : decode cX10_begins 7 = .ok (.imul, 1) := by decide +kernel
theorem dX10_begins_8 : decode cX10_begins 8 = .ok (.iload_n 1, 1) := by decide +kernel
theorem dX10_begins_9 : decode cX10_begins 9 = .ok (.iadd, 1) := by decide +kernel
theorem dX10_begins_10 : decode cX10_begins 10 = .ok (.putfield 288, 3) := by decide +kernel
theorem dX10_begins_13 : decode cX10_begins 13 = .ok (.return_, 1) := by decide +kernel
set_option maxRecDepth 20000 in
theorem ggX10_tell_X10_isKnife : GoodIn wsX10_tell wsX10_isKnife := goodIn_r _ [7, 8, 14, 15, 16, 17, 18, 19, 20, 21, 22, 23, 24, 25, 26, 27, 28, 29, 30, 31, 32, 33, 34, 35, 36, 37, 38, 39, 40, 41, 42, 43, 44, 45, 46] (by decide +kernel) (by decide +kernel)
set_option maxRecDepth 20000 in
theorem gX10_tell_X10_isKnife : GoodIn wsX10_tell (wsV RX10 88 RX10 yX10_isKnife wsX10_isKnife) := goodIn_app (goodIn_of _ (by decide +kernel)) ggX10_tell_X10_isKnife
set_option maxRecDepth 20000 in
theorem ggX10_tell_X10_begins : GoodIn wsX10_tell wsX10_begins := goodIn_r _ [12, 13, 14, 15, 16, 17, 18, 19, 20, 21, 22, 23, 24, 25, 26, 27, 28, 29, 30, 31, 32, 33, 34, 35, 36, 37, 38, 39, 40, 41, 42, 43, 44, 45, 46] (by decide +kernel) (by decide +kernel)
set_option maxRecDepth 20000 in
theorem gX10_tell_X10_begins : GoodIn wsX10_tell (wsV RX10 291 RX10 yX10_begins wsX10_begins) := goodIn_app (goodIn_of _ (by decide +kernel)) ggX10_tell_X10_begins
theorem dX10_tell_0 : decode cX10_tell 0 = .ok (.aload_n 0, 1) := by decide +kernel
theorem dX10_tell_1 : decode cX10_tell 1 = .ok (.iload_n 1, 1) := by decide +kernel
theorem dX10_tell_2 : decode cX10_tell 2 = .ok (.invokevirtual 88, 3) := by decide +kernel
theorem dX10_tell_5 : decode cX10_tell 5 = .ok (.ifCond .ne 5, 3) := by decide +kernel
theorem dX10_tell_8 : decode cX10_tell 8 = .ok (.iconst (-1), 1) := by decide +kernel
theorem dX10_tell_9 : decode cX10_tell 9 = .ok (.ireturn, 1) := by decide +kernel
theorem dX10_tell_10 : decode cX10_tell 10 = .ok (.aload_n 0, 1) := by decide +kernel
theorem dX10_tell_11 : decode cX10_tell 11 = .ok (.getfield 22, 3) := by decide +kernel
theorem dX10_tell_14 : decode cX10_tell 14 = .ok (.iload_n 1, 1) := by decide +kernel
theorem dX10_tell_15 : decode cX10_tell 15 = .ok (.iaload, 1) := by decide +kernel
theorem dX10_tell_16 : decode cX10_tell 16 = .ok (.istore_n 2, 1) := by decide +kernel
theorem dX10_tell_17 : decode cX10_tell 17 = .ok (.aload_n 0, 1) := by decide +kernel
theorem dX10_tell_18 : decode cX10_tell 18 = .ok (.getfield 19, 3) := by decide +kernel
theorem dX10_tell_21 : decode cX10_tell 21 = .ok (.iload_n 1, 1) := by decide +kernel
theorem dX10_tell_22 : decode cX10_tell 22 = .ok (.iaload, 1) := by decide +kernel
theorem dX10_tell_23 : decode cX10_tell 23 = .ok (.lookupswitch 67 #[(1, 25), (2, 40)], 25) := by decide +kernel
theorem dX10_tell_48 : decode cX10_tell 48 = .ok (.aload_n 0, 1) := by decide +kernel
theorem dX10_tell_49 : decode cX10_tell 49 = .ok (.iconst 2, 1) := by decide +kernel
theorem dX10_tell_50 : decode cX10_tell 50 = .ok (.invokevirtual 291, 3) := by decide +kernel
theorem dX10_tell_53 : decode cX10_tell 53 = .ok (.aload_n 0, 1) := by decide +kernel
theorem dX10_tell_54 : decode cX10_tell 54 = .ok (.iconst 1, 1) := by decide +kernel
theorem dX10_tell_55 : decode cX10_tell 55 = .ok (.invokevirtual 291, 3) := by decide +kernel
theorem dX10_tell_58 : decode cX10_tell 58 = .ok (.iload_n 2, 1) := by decide +kernel
theorem dX10_tell_59 : decode cX10_tell 59 = .ok (.bipush 100, 2) := by decide +kernel
theorem dX10_tell_61 : decode cX10_tell 61 = .ok (.iadd, 1) := by decide +kernel
theorem dX10_tell_62 : decode cX10_tell 62 = .ok (.ireturn, 1) := by decide +kernel
theorem dX10_tell_63 : decode cX10_tell 63 = .ok (.aload_n 0, 1) := by decide +kernel
theorem dX10_tell_64 : decode cX10_tell 64 = .ok (.iconst 3, 1) := by decide +kernel
theorem dX10_tell_65 : decode cX10_tell 65 = .ok (.invokevirtual 291, 3) := by decide +kernel
theorem dX10_tell_68 : decode cX10_tell 68 = .ok (.aload_n 0, 1) := by decide +kernel
theorem dX10_tell_69 : decode cX10_tell 69 = .ok (.iconst 2, 1) := by decide +kernel
theorem dX10_tell_70 : decode cX10_tell 70 = .ok (.invokevirtual 291, 3) := by decide +kernel
theorem dX10_tell_73 : decode cX10_tell 73 = .ok (.aload_n 0, 1) := by decide +kernel
theorem dX10_tell_74 : decode cX10_tell 74 = .ok (.iconst 1, 1) := by decide +kernel
theorem dX10_tell_75 : decode cX10_tell 75 = .ok (.invokevirtual 291, 3) := by decide +kernel
theorem dX10_tell_78 : decode cX10_tell 78 = .ok (.aload_n 0, 1) := by decide +kernel
theorem dX10_tell_79 : decode cX10_tell 79 = .ok (.iconst 1, 1) := by decide +kernel
theorem dX10_tell_80 : decode cX10_tell 80 = .ok (.invokevirtual 291, 3) := by decide +kernel
theorem dX10_tell_83 : decode cX10_tell 83 = .ok (.iconst 2, 1) := by decide +kernel
theorem dX10_tell_84 : decode cX10_tell 84 = .ok (.iload_n 2, 1) := by decide +kernel
theorem dX10_tell_85 : decode cX10_tell 85 = .ok (.imul, 1) := by decide +kernel
theorem dX10_tell_86 : decode cX10_tell 86 = .ok (.bipush 100, 2) := by decide +kernel
theorem dX10_tell_88 : decode cX10_tell 88 = .ok (.iadd, 1) := by decide +kernel
theorem dX10_tell_89 : decode cX10_tell 89 = .ok (.ireturn, 1) := by decide +kernel
theorem dX10_tell_90 : decode cX10_tell 90 = .ok (.aload_n 0, 1) := by decide +kernel
theorem dX10_tell_91 : decode cX10_tell 91 = .ok (.iconst 1, 1) := by decide +kernel
theorem dX10_tell_92 : decode cX10_tell 92 = .ok (.invokevirtual 291, 3) := by decide +kernel
theorem dX10_tell_95 : decode cX10_tell 95 = .ok (.iload_n 2, 1) := by decide +kernel
theorem dX10_tell_96 : decode cX10_tell 96 = .ok (.ireturn, 1) := by decide +kernel
set_option maxRecDepth 20000 in
theorem ggX10_whet_X10_isKnife : GoodIn wsX10_whet wsX10_isKnife := goodIn_r _ [6, 7, 13, 14, 15, 16, 17, 18, 19, 20, 21, 22, 23, 24, 25, 26, 27, 28, 29, 30, 31, 32, 33, 34, 35, 36, 37, 38, 39, 40, 41, 42, 43, 44, 45] (by decide +kernel) (by decide +kernel)
set_option maxRecDepth 20000 in
theorem gX10_whet_X10_isKnife : GoodIn wsX10_whet (wsV RX10 88 RX10 yX10_isKnife wsX10_isKnife) := goodIn_app (goodIn_of _ (by decide +kernel)) ggX10_whet_X10_isKnife
set_option maxRecDepth 20000 in
theorem ggX10_whet_X10_begins : GoodIn wsX10_whet wsX10_begins := goodIn_r _ [11, 12, 13, 14, 15, 16, 17, 18, 19, 20, 21, 22, 23, 24, 25, 26, 27, 28, 29, 30, 31, 32, 33, 34, 35, 36, 37, 38, 39, 40, 41, 42, 43, 44, 45] (by decide +kernel) (by decide +kernel)
set_option maxRecDepth 20000 in
theorem gX10_whet_X10_begins : GoodIn wsX10_whet (wsV RX10 291 RX10 yX10_begins wsX10_begins) := goodIn_app (goodIn_of _ (by decide +kernel)) ggX10_whet_X10_begins
theorem dX10_whet_0 : decode cX10_whet 0 = .ok (.aload_n 0, 1) := by decide +kernel
theorem dX10_whet_1 : decode cX10_whet 1 = .ok (.iload_n 1, 1) := by decide +kernel
theorem dX10_whet_2 : decode cX10_whet 2 = .ok (.invokevirtual 88, 3) := by decide +kernel
theorem dX10_whet_5 : decode cX10_whet 5 = .ok (.ifCond .ne 5, 3) := by decide +kernel
theorem dX10_whet_8 : decode cX10_whet 8 = .ok (.iconst (-1), 1) := by decide +kernel
theorem dX10_whet_9 : decode cX10_whet 9 = .ok (.ireturn, 1) := by decide +kernel
theorem dX10_whet_10 : decode cX10_whet 10 = .ok (.aload_n 0, 1) := by decide +kernel
theorem dX10_whet_11 : decode cX10_whet 11 = .ok (.aload_n 0, 1) := by decide +kernel
theorem dX10_whet_12 : decode cX10_whet 12 = .ok (.getfield 19, 3) := by decide +kernel
theorem dX10_whet_15 : decode cX10_whet 15 = .ok (.iload_n 1, 1) := by decide +kernel
theorem dX10_whet_16 : decode cX10_whet 16 = .ok (.iaload, 1) := by decide +kernel
theorem dX10_whet_17 : decode cX10_whet 17 = .ok (.iconst 2, 1) := by decide +kernel
theorem dX10_whet_18 : decode cX10_whet 18 = .ok (.if_icmp .ne 7, 3) := by decide +kernel
theorem dX10_whet_21 : decode cX10_whet 21 = .ok (.iconst 5, 1) := by decide +kernel
theorem dX10_whet_22 : decode cX10_whet 22 = .ok (.goto 4, 3) := by decide +kernel
theorem dX10_whet_25 : decode cX10_whet 25 = .ok (.iconst 4, 1) := by decide +kernel
theorem dX10_whet_26 : decode cX10_whet 26 = .ok (.invokevirtual 291, 3) := by decide +kernel
theorem dX10_whet_29 : decode cX10_whet 29 = .ok (.aload_n 0, 1) := by decide +kernel
theorem dX10_whet_30 : decode cX10_whet 30 = .ok (.getfield 19, 3) := by decide +kernel
theorem dX10_whet_33 : decode cX10_whet 33 = .ok (.iload_n 1, 1) := by decide +kernel
theorem dX10_whet_34 : decode cX10_whet 34 = .ok (.iaload, 1) := by decide +kernel
theorem dX10_whet_35 : decode cX10_whet 35 = .ok (.iconst 2, 1) := by decide +kernel
theorem dX10_whet_36 : decode cX10_whet 36 = .ok (.if_icmp .ne 8, 3) := by decide +kernel
theorem dX10_whet_39 : decode cX10_whet 39 = .ok (.bipush 20, 2) := by decide +kernel
theorem dX10_whet_41 : decode cX10_whet 41 = .ok (.goto 4, 3) := by decide +kernel
theorem dX10_whet_44 : decode cX10_whet 44 = .ok (.iload_n 1, 1) := by decide +kernel
theorem dX10_whet_45 : decode cX10_whet 45 = .ok (.ireturn, 1) := by decide +kernel
set_option maxRecDepth 20000 in
theorem ggX10_as_X10_isKnife : GoodIn wsX10_as wsX10_isKnife := goodIn_r _ [7, 8, 16, 17, 18, 19, 20, 21, 22, 23, 24, 25, 26, 27, 28, 29, 30, 31, 32, 33, 34, 35, 36, 37, 38, 39, 40, 41, 42, 43, 44, 45, 46, 47, 48] (by decide +kernel) (by decide +kernel)
set_option maxRecDepth 20000 in
theorem gX10_as_X10_isKnife : GoodIn wsX10_as (wsV RX10 88 RX10 yX10_isKnife wsX10_isKnife) := goodIn_app (goodIn_of _ (by decide +kernel)) ggX10_as_X10_isKnife
set_option maxRecDepth 20000 in
theorem ggX10_as_X10_within : GoodIn wsX10_as wsX10_within := goodIn_r _ [11] (by decide +kernel) (by decide +kernel)
set_option maxRecDepth 20000 in
theorem gX10_as_X10_within : GoodIn wsX10_as (va_wsS RX10 81 yX10_within wsX10_within) := goodIn_app (goodIn_of _ (by decide +kernel)) ggX10_as_X10_within
set_option maxRecDepth 20000 in
theorem ggX10_as_X10_fails : GoodIn wsX10_as wsX10_fails := goodIn_r _ [15, 1, 16, 17, 18, 19, 20, 21, 22, 23, 24, 25, 26, 27, 28, 29, 30, 31, 32, 33, 34, 35, 36, 37, 38, 39, 40, 41, 42, 43, 44, 45, 46, 47, 48] (by decide +kernel) (by decide +kernel)
set_option maxRecDepth 20000 in
theorem gX10_as_X10_fails : GoodIn wsX10_as (wsV RX10 140 RX10 yX10_fails wsX10_fails) := goodIn_app (goodIn_of _ (by decide +kernel)) ggX10_as_X10_fails
theorem dX10_as_0 : decode cX10_as 0 = .ok (.aload_n 0, 1) := by decide +kernel
theorem dX10_as_1 : decode cX10_as 1 = .ok (.iconst 0, 1) := by decide +kernel
theorem dX10_as_2 : decode cX10_as 2 = .ok (.putfield 71, 3) := by decide +kernel
theorem dX10_as_5 : decode cX10_as 5 = .ok (.aload_n 0, 1) := by decide +kernel
theorem dX10_as_6 : decode cX10_as 6 = .ok (.iload_n 1, 1) := by decide +kernel
theorem dX10_as_7 : decode cX10_as 7 = .ok (.invokevirtual 88, 3) := by decide +kernel
theorem dX10_as_10 : decode cX10_as 10 = .ok (.ifCond .ne 5, 3) := by decide +kernel
theorem dX10_as_13 : decode cX10_as 13 = .ok (.iconst (-1), 1) := by decide +kernel
theorem dX10_as_14 : decode cX10_as 14 = .ok (.ireturn, 1) := by decide +kernel
theorem dX10_as_15 : decode cX10_as 15 = .ok (.iload_n 2, 1) := by decide +kernel
theorem dX10_as_16 : decode cX10_as 16 = .ok (.iconst 0, 1) := by decide +kernel
theorem dX10_as_17 : decode cX10_as 17 = .ok (.iconst 2, 1) := by decide +kernel
theorem dX10_as_18 : decode cX10_as 18 = .ok (.invokestatic 81, 3) := by decide +kernel
theorem dX10_as_21 : decode cX10_as 21 = .ok (.ifCond .ne 6, 3) := by decide +kernel
theorem dX10_as_24 : decode cX10_as 24 = .ok (.bipush (-2), 2) := by decide +kernel
theorem dX10_as_26 : decode cX10_as 26 = .ok (.ireturn, 1) := by decide +kernel
theorem dX10_as_27 : decode cX10_as 27 = .ok (.aload_n 0, 1) := by decide +kernel
theorem dX10_as_28 : decode cX10_as 28 = .ok (.getfield 19, 3) := by decide +kernel
theorem dX10_as_31 : decode cX10_as 31 = .ok (.iload_n 1, 1) := by decide +kernel
theorem dX10_as_32 : decode cX10_as 32 = .ok (.iaload, 1) := by decide +kernel
theorem dX10_as_33 : decode cX10_as 33 = .ok (.iload_n 2, 1) := by decide +kernel
theorem dX10_as_34 : decode cX10_as 34 = .ok (.if_icmp .lt 7, 3) := by decide +kernel
theorem dX10_as_37 : decode cX10_as 37 = .ok (.iconst 1, 1) := by decide +kernel
theorem dX10_as_38 : decode cX10_as 38 = .ok (.goto 8, 3) := by decide +kernel
theorem dX10_as_41 : decode cX10_as 41 = .ok (.aload_n 0, 1) := by decide +kernel
theorem dX10_as_42 : decode cX10_as 42 = .ok (.iconst 2, 1) := by decide +kernel
theorem dX10_as_43 : decode cX10_as 43 = .ok (.invokevirtual 140, 3) := by decide +kernel
theorem dX10_as_46 : decode cX10_as 46 = .ok (.ireturn, 1) := by decide +kernel
theorem dX10_trace_0 : decode cX10_trace 0 = .ok (.aload_n 0, 1) := by decide +kernel
theorem dX10_trace_1 : decode cX10_trace 1 = .ok (.getfield 288, 3) := by decide +kernel
theorem dX10_trace_4 : decode cX10_trace 4 = .ok (.ireturn, 1) := by decide +kernel
theorem dX10_fault_0 : decode cX10_fault 0 = .ok (.aload_n 0, 1) := by decide +kernel
theorem dX10_fault_1 : decode cX10_fault 1 = .ok (.getfield 71, 3) := by decide +kernel
theorem dX10_fault_4 : decode cX10_fault 4 = .ok (.ireturn, 1) := by decide +kernel
theorem dX10_many_0 : decode cX10_many 0 = .ok (.iload_n 1, 1) := by decide +kernel
theorem dX10_many_1 : decode cX10_many 1 = .ok (.tableswitch 74 0 5 #[39, 44, 54, 59, 64, 69], 39) := by decide +kernel
theorem dX10_many_40 : decode cX10_many 40 = .ok (.aload_n 0, 1) := by decide +kernel
theorem dX10_many_41 : decode cX10_many 41 = .ok (.getfield 85, 3) := by decide +kernel
theorem dX10_many_44 : decode cX10_many 44 = .ok (.ireturn, 1) := by decide +kernel
theorem dX10_many_45 : decode cX10_many 45 = .ok (.aload_n 0, 1) := by decide +kernel
theorem dX10_many_46 : decode cX10_many 46 = .ok (.getfield 182, 3) := by decide +kernel
theorem dX10_many_49 : decode cX10_many 49 = .ok (.aload_n 0, 1) := by decide +kernel
theorem dX10_many_50 : decode cX10_many 50 = .ok (.getfield 185, 3) := by decide +kernel
theorem dX10_many_53 : decode cX10_many 53 = .ok (.imul, 1) := by decide +kernel
theorem dX10_many_54 : decode cX10_many 54 = .ok (.ireturn, 1) := by decide +kernel
theorem dX10_many_55 : decode cX10_many 55 = .ok (.aload_n 0, 1) := by decide +kernel
theorem dX10_many_56 : decode cX10_many 56 = .ok (.getfield 182, 3) := by decide +kernel
theorem dX10_many_59 : decode cX10_many 59 = .ok (.ireturn, 1) := by decide +kernel
theorem dX10_many_60 : decode cX10_many 60 = .ok (.aload_n 0, 1) := by decide +kernel
theorem dX10_many_61 : decode cX10_many 61 = .ok (.getfield 185, 3) := by decide +kernel
theorem dX10_many_64 : decode cX10_many 64 = .ok (.ireturn, 1) := by decide +kernel
theorem dX10_many_65 : decode cX10_many 65 = .ok (.aload_n 0, 1) := by decide +kernel
theorem dX10_many_66 : decode cX10_many 66 = .ok (.getfield 269, 3) := by decide +kernel
theorem dX10_many_69 : decode cX10_many 69 = .ok (.ireturn, 1) := by decide +kernel
theorem dX10_many_70 : decode cX10_many 70 = .ok (.aload_n 0, 1) := by decide +kernel
theorem dX10_many_71 : decode cX10_many 71 = .ok (.getfield 153, 3) := by decide +kernel
theorem dX10_many_74 : decode cX10_many 74 = .ok (.ireturn, 1) := by decide +kernel
theorem dX10_many_75 : decode cX10_many 75 = .ok (.bipush (-2), 2) := by decide +kernel
theorem dX10_many_77 : decode cX10_many 77 = .ok (.ireturn, 1) := by decide +kernel
theorem dJ6_bitCount_0f7a4_0 : decode cJ6_bitCount_0f7a4 0 = .ok (.iload_n 0, 1) := by decide +kernel
theorem dJ6_bitCount_0f7a4_1 : decode cJ6_bitCount_0f7a4 1 = .ok (.iload_n 0, 1) := by decide +kernel
theorem dJ6_bitCount_0f7a4_2 : decode cJ6_bitCount_0f7a4 2 = .ok (.iconst 1, 1) := by decide +kernel
theorem dJ6_bitCount_0f7a4_3 : decode cJ6_bitCount_0f7a4 3 = .ok (.iushr, 1) := by decide +kernel
theorem dJ6_bitCount_0f7a4_4 : decode cJ6_bitCount_0f7a4 4 = .ok (.ldc_w 265, 3) := by decide +kernel
theorem dJ6_bitCount_0f7a4_7 : decode cJ6_bitCount_0f7a4 7 = .ok (.iand, 1) := by decide +kernel
theorem dJ6_bitCount_0f7a4_8 : decode cJ6_bitCount_0f7a4 8 = .ok (.isub, 1) := by decide +kernel
theorem dJ6_bitCount_0f7a4_9 : decode cJ6_bitCount_0f7a4 9 = .ok (.istore_n 0, 1) := by decide +kernel
theorem dJ6_bitCount_0f7a4_10 : decode cJ6_bitCount_0f7a4 10 = .ok (.iload_n 0, 1) := by decide +kernel
theorem dJ6_bitCount_0f7a4_11 : decode cJ6_bitCount_0f7a4 11 = .ok (.ldc_w 266, 3) := by decide +kernel
theorem dJ6_bitCount_0f7a4_14 : decode cJ6_bitCount_0f7a4 14 = .ok (.iand, 1) := by decide +kernel
theorem dJ6_bitCount_0f7a4_15 : decode cJ6_bitCount_0f7a4 15 = .ok (.iload_n 0, 1) := by decide +kernel
theorem dJ6_bitCount_0f7a4_16 : decode cJ6_bitCount_0f7a4 16 = .ok (.iconst 2, 1) := by decide +kernel
theorem dJ6_bitCount_0f7a4_17 : decode cJ6_bitCount_0f7a4 17 = .ok (.iushr, 1) := by decide +kernel
theorem dJ6_bitCount_0f7a4_18 : decode cJ6_bitCount_0f7a4 18 = .ok (.ldc_w 266, 3) := by decide +kernel
theorem dJ6_bitCount_0f7a4_21 : decode cJ6_bitCount_0f7a4 21 = .ok (.iand, 1) := by decide +kernel
theorem dJ6_bitCount_0f7a4_22 : decode cJ6_bitCount_0f7a4 22 = .ok (.iadd, 1) := by decide +kernel
theorem dJ6_bitCount_0f7a4_23 : decode cJ6_bitCount_0f7a4 23 = .ok (.istore_n 0, 1) := by decide +kernel
theorem dJ6_bitCount_0f7a4_24 : decode cJ6_bitCount_0f7a4 24 = .ok (.iload_n 0, 1) := by decide +kernel
theorem dJ6_bitCount_0f7a4_25 : decode cJ6_bitCount_0f7a4 25 = .ok (.iload_n 0, 1) := by decide +kernel
theorem dJ6_bitCount_0f7a4_26 : decode cJ6_bitCount_0f7a4 26 = .ok (.iconst 4, 1) := by decide +kernel
theorem dJ6_bitCount_0f7a4_27 : decode cJ6_bitCount_0f7a4 27 = .ok (.iushr, 1) := by decide +kernel
theorem dJ6_bitCount_0f7a4_28 : decode cJ6_bitCount_0f7a4 28 = .ok (.iadd, 1) := by decide +kernel
theorem dJ6_bitCount_0f7a4_29 : decode cJ6_bitCount_0f7a4 29 = .ok (.ldc_w 267, 3) := by decide +kernel
theorem dJ6_bitCount_0f7a4_32 : decode cJ6_bitCount_0f7a4 32 = .ok (.iand, 1) := by decide +kernel
theorem dJ6_bitCount_0f7a4_33 : decode cJ6_bitCount_0f7a4 33 = .ok (.istore_n 0, 1) := by decide +kernel
theorem dJ6_bitCount_0f7a4_34 : decode cJ6_bitCount_0f7a4 34 = .ok (.iload_n 0, 1) := by decide +kernel
theorem dJ6_bitCount_0f7a4_35 : decode cJ6_bitCount_0f7a4 35 = .ok (.iload_n 0, 1) := by decide +kernel
theorem dJ6_bitCount_0f7a4_36 : decode cJ6_bitCount_0f7a4 36 = .ok (.bipush 8, 2) := by decide +kernel
theorem dJ6_bitCount_0f7a4_38 : decode cJ6_bitCount_0f7a4 38 = .ok (.iushr, 1) := by decide +kernel
theorem dJ6_bitCount_0f7a4_39 : decode cJ6_bitCount_0f7a4 39 = .ok (.iadd, 1) := by decide +kernel
theorem dJ6_bitCount_0f7a4_40 : decode cJ6_bitCount_0f7a4 40 = .ok (.istore_n 0, 1) := by decide +kernel
theorem dJ6_bitCount_0f7a4_41 : decode cJ6_bitCount_0f7a4 41 = .ok (.iload_n 0, 1) := by decide +kernel
theorem dJ6_bitCount_0f7a4_42 : decode cJ6_bitCount_0f7a4 42 = .ok (.iload_n 0, 1) := by decide +kernel
theorem dJ6_bitCount_0f7a4_43 : decode cJ6_bitCount_0f7a4 43 = .ok (.bipush 16, 2) := by decide +kernel
theorem dJ6_bitCount_0f7a4_45 : decode cJ6_bitCount_0f7a4 45 = .ok (.iushr, 1) := by decide +kernel
theorem dJ6_bitCount_0f7a4_46 : decode cJ6_bitCount_0f7a4 46 = .ok (.iadd, 1) := by decide +kernel
theorem dJ6_bitCount_0f7a4_47 : decode cJ6_bitCount_0f7a4 47 = .ok (.istore_n 0, 1) := by decide +kernel
theorem dJ6_bitCount_0f7a4_48 : decode cJ6_bitCount_0f7a4 48 = .ok (.iload_n 0, 1) := by decide +kernel
theorem dJ6_bitCount_0f7a4_49 : decode cJ6_bitCount_0f7a4 49 = .ok (.bipush 63, 2) := by decide +kernel
theorem dJ6_bitCount_0f7a4_51 : decode cJ6_bitCount_0f7a4 51 = .ok (.iand, 1) := by decide +kernel
theorem dJ6_bitCount_0f7a4_52 : decode cJ6_bitCount_0f7a4 52 = .ok (.ireturn, 1) := by decide +kernel
theorem dJ9_floorMod_7cf53_0 : decode cJ9_floorMod_7cf53 0 = .ok (.iload_n 0, 1) := by decide +kernel
theorem dJ9_floorMod_7cf53_1 : decode cJ9_floorMod_7cf53 1 = .ok (.iload_n 1, 1) := by decide +kernel
theorem dJ9_floorMod_7cf53_2 : decode cJ9_floorMod_7cf53 2 = .ok (.irem, 1) := by decide +kernel
theorem dJ9_floorMod_7cf53_3 : decode cJ9_floorMod_7cf53 3 = .ok (.istore_n 2, 1) := by decide +kernel
theorem dJ9_floorMod_7cf53_4 : decode cJ9_floorMod_7cf53 4 = .ok (.iload_n 0, 1) := by decide +kernel
theorem dJ9_floorMod_7cf53_5 : decode cJ9_floorMod_7cf53 5 = .ok (.iload_n 1, 1) := by decide +kernel
theorem dJ9_floorMod_7cf53_6 : decode cJ9_floorMod_7cf53 6 = .ok (.ixor, 1) := by decide +kernel
theorem dJ9_floorMod_7cf53_7 : decode cJ9_floorMod_7cf53 7 = .ok (.ifCond .ge 11, 3) := by decide +kernel
theorem dJ9_floorMod_7cf53_10 : decode cJ9_floorMod_7cf53 10 = .ok (.iload_n 2, 1) := by decide +kernel
theorem dJ9_floorMod_7cf53_11 : decode cJ9_floorMod_7cf53 11 = .ok (.ifCond .eq 7, 3) := by decide +kernel
theorem dJ9_floorMod_7cf53_14 : decode cJ9_floorMod_7cf53 14 = .ok (.iload_n 2, 1) := by decide +kernel
theorem dJ9_floorMod_7cf53_15 : decode cJ9_floorMod_7cf53 15 = .ok (.iload_n 1, 1) := by decide +kernel
theorem dJ9_floorMod_7cf53_16 : decode cJ9_floorMod_7cf53 16 = .ok (.iadd, 1) := by decide +kernel
theorem dJ9_floorMod_7cf53_17 : decode cJ9_floorMod_7cf53 17 = .ok (.ireturn, 1) := by decide +kernel
theorem dJ9_floorMod_7cf53_18 : decode cJ9_floorMod_7cf53 18 = .ok (.iload_n 2, 1) := by decide +kernel
theorem dJ9_floorMod_7cf53_19 : decode cJ9_floorMod_7cf53 19 = .ok (.ireturn, 1) := by decide +kernel
theorem dJ9_abs_0f7a4_0 : decode cJ9_abs_0f7a4 0 = .ok (.iload_n 0, 1) := by decide +kernel
theorem dJ9_abs_0f7a4_1 : decode cJ9_abs_0f7a4 1 = .ok (.ifCond .ge 8, 3) := by decide +kernel
theorem dJ9_abs_0f7a4_4 : decode cJ9_abs_0f7a4 4 = .ok (.iload_n 0, 1) := by decide +kernel
theorem dJ9_abs_0f7a4_5 : decode cJ9_abs_0f7a4 5 = .ok (.ineg, 1) := by decide +kernel
theorem dJ9_abs_0f7a4_6 : decode cJ9_abs_0f7a4 6 = .ok (.goto 4, 3) := by decide +kernel
theorem dJ9_abs_0f7a4_9 : decode cJ9_abs_0f7a4 9 = .ok (.iload_n 0, 1) := by decide +kernel
theorem dJ9_abs_0f7a4_10 : decode cJ9_abs_0f7a4 10 = .ok (.ireturn, 1) := by decide +kernel
theorem dJ9_abs_067f4_0 : decode cJ9_abs_067f4 0 = .ok (.lload_n 0, 1) := by decide +kernel
theorem dJ9_abs_067f4_1 : decode cJ9_abs_067f4 1 = .ok (.lconst 0, 1) := by decide +kernel
theorem dJ9_abs_067f4_2 : decode cJ9_abs_067f4 2 = .ok (.lcmp, 1) := by decide +kernel
theorem dJ9_abs_067f4_3 : decode cJ9_abs_067f4 3 = .ok (.ifCond .ge 8, 3) := by decide +kernel
theorem dJ9_abs_067f4_6 : decode cJ9_abs_067f4 6 = .ok (.lload_n 0, 1) := by decide +kernel
theorem dJ9_abs_067f4_7 : decode cJ9_abs_067f4 7 = .ok (.lneg, 1) := by decide +kernel
theorem dJ9_abs_067f4_8 : decode cJ9_abs_067f4 8 = .ok (.goto 4, 3) := by decide +kernel
theorem dJ9_abs_067f4_11 : decode cJ9_abs_067f4 11 = .ok (.lload_n 0, 1) := by decide +kernel
theorem dJ9_abs_067f4_12 : decode cJ9_abs_067f4 12 = .ok (.lreturn, 1) := by decide +kernel
theorem dJ9_max_7cf53_0 : decode cJ9_max_7cf53 0 = .ok (.iload_n 0, 1) := by decide +kernel
theorem dJ9_max_7cf53_1 : decode cJ9_max_7cf53 1 = .ok (.iload_n 1, 1) := by decide +kernel
theorem dJ9_max_7cf53_2 : decode cJ9_max_7cf53 2 = .ok (.if_icmp .lt 7, 3) := by decide +kernel
theorem dJ9_max_7cf53_5 : decode cJ9_max_7cf53 5 = .ok (.iload_n 0, 1) := by decide +kernel
theorem dJ9_max_7cf53_6 : decode cJ9_max_7cf53 6 = .ok (.goto 4, 3) := by decide +kernel
theorem dJ9_max_7cf53_9 : decode cJ9_max_7cf53 9 = .ok (.iload_n 1, 1) := by decide +kernel
theorem dJ9_max_7cf53_10 : decode cJ9_max_7cf53 10 = .ok (.ireturn, 1) := by decide +kernel
theorem dJ9_min_7cf53_0 : decode cJ9_min_7cf53 0 = .ok (.iload_n 0, 1) := by decide +kernel
theorem dJ9_min_7cf53_1 : decode cJ9_min_7cf53 1 = .ok (.iload_n 1, 1) := by decide +kernel
theorem dJ9_min_7cf53_2 : decode cJ9_min_7cf53 2 = .ok (.if_icmp .gt 7, 3) := by decide +kernel
theorem dJ9_min_7cf53_5 : decode cJ9_min_7cf53 5 = .ok (.iload_n 0, 1) := by decide +kernel
theorem dJ9_min_7cf53_6 : decode cJ9_min_7cf53 6 = .ok (.goto 4, 3) := by decide +kernel
theorem dJ9_min_7cf53_9 : decode cJ9_min_7cf53 9 = .ok (.iload_n 1, 1) := by decide +kernel
theorem dJ9_min_7cf53_10 : decode cJ9_min_7cf53 10 = .ok (.ireturn, 1) := by decide +kernel
