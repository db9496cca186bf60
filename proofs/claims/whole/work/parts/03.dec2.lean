theorem dX9_when_160 : decode cX9_when 160 = .ok (.iload 5, 2) := by decide +kernel
theorem dX9_when_162 : decode cX9_when 162 = .ok (.irem, 1) := by decide +kernel
theorem dX9_when_163 : decode cX9_when 163 = .ok (.iload 6, 2) := by decide +kernel
theorem dX9_when_165 : decode cX9_when 165 = .ok (.if_icmp .ge 7, 3) := by decide +kernel
theorem dX9_when_168 : decode cX9_when 168 = .ok (.iconst 1, 1) := by decide +kernel
theorem dX9_when_169 : decode cX9_when 169 = .ok (.goto 4, 3) := by decide +kernel
theorem dX9_when_172 : decode cX9_when 172 = .ok (.iconst 0, 1) := by decide +kernel
theorem dX9_when_173 : decode cX9_when 173 = .ok (.istore 13, 2) := by decide +kernel
theorem dX9_when_175 : decode cX9_when 175 = .ok (.aload_n 0, 1) := by decide +kernel
theorem dX9_when_176 : decode cX9_when 176 = .ok (.getfield 60, 3) := by decide +kernel
theorem dX9_when_179 : decode cX9_when 179 = .ok (.iload 12, 2) := by decide +kernel
theorem dX9_when_181 : decode cX9_when 181 = .ok (.iload 4, 2) := by decide +kernel
theorem dX9_when_183 : decode cX9_when 183 = .ok (.idiv, 1) := by decide +kernel
theorem dX9_when_184 : decode cX9_when 184 = .ok (.iconst 4, 1) := by decide +kernel
theorem dX9_when_185 : decode cX9_when 185 = .ok (.irem, 1) := by decide +kernel
theorem dX9_when_186 : decode cX9_when 186 = .ok (.iconst 2, 1) := by decide +kernel
theorem dX9_when_187 : decode cX9_when 187 = .ok (.imul, 1) := by decide +kernel
theorem dX9_when_188 : decode cX9_when 188 = .ok (.iload 13, 2) := by decide +kernel
theorem dX9_when_190 : decode cX9_when 190 = .ok (.iadd, 1) := by decide +kernel
theorem dX9_when_191 : decode cX9_when 191 = .ok (.baload, 1) := by decide +kernel
theorem dX9_when_192 : decode cX9_when 192 = .ok (.ifCond .eq 6, 3) := by decide +kernel
theorem dX9_when_195 : decode cX9_when 195 = .ok (.iload 11, 2) := by decide +kernel
theorem dX9_when_197 : decode cX9_when 197 = .ok (.ireturn, 1) := by decide +kernel
theorem dX9_when_198 : decode cX9_when 198 = .ok (.iinc 11 1, 3) := by decide +kernel
theorem dX9_when_201 : decode cX9_when 201 = .ok (.goto (-61), 3) := by decide +kernel
theorem dX9_when_204 : decode cX9_when 204 = .ok (.bipush (-9), 2) := by decide +kernel
theorem dX9_when_206 : decode cX9_when 206 = .ok (.ireturn, 1) := by decide +kernel
set_option maxRecDepth 20000 in
theorem ggX9_mark_X9_within : GoodIn wsX9_mark wsX9_within := goodIn_r _ [6] (by decide +kernel) (by decide +kernel)
set_option maxRecDepth 20000 in
theorem gX9_mark_X9_within : GoodIn wsX9_mark (va_wsS RX9 74 yX9_within wsX9_within) := goodIn_app (goodIn_of _ (by decide +kernel)) ggX9_mark_X9_within
set_option maxRecDepth 20000 in
theorem ggX9_mark_X4_add : GoodIn wsX9_mark wsX4_add := goodIn_r _ [11, 12, 13, 14, 4, 5, 6, 26, 27, 28, 29, 30, 31, 32] (by decide +kernel) (by decide +kernel)
set_option maxRecDepth 20000 in
theorem gX9_mark_X4_add : GoodIn wsX9_mark (wsV RX9 242 RX4 yX4_add wsX4_add) := goodIn_app (goodIn_of _ (by decide +kernel)) ggX9_mark_X4_add
theorem dX9_mark_0 : decode cX9_mark 0 = .ok (.iload_n 1, 1) := by decide +kernel
theorem dX9_mark_1 : decode cX9_mark 1 = .ok (.iconst 1, 1) := by decide +kernel
theorem dX9_mark_2 : decode cX9_mark 2 = .ok (.bipush 40, 2) := by decide +kernel
theorem dX9_mark_4 : decode cX9_mark 4 = .ok (.invokestatic 74, 3) := by decide +kernel
theorem dX9_mark_7 : decode cX9_mark 7 = .ok (.ifCond .eq 12, 3) := by decide +kernel
theorem dX9_mark_10 : decode cX9_mark 10 = .ok (.iload_n 2, 1) := by decide +kernel
theorem dX9_mark_11 : decode cX9_mark 11 = .ok (.iconst 0, 1) := by decide +kernel
theorem dX9_mark_12 : decode cX9_mark 12 = .ok (.iconst 3, 1) := by decide +kernel
theorem dX9_mark_13 : decode cX9_mark 13 = .ok (.invokestatic 74, 3) := by decide +kernel
theorem dX9_mark_16 : decode cX9_mark 16 = .ok (.ifCond .ne 6, 3) := by decide +kernel
theorem dX9_mark_19 : decode cX9_mark 19 = .ok (.bipush (-2), 2) := by decide +kernel
theorem dX9_mark_21 : decode cX9_mark 21 = .ok (.ireturn, 1) := by decide +kernel
theorem dX9_mark_22 : decode cX9_mark 22 = .ok (.aload_n 0, 1) := by decide +kernel
theorem dX9_mark_23 : decode cX9_mark 23 = .ok (.getfield 45, 3) := by decide +kernel
theorem dX9_mark_26 : decode cX9_mark 26 = .ok (.getfield 240, 3) := by decide +kernel
theorem dX9_mark_29 : decode cX9_mark 29 = .ok (.bipush 10, 2) := by decide +kernel
theorem dX9_mark_31 : decode cX9_mark 31 = .ok (.if_icmp .lt 6, 3) := by decide +kernel
theorem dX9_mark_34 : decode cX9_mark 34 = .ok (.bipush (-4), 2) := by decide +kernel
theorem dX9_mark_36 : decode cX9_mark 36 = .ok (.ireturn, 1) := by decide +kernel
theorem dX9_mark_37 : decode cX9_mark 37 = .ok (.aload_n 0, 1) := by decide +kernel
theorem dX9_mark_38 : decode cX9_mark 38 = .ok (.getfield 45, 3) := by decide +kernel
theorem dX9_mark_41 : decode cX9_mark 41 = .ok (.iload_n 1, 1) := by decide +kernel
theorem dX9_mark_42 : decode cX9_mark 42 = .ok (.iload_n 2, 1) := by decide +kernel
theorem dX9_mark_43 : decode cX9_mark 43 = .ok (.invokevirtual 242, 3) := by decide +kernel
theorem dX9_mark_46 : decode cX9_mark 46 = .ok (.aload_n 0, 1) := by decide +kernel
theorem dX9_mark_47 : decode cX9_mark 47 = .ok (.getfield 45, 3) := by decide +kernel
theorem dX9_mark_50 : decode cX9_mark 50 = .ok (.getfield 240, 3) := by decide +kernel
theorem dX9_mark_53 : decode cX9_mark 53 = .ok (.iconst 1, 1) := by decide +kernel
theorem dX9_mark_54 : decode cX9_mark 54 = .ok (.isub, 1) := by decide +kernel
theorem dX9_mark_55 : decode cX9_mark 55 = .ok (.ireturn, 1) := by decide +kernel
set_option maxRecDepth 20000 in
theorem ggX9_back_X9_within : GoodIn wsX9_back wsX9_within := goodIn_r _ [6] (by decide +kernel) (by decide +kernel)
set_option maxRecDepth 20000 in
theorem gX9_back_X9_within : GoodIn wsX9_back (va_wsS RX9 74 yX9_within wsX9_within) := goodIn_app (goodIn_of _ (by decide +kernel)) ggX9_back_X9_within
theorem dX9_back_0 : decode cX9_back 0 = .ok (.iload_n 1, 1) := by decide +kernel
theorem dX9_back_1 : decode cX9_back 1 = .ok (.iconst 0, 1) := by decide +kernel
theorem dX9_back_2 : decode cX9_back 2 = .ok (.aload_n 0, 1) := by decide +kernel
theorem dX9_back_3 : decode cX9_back 3 = .ok (.getfield 45, 3) := by decide +kernel
theorem dX9_back_6 : decode cX9_back 6 = .ok (.getfield 240, 3) := by decide +kernel
theorem dX9_back_9 : decode cX9_back 9 = .ok (.invokestatic 74, 3) := by decide +kernel
theorem dX9_back_12 : decode cX9_back 12 = .ok (.ifCond .ne 6, 3) := by decide +kernel
theorem dX9_back_15 : decode cX9_back 15 = .ok (.bipush (-2), 2) := by decide +kernel
theorem dX9_back_17 : decode cX9_back 17 = .ok (.ireturn, 1) := by decide +kernel
theorem dX9_back_18 : decode cX9_back 18 = .ok (.aload_n 0, 1) := by decide +kernel
theorem dX9_back_19 : decode cX9_back 19 = .ok (.getfield 45, 3) := by decide +kernel
theorem dX9_back_22 : decode cX9_back 22 = .ok (.dup, 1) := by decide +kernel
theorem dX9_back_23 : decode cX9_back 23 = .ok (.getfield 240, 3) := by decide +kernel
theorem dX9_back_26 : decode cX9_back 26 = .ok (.iload_n 1, 1) := by decide +kernel
theorem dX9_back_27 : decode cX9_back 27 = .ok (.isub, 1) := by decide +kernel
theorem dX9_back_28 : decode cX9_back 28 = .ok (.putfield 240, 3) := by decide +kernel
theorem dX9_back_31 : decode cX9_back 31 = .ok (.aload_n 0, 1) := by decide +kernel
theorem dX9_back_32 : decode cX9_back 32 = .ok (.getfield 45, 3) := by decide +kernel
theorem dX9_back_35 : decode cX9_back 35 = .ok (.getfield 240, 3) := by decide +kernel
theorem dX9_back_38 : decode cX9_back 38 = .ok (.ireturn, 1) := by decide +kernel
set_option maxRecDepth 20000 in
theorem ggX9_guessed_X9_knifeAt : GoodIn wsX9_guessed wsX9_knifeAt := goodIn_r _ [7, 8, 9, 10, 11, 6, 12, 55, 56, 57, 58, 59, 60, 61, 62, 63, 64, 65] (by decide +kernel) (by decide +kernel)
set_option maxRecDepth 20000 in
theorem gX9_guessed_X9_knifeAt : GoodIn wsX9_guessed (wsV RX9 89 RX9 yX9_knifeAt wsX9_knifeAt) := goodIn_app (goodIn_of _ (by decide +kernel)) ggX9_guessed_X9_knifeAt
set_option maxRecDepth 20000 in
theorem ggX9_guessed_X9_within : GoodIn wsX9_guessed wsX9_within := goodIn_r _ [12] (by decide +kernel) (by decide +kernel)
set_option maxRecDepth 20000 in
theorem gX9_guessed_X9_within : GoodIn wsX9_guessed (va_wsS RX9 74 yX9_within wsX9_within) := goodIn_app (goodIn_of _ (by decide +kernel)) ggX9_guessed_X9_within
set_option maxRecDepth 20000 in
theorem ggX9_guessed_X4_seekThrown : GoodIn wsX9_guessed wsX4_seekThrown := goodIn_r _ [17, 18, 19, 20, 21, 22, 23, 16, 24, 25, 26, 27, 28, 29, 30, 31, 32, 33, 34, 35, 36, 37, 38, 39, 40, 41, 42, 43, 44, 45, 46, 47, 48, 49, 50, 66, 67, 68, 69, 70, 71, 72, 73, 74, 75, 76, 77, 78, 79, 80, 81, 82, 83, 84, 85, 86, 87, 88, 89, 90] (by decide +kernel) (by decide +kernel)
set_option maxRecDepth 20000 in
theorem gX9_guessed_X4_seekThrown : GoodIn wsX9_guessed (wsV RX9 245 RX4 yX4_seekThrown wsX4_seekThrown) := goodIn_app (goodIn_of _ (by decide +kernel)) ggX9_guessed_X4_seekThrown
set_option maxRecDepth 20000 in
theorem ggX9_guessed_X4_firstThrown : GoodIn wsX9_guessed wsX4_firstThrown := goodIn_r _ [54, 18, 19, 20, 66, 67, 68, 69, 70, 71, 72] (by decide +kernel) (by decide +kernel)
set_option maxRecDepth 20000 in
theorem gX9_guessed_X4_firstThrown : GoodIn wsX9_guessed (wsV RX9 252 RX4 yX4_firstThrown wsX4_firstThrown) := goodIn_app (goodIn_of _ (by decide +kernel)) ggX9_guessed_X4_firstThrown
theorem dX9_guessed_0 : decode cX9_guessed 0 = .ok (.aload_n 0, 1) := by decide +kernel
theorem dX9_guessed_1 : decode cX9_guessed 1 = .ok (.iload_n 1, 1) := by decide +kernel
theorem dX9_guessed_2 : decode cX9_guessed 2 = .ok (.invokevirtual 89, 3) := by decide +kernel
theorem dX9_guessed_5 : decode cX9_guessed 5 = .ok (.astore_n 3, 1) := by decide +kernel
theorem dX9_guessed_6 : decode cX9_guessed 6 = .ok (.aload_n 3, 1) := by decide +kernel
theorem dX9_guessed_7 : decode cX9_guessed 7 = .ok (.ifnonnull 5, 3) := by decide +kernel
theorem dX9_guessed_10 : decode cX9_guessed 10 = .ok (.iconst (-1), 1) := by decide +kernel
theorem dX9_guessed_11 : decode cX9_guessed 11 = .ok (.ireturn, 1) := by decide +kernel
theorem dX9_guessed_12 : decode cX9_guessed 12 = .ok (.iload_n 2, 1) := by decide +kernel
theorem dX9_guessed_13 : decode cX9_guessed 13 = .ok (.iconst 0, 1) := by decide +kernel
theorem dX9_guessed_14 : decode cX9_guessed 14 = .ok (.iconst 1, 1) := by decide +kernel
theorem dX9_guessed_15 : decode cX9_guessed 15 = .ok (.invokestatic 74, 3) := by decide +kernel
theorem dX9_guessed_18 : decode cX9_guessed 18 = .ok (.ifCond .ne 6, 3) := by decide +kernel
theorem dX9_guessed_21 : decode cX9_guessed 21 = .ok (.bipush (-2), 2) := by decide +kernel
theorem dX9_guessed_23 : decode cX9_guessed 23 = .ok (.ireturn, 1) := by decide +kernel
theorem dX9_guessed_24 : decode cX9_guessed 24 = .ok (.aload_n 0, 1) := by decide +kernel
theorem dX9_guessed_25 : decode cX9_guessed 25 = .ok (.getfield 45, 3) := by decide +kernel
theorem dX9_guessed_28 : decode cX9_guessed 28 = .ok (.aload_n 3, 1) := by decide +kernel
theorem dX9_guessed_29 : decode cX9_guessed 29 = .ok (.invokevirtual 245, 3) := by decide +kernel
theorem dX9_guessed_32 : decode cX9_guessed 32 = .ok (.iload_n 2, 1) := by decide +kernel
theorem dX9_guessed_33 : decode cX9_guessed 33 = .ok (.ifCond .ne 13, 3) := by decide +kernel
theorem dX9_guessed_36 : decode cX9_guessed 36 = .ok (.aload_n 0, 1) := by decide +kernel
theorem dX9_guessed_37 : decode cX9_guessed 37 = .ok (.getfield 45, 3) := by decide +kernel
theorem dX9_guessed_40 : decode cX9_guessed 40 = .ok (.getfield 249, 3) := by decide +kernel
theorem dX9_guessed_43 : decode cX9_guessed 43 = .ok (.goto 10, 3) := by decide +kernel
theorem dX9_guessed_46 : decode cX9_guessed 46 = .ok (.aload_n 0, 1) := by decide +kernel
theorem dX9_guessed_47 : decode cX9_guessed 47 = .ok (.getfield 45, 3) := by decide +kernel
theorem dX9_guessed_50 : decode cX9_guessed 50 = .ok (.invokevirtual 252, 3) := by decide +kernel
theorem dX9_guessed_53 : decode cX9_guessed 53 = .ok (.ireturn, 1) := by decide +kernel
set_option maxRecDepth 20000 in
theorem ggX9_tells_X9_knifeAt : GoodIn wsX9_tells wsX9_knifeAt := goodIn_r _ [7, 8, 9, 10, 11, 6, 12, 60, 61, 62, 63, 64, 65, 66, 67, 68, 69, 70] (by decide +kernel) (by decide +kernel)
set_option maxRecDepth 20000 in
theorem gX9_tells_X9_knifeAt : GoodIn wsX9_tells (wsV RX9 89 RX9 yX9_knifeAt wsX9_knifeAt) := goodIn_app (goodIn_of _ (by decide +kernel)) ggX9_tells_X9_knifeAt
set_option maxRecDepth 20000 in
theorem ggX9_tells_X9_within : GoodIn wsX9_tells wsX9_within := goodIn_r _ [12] (by decide +kernel) (by decide +kernel)
set_option maxRecDepth 20000 in
theorem gX9_tells_X9_within : GoodIn wsX9_tells (va_wsS RX9 74 yX9_within wsX9_within) := goodIn_app (goodIn_of _ (by decide +kernel)) ggX9_tells_X9_within
set_option maxRecDepth 20000 in
theorem ggX9_tells_X4_seekThrown : GoodIn wsX9_tells wsX4_seekThrown := goodIn_r _ [17, 18, 19, 20, 21, 22, 23, 16, 24, 25, 26, 27, 28, 29, 30, 31, 32, 33, 34, 35, 36, 37, 38, 39, 40, 41, 42, 43, 44, 45, 46, 47, 48, 49, 50, 71, 72, 73, 74, 75, 76, 77, 78, 79, 80, 81, 82, 83, 84, 85, 86, 87, 88, 89, 90, 91, 92, 93, 94, 95] (by decide +kernel) (by decide +kernel)
set_option maxRecDepth 20000 in
theorem gX9_tells_X4_seekThrown : GoodIn wsX9_tells (wsV RX9 245 RX4 yX4_seekThrown wsX4_seekThrown) := goodIn_app (goodIn_of _ (by decide +kernel)) ggX9_tells_X4_seekThrown
set_option maxRecDepth 20000 in
theorem ggX9_tells_X4_leftAtWorst : GoodIn wsX9_tells wsX4_leftAtWorst := goodIn_r _ [54, 55, 18, 19, 20, 56, 57, 58, 59, 28, 29, 30, 31, 32, 33, 34, 35, 36, 37, 38, 39, 40, 41, 42, 43, 44, 45, 46, 47, 48, 49, 50, 71, 72, 73, 74, 75, 76, 77, 78, 79, 80, 81, 82, 83, 84, 85, 86, 87, 88, 89, 90, 91, 92, 93, 94, 95] (by decide +kernel) (by decide +kernel)
set_option maxRecDepth 20000 in
theorem gX9_tells_X4_leftAtWorst : GoodIn wsX9_tells (wsV RX9 255 RX4 yX4_leftAtWorst wsX4_leftAtWorst) := goodIn_app (goodIn_of _ (by decide +kernel)) ggX9_tells_X4_leftAtWorst
theorem dX9_tells_0 : decode cX9_tells 0 = .ok (.aload_n 0, 1) := by decide +kernel
theorem dX9_tells_1 : decode cX9_tells 1 = .ok (.iload_n 1, 1) := by decide +kernel
theorem dX9_tells_2 : decode cX9_tells 2 = .ok (.invokevirtual 89, 3) := by decide +kernel
theorem dX9_tells_5 : decode cX9_tells 5 = .ok (.astore_n 3, 1) := by decide +kernel
theorem dX9_tells_6 : decode cX9_tells 6 = .ok (.aload_n 3, 1) := by decide +kernel
theorem dX9_tells_7 : decode cX9_tells 7 = .ok (.ifnonnull 5, 3) := by decide +kernel
theorem dX9_tells_10 : decode cX9_tells 10 = .ok (.iconst (-1), 1) := by decide +kernel
theorem dX9_tells_11 : decode cX9_tells 11 = .ok (.ireturn, 1) := by decide +kernel
theorem dX9_tells_12 : decode cX9_tells 12 = .ok (.iload_n 2, 1) := by decide +kernel
theorem dX9_tells_13 : decode cX9_tells 13 = .ok (.iconst 0, 1) := by decide +kernel
theorem dX9_tells_14 : decode cX9_tells 14 = .ok (.iconst 1, 1) := by decide +kernel
theorem dX9_tells_15 : decode cX9_tells 15 = .ok (.invokestatic 74, 3) := by decide +kernel
theorem dX9_tells_18 : decode cX9_tells 18 = .ok (.ifCond .ne 6, 3) := by decide +kernel
theorem dX9_tells_21 : decode cX9_tells 21 = .ok (.bipush (-2), 2) := by decide +kernel
theorem dX9_tells_23 : decode cX9_tells 23 = .ok (.ireturn, 1) := by decide +kernel
theorem dX9_tells_24 : decode cX9_tells 24 = .ok (.aload_n 0, 1) := by decide +kernel
theorem dX9_tells_25 : decode cX9_tells 25 = .ok (.getfield 45, 3) := by decide +kernel
theorem dX9_tells_28 : decode cX9_tells 28 = .ok (.aload_n 3, 1) := by decide +kernel
theorem dX9_tells_29 : decode cX9_tells 29 = .ok (.invokevirtual 245, 3) := by decide +kernel
theorem dX9_tells_32 : decode cX9_tells 32 = .ok (.aload_n 0, 1) := by decide +kernel
theorem dX9_tells_33 : decode cX9_tells 33 = .ok (.getfield 45, 3) := by decide +kernel
theorem dX9_tells_36 : decode cX9_tells 36 = .ok (.getfield 249, 3) := by decide +kernel
theorem dX9_tells_39 : decode cX9_tells 39 = .ok (.ifCond .ne 6, 3) := by decide +kernel
theorem dX9_tells_42 : decode cX9_tells 42 = .ok (.bipush (-9), 2) := by decide +kernel
theorem dX9_tells_44 : decode cX9_tells 44 = .ok (.ireturn, 1) := by decide +kernel
theorem dX9_tells_45 : decode cX9_tells 45 = .ok (.iconst 0, 1) := by decide +kernel
theorem dX9_tells_46 : decode cX9_tells 46 = .ok (.istore 4, 2) := by decide +kernel
theorem dX9_tells_48 : decode cX9_tells 48 = .ok (.sipush 577, 3) := by decide +kernel
theorem dX9_tells_51 : decode cX9_tells 51 = .ok (.istore 5, 2) := by decide +kernel
theorem dX9_tells_53 : decode cX9_tells 53 = .ok (.iconst 1, 1) := by decide +kernel
theorem dX9_tells_54 : decode cX9_tells 54 = .ok (.istore 6, 2) := by decide +kernel
theorem dX9_tells_56 : decode cX9_tells 56 = .ok (.iload 6, 2) := by decide +kernel
theorem dX9_tells_58 : decode cX9_tells 58 = .ok (.bipush 40, 2) := by decide +kernel
theorem dX9_tells_60 : decode cX9_tells 60 = .ok (.if_icmp .gt 36, 3) := by decide +kernel
theorem dX9_tells_63 : decode cX9_tells 63 = .ok (.aload_n 0, 1) := by decide +kernel
theorem dX9_tells_64 : decode cX9_tells 64 = .ok (.getfield 45, 3) := by decide +kernel
theorem dX9_tells_67 : decode cX9_tells 67 = .ok (.aload_n 3, 1) := by decide +kernel
theorem dX9_tells_68 : decode cX9_tells 68 = .ok (.iload 6, 2) := by decide +kernel
theorem dX9_tells_70 : decode cX9_tells 70 = .ok (.invokevirtual 255, 3) := by decide +kernel
theorem dX9_tells_73 : decode cX9_tells 73 = .ok (.istore 7, 2) := by decide +kernel
theorem dX9_tells_75 : decode cX9_tells 75 = .ok (.iload 7, 2) := by decide +kernel
theorem dX9_tells_77 : decode cX9_tells 77 = .ok (.iload 5, 2) := by decide +kernel
theorem dX9_tells_79 : decode cX9_tells 79 = .ok (.if_icmp .ge 11, 3) := by decide +kernel
theorem dX9_tells_82 : decode cX9_tells 82 = .ok (.iload 7, 2) := by decide +kernel
theorem dX9_tells_84 : decode cX9_tells 84 = .ok (.istore 5, 2) := by decide +kernel
theorem dX9_tells_86 : decode cX9_tells 86 = .ok (.iload 6, 2) := by decide +kernel
theorem dX9_tells_88 : decode cX9_tells 88 = .ok (.istore 4, 2) := by decide +kernel
theorem dX9_tells_90 : decode cX9_tells 90 = .ok (.iinc 6 1, 3) := by decide +kernel
theorem dX9_tells_93 : decode cX9_tells 93 = .ok (.goto (-37), 3) := by decide +kernel
theorem dX9_tells_96 : decode cX9_tells 96 = .ok (.iload_n 2, 1) := by decide +kernel
theorem dX9_tells_97 : decode cX9_tells 97 = .ok (.ifCond .ne 8, 3) := by decide +kernel
theorem dX9_tells_100 : decode cX9_tells 100 = .ok (.iload 4, 2) := by decide +kernel
theorem dX9_tells_102 : decode cX9_tells 102 = .ok (.goto 5, 3) := by decide +kernel
theorem dX9_tells_105 : decode cX9_tells 105 = .ok (.iload 5, 2) := by decide +kernel
theorem dX9_tells_107 : decode cX9_tells 107 = .ok (.ireturn, 1) := by decide +kernel
set_option maxRecDepth 20000 in
theorem ggX9_chalk_X9_takeChalk : GoodIn wsX9_chalk wsX9_takeChalk := goodIn_r _ [12, 13, 3, 14, 15, 11, 16, 17, 18, 19, 20, 21, 22, 23, 24, 25, 26, 27, 28, 29, 30, 31, 32, 33, 34, 35, 36, 37, 38, 39, 40, 41, 42, 43, 44, 45, 46, 47, 48, 1, 58, 59, 60, 61, 62, 63, 64, 65, 66, 67, 68, 69, 70, 71, 72] (by decide +kernel) (by decide +kernel)
set_option maxRecDepth 20000 in
theorem gX9_chalk_X9_takeChalk : GoodIn wsX9_chalk (wsV RX9 259 RX9 yX9_takeChalk wsX9_takeChalk) := goodIn_app (goodIn_of _ (by decide +kernel)) ggX9_chalk_X9_takeChalk
set_option maxRecDepth 20000 in
theorem ggX9_chalk_X9_within : GoodIn wsX9_chalk wsX9_within := goodIn_r _ [22] (by decide +kernel) (by decide +kernel)
set_option maxRecDepth 20000 in
theorem gX9_chalk_X9_within : GoodIn wsX9_chalk (va_wsS RX9 74 yX9_within wsX9_within) := goodIn_app (goodIn_of _ (by decide +kernel)) ggX9_chalk_X9_within
set_option maxRecDepth 20000 in
theorem ggX9_chalk_X9_share : GoodIn wsX9_chalk wsX9_share := goodIn_r _ [51, 2, 52, 53, 6, 54, 55, 56, 11, 57] (by decide +kernel) (by decide +kernel)
set_option maxRecDepth 20000 in
theorem gX9_chalk_X9_share : GoodIn wsX9_chalk (va_wsS RX9 119 yX9_share wsX9_share) := goodIn_app (goodIn_of _ (by decide +kernel)) ggX9_chalk_X9_share
theorem dX9_chalk_0 : decode cX9_chalk 0 = .ok (.aload_n 0, 1) := by decide +kernel
theorem dX9_chalk_1 : decode cX9_chalk 1 = .ok (.iconst 0, 1) := by decide +kernel
theorem dX9_chalk_2 : decode cX9_chalk 2 = .ok (.putfield 71, 3) := by decide +kernel
theorem dX9_chalk_5 : decode cX9_chalk 5 = .ok (.aload_n 0, 1) := by decide +kernel
theorem dX9_chalk_6 : decode cX9_chalk 6 = .ok (.iload_n 1, 1) := by decide +kernel
theorem dX9_chalk_7 : decode cX9_chalk 7 = .ok (.iload_n 2, 1) := by decide +kernel
theorem dX9_chalk_8 : decode cX9_chalk 8 = .ok (.iload_n 3, 1) := by decide +kernel
theorem dX9_chalk_9 : decode cX9_chalk 9 = .ok (.iload 4, 2) := by decide +kernel
theorem dX9_chalk_11 : decode cX9_chalk 11 = .ok (.invokevirtual 259, 3) := by decide +kernel
theorem dX9_chalk_14 : decode cX9_chalk 14 = .ok (.ifCond .ne 7, 3) := by decide +kernel
theorem dX9_chalk_17 : decode cX9_chalk 17 = .ok (.ldc2_w 113, 3) := by decide +kernel
theorem dX9_chalk_20 : decode cX9_chalk 20 = .ok (.lreturn, 1) := by decide +kernel
theorem dX9_chalk_21 : decode cX9_chalk 21 = .ok (.iload 5, 2) := by decide +kernel
theorem dX9_chalk_23 : decode cX9_chalk 23 = .ok (.iconst 0, 1) := by decide +kernel
theorem dX9_chalk_24 : decode cX9_chalk 24 = .ok (.iconst 3, 1) := by decide +kernel
theorem dX9_chalk_25 : decode cX9_chalk 25 = .ok (.invokestatic 74, 3) := by decide +kernel
theorem dX9_chalk_28 : decode cX9_chalk 28 = .ok (.ifCond .eq 13, 3) := by decide +kernel
theorem dX9_chalk_31 : decode cX9_chalk 31 = .ok (.iload 6, 2) := by decide +kernel
theorem dX9_chalk_33 : decode cX9_chalk 33 = .ok (.iconst 0, 1) := by decide +kernel
theorem dX9_chalk_34 : decode cX9_chalk 34 = .ok (.iconst 1, 1) := by decide +kernel
theorem dX9_chalk_35 : decode cX9_chalk 35 = .ok (.invokestatic 74, 3) := by decide +kernel
theorem dX9_chalk_38 : decode cX9_chalk 38 = .ok (.ifCond .ne 7, 3) := by decide +kernel
theorem dX9_chalk_41 : decode cX9_chalk 41 = .ok (.ldc2_w 113, 3) := by decide +kernel
theorem dX9_chalk_44 : decode cX9_chalk 44 = .ok (.lreturn, 1) := by decide +kernel
theorem dX9_chalk_45 : decode cX9_chalk 45 = .ok (.iconst 0, 1) := by decide +kernel
theorem dX9_chalk_46 : decode cX9_chalk 46 = .ok (.istore 7, 2) := by decide +kernel
theorem dX9_chalk_48 : decode cX9_chalk 48 = .ok (.iconst 0, 1) := by decide +kernel
theorem dX9_chalk_49 : decode cX9_chalk 49 = .ok (.istore 8, 2) := by decide +kernel
theorem dX9_chalk_51 : decode cX9_chalk 51 = .ok (.iload 8, 2) := by decide +kernel
theorem dX9_chalk_53 : decode cX9_chalk 53 = .ok (.iload 4, 2) := by decide +kernel
theorem dX9_chalk_55 : decode cX9_chalk 55 = .ok (.if_icmp .ge 46, 3) := by decide +kernel
theorem dX9_chalk_58 : decode cX9_chalk 58 = .ok (.aload_n 0, 1) := by decide +kernel
theorem dX9_chalk_59 : decode cX9_chalk 59 = .ok (.getfield 56, 3) := by decide +kernel
theorem dX9_chalk_62 : decode cX9_chalk 62 = .ok (.iconst 2, 1) := by decide +kernel
theorem dX9_chalk_63 : decode cX9_chalk 63 = .ok (.iload 8, 2) := by decide +kernel
theorem dX9_chalk_65 : decode cX9_chalk 65 = .ok (.imul, 1) := by decide +kernel
theorem dX9_chalk_66 : decode cX9_chalk 66 = .ok (.iload 5, 2) := by decide +kernel
theorem dX9_chalk_68 : decode cX9_chalk 68 = .ok (.iconst 2, 1) := by decide +kernel
theorem dX9_chalk_69 : decode cX9_chalk 69 = .ok (.irem, 1) := by decide +kernel
theorem dX9_chalk_70 : decode cX9_chalk 70 = .ok (.iadd, 1) := by decide +kernel
theorem dX9_chalk_71 : decode cX9_chalk 71 = .ok (.iaload, 1) := by decide +kernel
theorem dX9_chalk_72 : decode cX9_chalk 72 = .ok (.istore 9, 2) := by decide +kernel
theorem dX9_chalk_74 : decode cX9_chalk 74 = .ok (.iload 7, 2) := by decide +kernel
theorem dX9_chalk_76 : decode cX9_chalk 76 = .ok (.iload 5, 2) := by decide +kernel
theorem dX9_chalk_78 : decode cX9_chalk 78 = .ok (.iconst 2, 1) := by decide +kernel
theorem dX9_chalk_79 : decode cX9_chalk 79 = .ok (.if_icmp .ge 8, 3) := by decide +kernel
theorem dX9_chalk_82 : decode cX9_chalk 82 = .ok (.iload 9, 2) := by decide +kernel
theorem dX9_chalk_84 : decode cX9_chalk 84 = .ok (.goto 8, 3) := by decide +kernel
theorem dX9_chalk_87 : decode cX9_chalk 87 = .ok (.iload 9, 2) := by decide +kernel
theorem dX9_chalk_89 : decode cX9_chalk 89 = .ok (.invokestatic 263, 3) := by decide +kernel
theorem dX9_chalk_92 : decode cX9_chalk 92 = .ok (.iadd, 1) := by decide +kernel
theorem dX9_chalk_93 : decode cX9_chalk 93 = .ok (.istore 7, 2) := by decide +kernel
theorem dX9_chalk_95 : decode cX9_chalk 95 = .ok (.iinc 8 1, 3) := by decide +kernel
theorem dX9_chalk_98 : decode cX9_chalk 98 = .ok (.goto (-47), 3) := by decide +kernel
theorem dX9_chalk_101 : decode cX9_chalk 101 = .ok (.iload 7, 2) := by decide +kernel
theorem dX9_chalk_103 : decode cX9_chalk 103 = .ok (.i2l, 1) := by decide +kernel
theorem dX9_chalk_104 : decode cX9_chalk 104 = .ok (.iload 5, 2) := by decide +kernel
theorem dX9_chalk_106 : decode cX9_chalk 106 = .ok (.iconst 2, 1) := by decide +kernel
theorem dX9_chalk_107 : decode cX9_chalk 107 = .ok (.if_icmp .ge 9, 3) := by decide +kernel
theorem dX9_chalk_110 : decode cX9_chalk 110 = .ok (.iload 4, 2) := by decide +kernel
theorem dX9_chalk_112 : decode cX9_chalk 112 = .ok (.i2l, 1) := by decide +kernel
theorem dX9_chalk_113 : decode cX9_chalk 113 = .ok (.goto 4, 3) := by decide +kernel
theorem dX9_chalk_116 : decode cX9_chalk 116 = .ok (.lconst 1, 1) := by decide +kernel
theorem dX9_chalk_117 : decode cX9_chalk 117 = .ok (.iload 6, 2) := by decide +kernel
theorem dX9_chalk_119 : decode cX9_chalk 119 = .ok (.invokestatic 119, 3) := by decide +kernel
theorem dX9_chalk_122 : decode cX9_chalk 122 = .ok (.lreturn, 1) := by decide +kernel
set_option maxRecDepth 20000 in
theorem ggX9_byChalk_X0_knows : GoodIn wsX9_byChalk wsX0_knows := goodIn_r _ [9, 10, 11, 12, 8, 13, 14, 15, 16, 17, 18, 96, 97, 98] (by decide +kernel) (by decide +kernel)
set_option maxRecDepth 20000 in
theorem gX9_byChalk_X0_knows : GoodIn wsX9_byChalk (wsV RX9 169 RX0 yX0_knows wsX0_knows) := goodIn_app (goodIn_of _ (by decide +kernel)) ggX9_byChalk_X0_knows
set_option maxRecDepth 20000 in
theorem ggX9_byChalk_X9_takeChalk : GoodIn wsX9_byChalk wsX9_takeChalk := goodIn_r _ [22, 23, 4, 24, 25, 17, 26, 27, 28, 29, 30, 16, 18, 31, 32, 33, 34, 35, 36, 37, 38, 39, 40, 41, 42, 43, 44, 45, 46, 47, 48, 49, 50, 51, 52, 53, 54, 55, 56, 1, 85, 86, 87, 88, 89, 90, 91, 92, 93, 94, 95, 99, 100, 101, 102] (by decide +kernel) (by decide +kernel)
set_option maxRecDepth 20000 in
theorem gX9_byChalk_X9_takeChalk : GoodIn wsX9_byChalk (wsV RX9 259 RX9 yX9_takeChalk wsX9_takeChalk) := goodIn_app (goodIn_of _ (by decide +kernel)) ggX9_byChalk_X9_takeChalk
set_option maxRecDepth 20000 in
theorem ggX9_byChalk_X9_within : GoodIn wsX9_byChalk wsX9_within := goodIn_r _ [18] (by decide +kernel) (by decide +kernel)
set_option maxRecDepth 20000 in
theorem gX9_byChalk_X9_within : GoodIn wsX9_byChalk (va_wsS RX9 74 yX9_within wsX9_within) := goodIn_app (goodIn_of _ (by decide +kernel)) ggX9_byChalk_X9_within
set_option maxRecDepth 20000 in
theorem ggX9_byChalk_X0_rowOf : GoodIn wsX9_byChalk wsX0_rowOf := goodIn_r _ [60, 15, 96, 97, 98] (by decide +kernel) (by decide +kernel)
set_option maxRecDepth 20000 in
theorem gX9_byChalk_X0_rowOf : GoodIn wsX9_byChalk (wsV RX9 172 RX0 yX0_rowOf wsX0_rowOf) := goodIn_app (goodIn_of _ (by decide +kernel)) ggX9_byChalk_X0_rowOf
set_option maxRecDepth 20000 in
theorem ggX9_byChalk_X0_columnOf : GoodIn wsX9_byChalk wsX0_columnOf := goodIn_r _ [64, 15, 96, 97, 98] (by decide +kernel) (by decide +kernel)
set_option maxRecDepth 20000 in
theorem gX9_byChalk_X0_columnOf : GoodIn wsX9_byChalk (wsV RX9 175 RX0 yX0_columnOf wsX0_columnOf) := goodIn_app (goodIn_of _ (by decide +kernel)) ggX9_byChalk_X0_columnOf
set_option maxRecDepth 20000 in
theorem ggX9_byChalk_X0_isOf : GoodIn wsX9_byChalk wsX0_isOf := goodIn_r _ [68, 69, 70, 71, 8, 72, 14, 15, 73, 16, 17, 18, 74, 6, 7, 9, 10, 11, 12, 13, 96, 97, 98] (by decide +kernel) (by decide +kernel)
set_option maxRecDepth 20000 in
theorem gX9_byChalk_X0_isOf : GoodIn wsX9_byChalk (wsV RX9 268 RX0 yX0_isOf wsX0_isOf) := goodIn_app (goodIn_of _ (by decide +kernel)) ggX9_byChalk_X0_isOf
set_option maxRecDepth 20000 in
theorem ggX9_byChalk_X9_share : GoodIn wsX9_byChalk wsX9_share := goodIn_r _ [77, 3, 78, 79, 80, 81, 82, 83, 17, 84] (by decide +kernel) (by decide +kernel)
set_option maxRecDepth 20000 in
theorem gX9_byChalk_X9_share : GoodIn wsX9_byChalk (va_wsS RX9 119 yX9_share wsX9_share) := goodIn_app (goodIn_of _ (by decide +kernel)) ggX9_byChalk_X9_share
theorem dX9_byChalk_0 : decode cX9_byChalk 0 = .ok (.aload_n 0, 1) := by decide +kernel
theorem dX9_byChalk_1 : decode cX9_byChalk 1 = .ok (.iconst 0, 1) := by decide +kernel
theorem dX9_byChalk_2 : decode cX9_byChalk 2 = .ok (.putfield 71, 3) := by decide +kernel
theorem dX9_byChalk_5 : decode cX9_byChalk 5 = .ok (.aload_n 0, 1) := by decide +kernel
theorem dX9_byChalk_6 : decode cX9_byChalk 6 = .ok (.getfield 31, 3) := by decide +kernel
theorem dX9_byChalk_9 : decode cX9_byChalk 9 = .ok (.iload_n 1, 1) := by decide +kernel
theorem dX9_byChalk_10 : decode cX9_byChalk 10 = .ok (.invokevirtual 169, 3) := by decide +kernel
theorem dX9_byChalk_13 : decode cX9_byChalk 13 = .ok (.ifCond .ne 7, 3) := by decide +kernel
theorem dX9_byChalk_16 : decode cX9_byChalk 16 = .ok (.ldc2_w 113, 3) := by decide +kernel
theorem dX9_byChalk_19 : decode cX9_byChalk 19 = .ok (.lreturn, 1) := by decide +kernel
theorem dX9_byChalk_20 : decode cX9_byChalk 20 = .ok (.aload_n 0, 1) := by decide +kernel
theorem dX9_byChalk_21 : decode cX9_byChalk 21 = .ok (.iload_n 2, 1) := by decide +kernel
theorem dX9_byChalk_22 : decode cX9_byChalk 22 = .ok (.iload_n 3, 1) := by decide +kernel
theorem dX9_byChalk_23 : decode cX9_byChalk 23 = .ok (.iload 4, 2) := by decide +kernel
theorem dX9_byChalk_25 : decode cX9_byChalk 25 = .ok (.iload 5, 2) := by decide +kernel
theorem dX9_byChalk_27 : decode cX9_byChalk 27 = .ok (.invokevirtual 259, 3) := by decide +kernel
theorem dX9_byChalk_30 : decode cX9_byChalk 30 = .ok (.ifCond .eq 13, 3) := by decide +kernel
theorem dX9_byChalk_33 : decode cX9_byChalk 33 = .ok (.iload 6, 2) := by decide +kernel
theorem dX9_byChalk_35 : decode cX9_byChalk 35 = .ok (.iconst 0, 1) := by decide +kernel
theorem dX9_byChalk_36 : decode cX9_byChalk 36 = .ok (.iconst 1, 1) := by decide +kernel
theorem dX9_byChalk_37 : decode cX9_byChalk 37 = .ok (.invokestatic 74, 3) := by decide +kernel
theorem dX9_byChalk_40 : decode cX9_byChalk 40 = .ok (.ifCond .ne 7, 3) := by decide +kernel
theorem dX9_byChalk_43 : decode cX9_byChalk 43 = .ok (.ldc2_w 113, 3) := by decide +kernel
theorem dX9_byChalk_46 : decode cX9_byChalk 46 = .ok (.lreturn, 1) := by decide +kernel
theorem dX9_byChalk_47 : decode cX9_byChalk 47 = .ok (.iconst 0, 1) := by decide +kernel
theorem dX9_byChalk_48 : decode cX9_byChalk 48 = .ok (.istore 7, 2) := by decide +kernel
theorem dX9_byChalk_50 : decode cX9_byChalk 50 = .ok (.iconst 0, 1) := by decide +kernel
theorem dX9_byChalk_51 : decode cX9_byChalk 51 = .ok (.istore 8, 2) := by decide +kernel
theorem dX9_byChalk_53 : decode cX9_byChalk 53 = .ok (.iload 8, 2) := by decide +kernel
theorem dX9_byChalk_55 : decode cX9_byChalk 55 = .ok (.iload 5, 2) := by decide +kernel
theorem dX9_byChalk_57 : decode cX9_byChalk 57 = .ok (.if_icmp .ge 71, 3) := by decide +kernel
theorem dX9_byChalk_60 : decode cX9_byChalk 60 = .ok (.aload_n 0, 1) := by decide +kernel
theorem dX9_byChalk_61 : decode cX9_byChalk 61 = .ok (.getfield 31, 3) := by decide +kernel
theorem dX9_byChalk_64 : decode cX9_byChalk 64 = .ok (.iload_n 1, 1) := by decide +kernel
theorem dX9_byChalk_65 : decode cX9_byChalk 65 = .ok (.invokevirtual 172, 3) := by decide +kernel
theorem dX9_byChalk_68 : decode cX9_byChalk 68 = .ok (.aload_n 0, 1) := by decide +kernel
theorem dX9_byChalk_69 : decode cX9_byChalk 69 = .ok (.getfield 56, 3) := by decide +kernel
theorem dX9_byChalk_72 : decode cX9_byChalk 72 = .ok (.iconst 2, 1) := by decide +kernel
theorem dX9_byChalk_73 : decode cX9_byChalk 73 = .ok (.iload 8, 2) := by decide +kernel
theorem dX9_byChalk_75 : decode cX9_byChalk 75 = .ok (.imul, 1) := by decide +kernel
theorem dX9_byChalk_76 : decode cX9_byChalk 76 = .ok (.iaload, 1) := by decide +kernel
theorem dX9_byChalk_77 : decode cX9_byChalk 77 = .ok (.isub, 1) := by decide +kernel
theorem dX9_byChalk_78 : decode cX9_byChalk 78 = .ok (.istore 9, 2) := by decide +kernel
theorem dX9_byChalk_80 : decode cX9_byChalk 80 = .ok (.aload_n 0, 1) := by decide +kernel
theorem dX9_byChalk_81 : decode cX9_byChalk 81 = .ok (.getfield 31, 3) := by decide +kernel
theorem dX9_byChalk_84 : decode cX9_byChalk 84 = .ok (.iload_n 1, 1) := by decide +kernel
theorem dX9_byChalk_85 : decode cX9_byChalk 85 = .ok (.invokevirtual 175, 3) := by decide +kernel
theorem dX9_byChalk_88 : decode cX9_byChalk 88 = .ok (.aload_n 0, 1) := by decide +kernel
theorem dX9_byChalk_89 : decode cX9_byChalk 89 = .ok (.getfield 56, 3) := by decide +kernel
theorem dX9_byChalk_92 : decode cX9_byChalk 92 = .ok (.iconst 2, 1) := by decide +kernel
theorem dX9_byChalk_93 : decode cX9_byChalk 93 = .ok (.iload 8, 2) := by decide +kernel
theorem dX9_byChalk_95 : decode cX9_byChalk 95 = .ok (.imul, 1) := by decide +kernel
theorem dX9_byChalk_96 : decode cX9_byChalk 96 = .ok (.iconst 1, 1) := by decide +kernel
theorem dX9_byChalk_97 : decode cX9_byChalk 97 = .ok (.iadd, 1) := by decide +kernel
theorem dX9_byChalk_98 : decode cX9_byChalk 98 = .ok (.iaload, 1) := by decide +kernel
theorem dX9_byChalk_99 : decode cX9_byChalk 99 = .ok (.iadd, 1) := by decide +kernel
theorem dX9_byChalk_100 : decode cX9_byChalk 100 = .ok (.istore 10, 2) := by decide +kernel
theorem dX9_byChalk_102 : decode cX9_byChalk 102 = .ok (.aload_n 0, 1) := by decide +kernel
theorem dX9_byChalk_103 : decode cX9_byChalk 103 = .ok (.getfield 31, 3) := by decide +kernel
theorem dX9_byChalk_106 : decode cX9_byChalk 106 = .ok (.bipush 12, 2) := by decide +kernel
theorem dX9_byChalk_108 : decode cX9_byChalk 108 = .ok (.iload 9, 2) := by decide +kernel
theorem dX9_byChalk_110 : decode cX9_byChalk 110 = .ok (.iload 10, 2) := by decide +kernel
theorem dX9_byChalk_112 : decode cX9_byChalk 112 = .ok (.iconst 0, 1) := by decide +kernel
theorem dX9_byChalk_113 : decode cX9_byChalk 113 = .ok (.invokevirtual 268, 3) := by decide +kernel
theorem dX9_byChalk_116 : decode cX9_byChalk 116 = .ok (.ifCond .eq 6, 3) := by decide +kernel
theorem dX9_byChalk_119 : decode cX9_byChalk 119 = .ok (.iinc 7 1, 3) := by decide +kernel
theorem dX9_byChalk_122 : decode cX9_byChalk 122 = .ok (.iinc 8 1, 3) := by decide +kernel
theorem dX9_byChalk_125 : decode cX9_byChalk 125 = .ok (.goto (-72), 3) := by decide +kernel
theorem dX9_byChalk_128 : decode cX9_byChalk 128 = .ok (.iload 7, 2) := by decide +kernel
theorem dX9_byChalk_130 : decode cX9_byChalk 130 = .ok (.i2l, 1) := by decide +kernel
theorem dX9_byChalk_131 : decode cX9_byChalk 131 = .ok (.iload 5, 2) := by decide +kernel
theorem dX9_byChalk_133 : decode cX9_byChalk 133 = .ok (.i2l, 1) := by decide +kernel
theorem dX9_byChalk_134 : decode cX9_byChalk 134 = .ok (.iload 6, 2) := by decide +kernel
theorem dX9_byChalk_136 : decode cX9_byChalk 136 = .ok (.invokestatic 119, 3) := by decide +kernel
theorem dX9_byChalk_139 : decode cX9_byChalk 139 = .ok (.lreturn, 1) := by decide +kernel
set_option maxRecDepth 20000 in
theorem ggX9_sheet_X9_refusesSheet : GoodIn wsX9_sheet wsX9_refusesSheet := goodIn_r _ [6, 7, 8, 5, 9, 10, 11, 12] (by decide +kernel) (by decide +kernel)
set_option maxRecDepth 20000 in
theorem gX9_sheet_X9_refusesSheet : GoodIn wsX9_sheet (va_wsS RX9 196 yX9_refusesSheet wsX9_refusesSheet) := goodIn_app (goodIn_of _ (by decide +kernel)) ggX9_sheet_X9_refusesSheet
set_option maxRecDepth 20000 in
theorem ggX9_sheet_X9_faulted : GoodIn wsX9_sheet wsX9_faulted := goodIn_r _ [16, 1, 33, 34, 35, 36, 37, 38, 39, 40, 41, 42, 43] (by decide +kernel) (by decide +kernel)
set_option maxRecDepth 20000 in
theorem gX9_sheet_X9_faulted : GoodIn wsX9_sheet (wsV RX9 271 RX9 yX9_faulted wsX9_faulted) := goodIn_app (goodIn_of _ (by decide +kernel)) ggX9_sheet_X9_faulted
set_option maxRecDepth 20000 in
theorem ggX9_sheet_X6_renew : GoodIn wsX9_sheet wsX6_renew := goodIn_r _ [21, 22, 23, 24, 25, 26, 27, 28, 29, 30, 31, 32, 44, 45, 46, 47] (by decide +kernel) (by decide +kernel)
set_option maxRecDepth 20000 in
theorem gX9_sheet_X6_renew : GoodIn wsX9_sheet (wsV RX9 274 RX6 yX6_renew wsX6_renew) := goodIn_app (goodIn_of _ (by decide +kernel)) ggX9_sheet_X6_renew
theorem dX9_sheet_0 : decode cX9_sheet 0 = .ok (.aload_n 0, 1) := by decide +kernel
theorem dX9_sheet_1 : decode cX9_sheet 1 = .ok (.iconst 0, 1) := by decide +kernel
theorem dX9_sheet_2 : decode cX9_sheet 2 = .ok (.putfield 71, 3) := by decide +kernel
theorem dX9_sheet_5 : decode cX9_sheet 5 = .ok (.iload_n 1, 1) := by decide +kernel
theorem dX9_sheet_6 : decode cX9_sheet 6 = .ok (.iload_n 2, 1) := by decide +kernel
theorem dX9_sheet_7 : decode cX9_sheet 7 = .ok (.invokestatic 196, 3) := by decide +kernel
theorem dX9_sheet_10 : decode cX9_sheet 10 = .ok (.istore 4, 2) := by decide +kernel
theorem dX9_sheet_12 : decode cX9_sheet 12 = .ok (.iload 4, 2) := by decide +kernel
theorem dX9_sheet_14 : decode cX9_sheet 14 = .ok (.ifCond .eq 6, 3) := by decide +kernel
theorem dX9_sheet_17 : decode cX9_sheet 17 = .ok (.iload 4, 2) := by decide +kernel
theorem dX9_sheet_19 : decode cX9_sheet 19 = .ok (.ireturn, 1) := by decide +kernel
theorem dX9_sheet_20 : decode cX9_sheet 20 = .ok (.iload_n 3, 1) := by decide +kernel
theorem dX9_sheet_21 : decode cX9_sheet 21 = .ok (.bipush 80, 2) := by decide +kernel
theorem dX9_sheet_23 : decode cX9_sheet 23 = .ok (.if_icmp .le 6, 3) := by decide +kernel
theorem dX9_sheet_26 : decode cX9_sheet 26 = .ok (.bipush (-2), 2) := by decide +kernel
theorem dX9_sheet_28 : decode cX9_sheet 28 = .ok (.ireturn, 1) := by decide +kernel
theorem dX9_sheet_29 : decode cX9_sheet 29 = .ok (.iload_n 3, 1) := by decide +kernel
theorem dX9_sheet_30 : decode cX9_sheet 30 = .ok (.ifCond .ge 9, 3) := by decide +kernel
theorem dX9_sheet_33 : decode cX9_sheet 33 = .ok (.aload_n 0, 1) := by decide +kernel
theorem dX9_sheet_34 : decode cX9_sheet 34 = .ok (.iconst 4, 1) := by decide +kernel
theorem dX9_sheet_35 : decode cX9_sheet 35 = .ok (.invokevirtual 271, 3) := by decide +kernel
theorem dX9_sheet_38 : decode cX9_sheet 38 = .ok (.ireturn, 1) := by decide +kernel
theorem dX9_sheet_39 : decode cX9_sheet 39 = .ok (.aload_n 0, 1) := by decide +kernel
theorem dX9_sheet_40 : decode cX9_sheet 40 = .ok (.getfield 52, 3) := by decide +kernel
theorem dX9_sheet_43 : decode cX9_sheet 43 = .ok (.iload_n 1, 1) := by decide +kernel
theorem dX9_sheet_44 : decode cX9_sheet 44 = .ok (.aaload, 1) := by decide +kernel
theorem dX9_sheet_45 : decode cX9_sheet 45 = .ok (.iload_n 2, 1) := by decide +kernel
theorem dX9_sheet_46 : decode cX9_sheet 46 = .ok (.iload_n 3, 1) := by decide +kernel
theorem dX9_sheet_47 : decode cX9_sheet 47 = .ok (.invokevirtual 274, 3) := by decide +kernel
theorem dX9_sheet_50 : decode cX9_sheet 50 = .ok (.iconst 1, 1) := by decide +kernel
theorem dX9_sheet_51 : decode cX9_sheet 51 = .ok (.ireturn, 1) := by decide +kernel
set_option maxRecDepth 20000 in
theorem ggX9_lose_X9_isSheet : GoodIn wsX9_lose wsX9_isSheet := goodIn_r _ [6, 7, 8, 5, 9] (by decide +kernel) (by decide +kernel)
set_option maxRecDepth 20000 in
theorem gX9_lose_X9_isSheet : GoodIn wsX9_lose (va_wsS RX9 277 yX9_isSheet wsX9_isSheet) := goodIn_app (goodIn_of _ (by decide +kernel)) ggX9_lose_X9_isSheet
theorem dX9_lose_0 : decode cX9_lose 0 = .ok (.iload_n 1, 1) := by decide +kernel
theorem dX9_lose_1 : decode cX9_lose 1 = .ok (.invokestatic 277, 3) := by decide +kernel
theorem dX9_lose_4 : decode cX9_lose 4 = .ok (.ifCond .ne 5, 3) := by decide +kernel
theorem dX9_lose_7 : decode cX9_lose 7 = .ok (.iconst (-1), 1) := by decide +kernel
theorem dX9_lose_8 : decode cX9_lose 8 = .ok (.ireturn, 1) := by decide +kernel
theorem dX9_lose_9 : decode cX9_lose 9 = .ok (.aload_n 0, 1) := by decide +kernel
theorem dX9_lose_10 : decode cX9_lose 10 = .ok (.getfield 52, 3) := by decide +kernel
theorem dX9_lose_13 : decode cX9_lose 13 = .ok (.iload_n 1, 1) := by decide +kernel
theorem dX9_lose_14 : decode cX9_lose 14 = .ok (.aaload, 1) := by decide +kernel
theorem dX9_lose_15 : decode cX9_lose 15 = .ok (.getfield 280, 3) := by decide +kernel
theorem dX9_lose_18 : decode cX9_lose 18 = .ok (.ifCond .ne 5, 3) := by decide +kernel
theorem dX9_lose_21 : decode cX9_lose 21 = .ok (.iconst 0, 1) := by decide +kernel
theorem dX9_lose_22 : decode cX9_lose 22 = .ok (.ireturn, 1) := by decide +kernel
theorem dX9_lose_23 : decode cX9_lose 23 = .ok (.aload_n 0, 1) := by decide +kernel
theorem dX9_lose_24 : decode cX9_lose 24 = .ok (.getfield 52, 3) := by decide +kernel
theorem dX9_lose_27 : decode cX9_lose 27 = .ok (.iload_n 1, 1) := by decide +kernel
theorem dX9_lose_28 : decode cX9_lose 28 = .ok (.aaload, 1) := by decide +kernel
theorem dX9_lose_29 : decode cX9_lose 29 = .ok (.iconst 0, 1) := by decide +kernel
theorem dX9_lose_30 : decode cX9_lose 30 = .ok (.putfield 280, 3) := by decide +kernel
theorem dX9_lose_33 : decode cX9_lose 33 = .ok (.iconst 1, 1) := by decide +kernel
theorem dX9_lose_34 : decode cX9_lose 34 = .ok (.ireturn, 1) := by decide +kernel
set_option maxRecDepth 20000 in
theorem ggX9_put_X9_isSheet : GoodIn wsX9_put wsX9_isSheet := goodIn_r _ [7, 8, 9, 6, 10] (by decide +kernel) (by decide +kernel)
set_option maxRecDepth 20000 in
theorem gX9_put_X9_isSheet : GoodIn wsX9_put (va_wsS RX9 277 yX9_isSheet wsX9_isSheet) := goodIn_app (goodIn_of _ (by decide +kernel)) ggX9_put_X9_isSheet
set_option maxRecDepth 20000 in
theorem ggX9_put_X6_faultOfTaking : GoodIn wsX9_put wsX6_faultOfTaking := goodIn_r _ [15, 16, 17, 18, 19, 20, 14, 21, 22, 9, 6, 10, 43, 44, 45, 46] (by decide +kernel) (by decide +kernel)
set_option maxRecDepth 20000 in
theorem gX9_put_X6_faultOfTaking : GoodIn wsX9_put (wsV RX9 286 RX6 yX6_faultOfTaking wsX6_faultOfTaking) := goodIn_app (goodIn_of _ (by decide +kernel)) ggX9_put_X6_faultOfTaking
set_option maxRecDepth 20000 in
theorem ggX9_put_X9_faulted : GoodIn wsX9_put wsX9_faulted := goodIn_r _ [26, 1, 32, 33, 34, 35, 36, 37, 38, 39, 40, 41, 42] (by decide +kernel) (by decide +kernel)
set_option maxRecDepth 20000 in
theorem gX9_put_X9_faulted : GoodIn wsX9_put (wsV RX9 271 RX9 yX9_faulted wsX9_faulted) := goodIn_app (goodIn_of _ (by decide +kernel)) ggX9_put_X9_faulted
set_option maxRecDepth 20000 in
theorem ggX9_put_X6_store : GoodIn wsX9_put wsX6_store := goodIn_r _ [30, 22, 17, 31, 9, 6, 10, 43, 44, 45, 46] (by decide +kernel) (by decide +kernel)
set_option maxRecDepth 20000 in
theorem gX9_put_X6_store : GoodIn wsX9_put (wsV RX9 290 RX6 yX6_store wsX6_store) := goodIn_app (goodIn_of _ (by decide +kernel)) ggX9_put_X6_store
theorem dX9_put_0 : decode cX9_put 0 = .ok (.aload_n 0, 1) := by decide +kernel
theorem dX9_put_1 : decode cX9_put 1 = .ok (.iconst 0, 1) := by decide +kernel
theorem dX9_put_2 : decode cX9_put 2 = .ok (.putfield 71, 3) := by decide +kernel
theorem dX9_put_5 : decode cX9_put 5 = .ok (.iload_n 1, 1) := by decide +kernel
theorem dX9_put_6 : decode cX9_put 6 = .ok (.invokestatic 277, 3) := by decide +kernel
theorem dX9_put_9 : decode cX9_put 9 = .ok (.ifCond .ne 5, 3) := by decide +kernel
theorem dX9_put_12 : decode cX9_put 12 = .ok (.iconst (-1), 1) := by decide +kernel
theorem dX9_put_13 : decode cX9_put 13 = .ok (.ireturn, 1) := by decide +kernel
theorem dX9_put_14 : decode cX9_put 14 = .ok (.aload_n 0, 1) := by decide +kernel
theorem dX9_put_15 : decode cX9_put 15 = .ok (.getfield 52, 3) := by decide +kernel
theorem dX9_put_18 : decode cX9_put 18 = .ok (.iload_n 1, 1) := by decide +kernel
theorem dX9_put_19 : decode cX9_put 19 = .ok (.aaload, 1) := by decide +kernel
theorem dX9_put_20 : decode cX9_put 20 = .ok (.astore 4, 2) := by decide +kernel
theorem dX9_put_22 : decode cX9_put 22 = .ok (.aload 4, 2) := by decide +kernel
theorem dX9_put_24 : decode cX9_put 24 = .ok (.aload 4, 2) := by decide +kernel
theorem dX9_put_26 : decode cX9_put 26 = .ok (.getfield 283, 3) := by decide +kernel
theorem dX9_put_29 : decode cX9_put 29 = .ok (.iload_n 2, 1) := by decide +kernel
theorem dX9_put_30 : decode cX9_put 30 = .ok (.lconst 1, 1) := by decide +kernel
theorem dX9_put_31 : decode cX9_put 31 = .ok (.invokevirtual 286, 3) := by decide +kernel
theorem dX9_put_34 : decode cX9_put 34 = .ok (.istore 5, 2) := by decide +kernel
theorem dX9_put_36 : decode cX9_put 36 = .ok (.iload 5, 2) := by decide +kernel
theorem dX9_put_38 : decode cX9_put 38 = .ok (.ifCond .eq 10, 3) := by decide +kernel
theorem dX9_put_41 : decode cX9_put 41 = .ok (.aload_n 0, 1) := by decide +kernel
theorem dX9_put_42 : decode cX9_put 42 = .ok (.iload 5, 2) := by decide +kernel
theorem dX9_put_44 : decode cX9_put 44 = .ok (.invokevirtual 271, 3) := by decide +kernel
theorem dX9_put_47 : decode cX9_put 47 = .ok (.ireturn, 1) := by decide +kernel
theorem dX9_put_48 : decode cX9_put 48 = .ok (.aload 4, 2) := by decide +kernel
theorem dX9_put_50 : decode cX9_put 50 = .ok (.iload_n 2, 1) := by decide +kernel
theorem dX9_put_51 : decode cX9_put 51 = .ok (.iload_n 3, 1) := by decide +kernel
theorem dX9_put_52 : decode cX9_put 52 = .ok (.invokevirtual 290, 3) := by decide +kernel
theorem dX9_put_55 : decode cX9_put 55 = .ok (.iconst 1, 1) := by decide +kernel
theorem dX9_put_56 : decode cX9_put 56 = .ok (.ireturn, 1) := by decide +kernel
set_option maxRecDepth 20000 in
theorem ggX9_cell_X9_refusesSheet : GoodIn wsX9_cell wsX9_refusesSheet := goodIn_r _ [7, 8, 9, 6, 10, 11, 12, 13] (by decide +kernel) (by decide +kernel)
set_option maxRecDepth 20000 in
theorem gX9_cell_X9_refusesSheet : GoodIn wsX9_cell (va_wsS RX9 196 yX9_refusesSheet wsX9_refusesSheet) := goodIn_app (goodIn_of _ (by decide +kernel)) ggX9_cell_X9_refusesSheet
set_option maxRecDepth 20000 in
theorem ggX9_cell_X9_takeCells : GoodIn wsX9_cell wsX9_takeCells := goodIn_r _ [17, 18, 19, 3, 20, 21, 22, 23, 8, 9, 6, 10, 11, 12, 13, 24, 25, 26, 27, 28, 29, 30, 31, 32, 33, 34, 35, 36, 37, 38, 39, 1, 40, 41, 42, 43, 44, 45, 46, 47, 48, 49, 50, 51, 52, 53, 54] (by decide +kernel) (by decide +kernel)
set_option maxRecDepth 20000 in
theorem gX9_cell_X9_takeCells : GoodIn wsX9_cell (wsV RX9 199 RX9 yX9_takeCells wsX9_takeCells) := goodIn_app (goodIn_of _ (by decide +kernel)) ggX9_cell_X9_takeCells
theorem dX9_cell_0 : decode cX9_cell 0 = .ok (.aload_n 0, 1) := by decide +kernel
theorem dX9_cell_1 : decode cX9_cell 1 = .ok (.iconst 0, 1) := by decide +kernel
theorem dX9_cell_2 : decode cX9_cell 2 = .ok (.putfield 71, 3) := by decide +kernel
theorem dX9_cell_5 : decode cX9_cell 5 = .ok (.iload_n 1, 1) := by decide +kernel
theorem dX9_cell_6 : decode cX9_cell 6 = .ok (.iload_n 3, 1) := by decide +kernel
theorem dX9_cell_7 : decode cX9_cell 7 = .ok (.invokestatic 196, 3) := by decide +kernel
theorem dX9_cell_10 : decode cX9_cell 10 = .ok (.ifCond .eq 7, 3) := by decide +kernel
theorem dX9_cell_13 : decode cX9_cell 13 = .ok (.ldc2_w 113, 3) := by decide +kernel
theorem dX9_cell_16 : decode cX9_cell 16 = .ok (.lreturn, 1) := by decide +kernel
theorem dX9_cell_17 : decode cX9_cell 17 = .ok (.aload_n 0, 1) := by decide +kernel
theorem dX9_cell_18 : decode cX9_cell 18 = .ok (.iload_n 1, 1) := by decide +kernel
theorem dX9_cell_19 : decode cX9_cell 19 = .ok (.iload_n 3, 1) := by decide +kernel
theorem dX9_cell_20 : decode cX9_cell 20 = .ok (.iload_n 2, 1) := by decide +kernel
theorem dX9_cell_21 : decode cX9_cell 21 = .ok (.lconst 1, 1) := by decide +kernel
theorem dX9_cell_22 : decode cX9_cell 22 = .ok (.invokevirtual 199, 3) := by decide +kernel
theorem dX9_cell_25 : decode cX9_cell 25 = .ok (.ifCond .eq 7, 3) := by decide +kernel
theorem dX9_cell_28 : decode cX9_cell 28 = .ok (.ldc2_w 113, 3) := by decide +kernel
theorem dX9_cell_31 : decode cX9_cell 31 = .ok (.lreturn, 1) := by decide +kernel
theorem dX9_cell_32 : decode cX9_cell 32 = .ok (.aload_n 0, 1) := by decide +kernel
theorem dX9_cell_33 : decode cX9_cell 33 = .ok (.getfield 56, 3) := by decide +kernel
theorem dX9_cell_36 : decode cX9_cell 36 = .ok (.iconst 0, 1) := by decide +kernel
theorem dX9_cell_37 : decode cX9_cell 37 = .ok (.iaload, 1) := by decide +kernel
theorem dX9_cell_38 : decode cX9_cell 38 = .ok (.i2l, 1) := by decide +kernel
theorem dX9_cell_39 : decode cX9_cell 39 = .ok (.lreturn, 1) := by decide +kernel
set_option maxRecDepth 20000 in
theorem ggX9_copy_X9_isSheet : GoodIn wsX9_copy wsX9_isSheet := goodIn_r _ [13, 14, 15, 12, 16] (by decide +kernel) (by decide +kernel)
set_option maxRecDepth 20000 in
theorem gX9_copy_X9_isSheet : GoodIn wsX9_copy (va_wsS RX9 277 yX9_isSheet wsX9_isSheet) := goodIn_app (goodIn_of _ (by decide +kernel)) ggX9_copy_X9_isSheet
set_option maxRecDepth 20000 in
theorem ggX9_copy_X9_faulted : GoodIn wsX9_copy wsX9_faulted := goodIn_r _ [20, 1, 27, 28, 29, 30, 31, 32, 33, 34, 35, 36, 37] (by decide +kernel) (by decide +kernel)
set_option maxRecDepth 20000 in
theorem gX9_copy_X9_faulted : GoodIn wsX9_copy (wsV RX9 271 RX9 yX9_faulted wsX9_faulted) := goodIn_app (goodIn_of _ (by decide +kernel)) ggX9_copy_X9_faulted
set_option maxRecDepth 20000 in
theorem ggX9_copy_X6_reaches : GoodIn wsX9_copy wsX6_reaches := goodIn_r _ [25, 26, 15, 12, 16, 38, 39, 40, 41] (by decide +kernel) (by decide +kernel)
set_option maxRecDepth 20000 in
theorem gX9_copy_X6_reaches : GoodIn wsX9_copy (wsV RX9 293 RX6 yX6_reaches wsX6_reaches) := goodIn_app (goodIn_of _ (by decide +kernel)) ggX9_copy_X6_reaches
theorem dX9_copy_0 : decode cX9_copy 0 = .ok (.aload_n 0, 1) := by decide +kernel
theorem dX9_copy_1 : decode cX9_copy 1 = .ok (.iconst 0, 1) := by decide +kernel
theorem dX9_copy_2 : decode cX9_copy 2 = .ok (.putfield 71, 3) := by decide +kernel
theorem dX9_copy_5 : decode cX9_copy 5 = .ok (.iload_n 1, 1) := by decide +kernel
theorem dX9_copy_6 : decode cX9_copy 6 = .ok (.invokestatic 277, 3) := by decide +kernel
theorem dX9_copy_9 : decode cX9_copy 9 = .ok (.ifCond .eq 10, 3) := by decide +kernel
theorem dX9_copy_12 : decode cX9_copy 12 = .ok (.iload_n 3, 1) := by decide +kernel
theorem dX9_copy_13 : decode cX9_copy 13 = .ok (.invokestatic 277, 3) := by decide +kernel
theorem dX9_copy_16 : decode cX9_copy 16 = .ok (.ifCond .ne 5, 3) := by decide +kernel
theorem dX9_copy_19 : decode cX9_copy 19 = .ok (.iconst (-1), 1) := by decide +kernel
theorem dX9_copy_20 : decode cX9_copy 20 = .ok (.ireturn, 1) := by decide +kernel
theorem dX9_copy_21 : decode cX9_copy 21 = .ok (.aload_n 0, 1) := by decide +kernel
theorem dX9_copy_22 : decode cX9_copy 22 = .ok (.getfield 52, 3) := by decide +kernel
theorem dX9_copy_25 : decode cX9_copy 25 = .ok (.iload_n 1, 1) := by decide +kernel
theorem dX9_copy_26 : decode cX9_copy 26 = .ok (.aaload, 1) := by decide +kernel
theorem dX9_copy_27 : decode cX9_copy 27 = .ok (.astore 6, 2) := by decide +kernel
theorem dX9_copy_29 : decode cX9_copy 29 = .ok (.aload_n 0, 1) := by decide +kernel
theorem dX9_copy_30 : decode cX9_copy 30 = .ok (.getfield 52, 3) := by decide +kernel
theorem dX9_copy_33 : decode cX9_copy 33 = .ok (.iload_n 3, 1) := by decide +kernel
theorem dX9_copy_34 : decode cX9_copy 34 = .ok (.aaload, 1) := by decide +kernel
theorem dX9_copy_35 : decode cX9_copy 35 = .ok (.astore 7, 2) := by decide +kernel
theorem dX9_copy_37 : decode cX9_copy 37 = .ok (.aload 6, 2) := by decide +kernel
theorem dX9_copy_39 : decode cX9_copy 39 = .ok (.getfield 280, 3) := by decide +kernel
theorem dX9_copy_42 : decode cX9_copy 42 = .ok (.ifCond .eq 11, 3) := by decide +kernel
theorem dX9_copy_45 : decode cX9_copy 45 = .ok (.aload 7, 2) := by decide +kernel
theorem dX9_copy_47 : decode cX9_copy 47 = .ok (.getfield 280, 3) := by decide +kernel
theorem dX9_copy_50 : decode cX9_copy 50 = .ok (.ifCond .ne 9, 3) := by decide +kernel
theorem dX9_copy_53 : decode cX9_copy 53 = .ok (.aload_n 0, 1) := by decide +kernel
theorem dX9_copy_54 : decode cX9_copy 54 = .ok (.iconst 1, 1) := by decide +kernel
theorem dX9_copy_55 : decode cX9_copy 55 = .ok (.invokevirtual 271, 3) := by decide +kernel
theorem dX9_copy_58 : decode cX9_copy 58 = .ok (.ireturn, 1) := by decide +kernel
theorem dX9_copy_59 : decode cX9_copy 59 = .ok (.aload 6, 2) := by decide +kernel
theorem dX9_copy_61 : decode cX9_copy 61 = .ok (.getfield 283, 3) := by decide +kernel
theorem dX9_copy_64 : decode cX9_copy 64 = .ok (.aload 7, 2) := by decide +kernel
theorem dX9_copy_66 : decode cX9_copy 66 = .ok (.getfield 283, 3) := by decide +kernel
theorem dX9_copy_69 : decode cX9_copy 69 = .ok (.if_icmp .eq 9, 3) := by decide +kernel
theorem dX9_copy_72 : decode cX9_copy 72 = .ok (.aload_n 0, 1) := by decide +kernel
theorem dX9_copy_73 : decode cX9_copy 73 = .ok (.iconst 2, 1) := by decide +kernel
theorem dX9_copy_74 : decode cX9_copy 74 = .ok (.invokevirtual 271, 3) := by decide +kernel
theorem dX9_copy_77 : decode cX9_copy 77 = .ok (.ireturn, 1) := by decide +kernel
theorem dX9_copy_78 : decode cX9_copy 78 = .ok (.iload 5, 2) := by decide +kernel
theorem dX9_copy_80 : decode cX9_copy 80 = .ok (.ifCond .lt 28, 3) := by decide +kernel
theorem dX9_copy_83 : decode cX9_copy 83 = .ok (.aload 6, 2) := by decide +kernel
theorem dX9_copy_85 : decode cX9_copy 85 = .ok (.iload_n 2, 1) := by decide +kernel
theorem dX9_copy_86 : decode cX9_copy 86 = .ok (.iload 5, 2) := by decide +kernel
theorem dX9_copy_88 : decode cX9_copy 88 = .ok (.i2l, 1) := by decide +kernel
theorem dX9_copy_89 : decode cX9_copy 89 = .ok (.invokevirtual 293, 3) := by decide +kernel
theorem dX9_copy_92 : decode cX9_copy 92 = .ok (.ifCond .eq 16, 3) := by decide +kernel
theorem dX9_copy_95 : decode cX9_copy 95 = .ok (.aload 7, 2) := by decide +kernel
theorem dX9_copy_97 : decode cX9_copy 97 = .ok (.iload 4, 2) := by decide +kernel
theorem dX9_copy_99 : decode cX9_copy 99 = .ok (.iload 5, 2) := by decide +kernel
theorem dX9_copy_101 : decode cX9_copy 101 = .ok (.i2l, 1) := by decide +kernel
theorem dX9_copy_102 : decode cX9_copy 102 = .ok (.invokevirtual 293, 3) := by decide +kernel
theorem dX9_copy_105 : decode cX9_copy 105 = .ok (.ifCond .ne 9, 3) := by decide +kernel
theorem dX9_copy_108 : decode cX9_copy 108 = .ok (.aload_n 0, 1) := by decide +kernel
theorem dX9_copy_109 : decode cX9_copy 109 = .ok (.iconst 3, 1) := by decide +kernel
theorem dX9_copy_110 : decode cX9_copy 110 = .ok (.invokevirtual 271, 3) := by decide +kernel
theorem dX9_copy_113 : decode cX9_copy 113 = .ok (.ireturn, 1) := by decide +kernel
theorem dX9_copy_114 : decode cX9_copy 114 = .ok (.aload 6, 2) := by decide +kernel
theorem dX9_copy_116 : decode cX9_copy 116 = .ok (.getfield 297, 3) := by decide +kernel
theorem dX9_copy_119 : decode cX9_copy 119 = .ok (.iload_n 2, 1) := by decide +kernel
theorem dX9_copy_120 : decode cX9_copy 120 = .ok (.aload 7, 2) := by decide +kernel
theorem dX9_copy_122 : decode cX9_copy 122 = .ok (.getfield 297, 3) := by decide +kernel
theorem dX9_copy_125 : decode cX9_copy 125 = .ok (.iload 4, 2) := by decide +kernel
theorem dX9_copy_127 : decode cX9_copy 127 = .ok (.iload 5, 2) := by decide +kernel
theorem dX9_copy_129 : decode cX9_copy 129 = .ok (.invokestatic 300, 3) := by decide +kernel
theorem dX9_copy_132 : decode cX9_copy 132 = .ok (.iload 5, 2) := by decide +kernel
theorem dX9_copy_134 : decode cX9_copy 134 = .ok (.ireturn, 1) := by decide +kernel
set_option maxRecDepth 20000 in
theorem ggX9_tell_X9_knifeAt : GoodIn wsX9_tell wsX9_knifeAt := goodIn_r _ [6, 7, 8, 9, 10, 5, 11, 55, 56, 57, 58, 59, 60, 61, 62, 63, 64, 65] (by decide +kernel) (by decide +kernel)
set_option maxRecDepth 20000 in
theorem gX9_tell_X9_knifeAt : GoodIn wsX9_tell (wsV RX9 89 RX9 yX9_knifeAt wsX9_knifeAt) := goodIn_app (goodIn_of _ (by decide +kernel)) ggX9_tell_X9_knifeAt
set_option maxRecDepth 20000 in
theorem ggX9_tell_X2_telling : GoodIn wsX9_tell wsX2_telling := goodIn_r _ [18, 19, 20, 21, 22, 23, 24, 25, 26, 27, 28, 29, 30, 31, 32, 33, 66, 67, 68, 69, 70, 71, 72, 73, 74, 75, 76, 77, 78, 79, 80, 81, 82, 83, 84] (by decide +kernel) (by decide +kernel)
set_option maxRecDepth 20000 in
theorem gX9_tell_X2_telling_u306X2 : GoodIn wsX9_tell (va_wsO RX9 306 RX2 "KnifeBoard$Knife" ⟨"KnifeBoard$Knife", "telling", "(LKnifeBoard$Trace;)I"⟩ yX2_telling wsX2_telling) := goodIn_app (goodIn_of _ (by decide +kernel)) ggX9_tell_X2_telling
set_option maxRecDepth 20000 in
theorem ggX9_tell_X3_telling : GoodIn wsX9_tell wsX3_telling := goodIn_r _ [34, 38, 39, 40, 28, 29, 30, 31, 32, 20, 21, 22, 23, 24, 41, 42, 43, 67, 68, 69, 70, 71, 72, 73, 74, 75, 76, 77, 78, 79, 80, 81, 82, 83, 84, 66] (by decide +kernel) (by decide +kernel)
set_option maxRecDepth 20000 in
theorem gX9_tell_X3_telling : GoodIn wsX9_tell (wsV RX9 306 RX3 yX3_telling wsX3_telling) := goodIn_app (goodIn_of _ (by decide +kernel)) ggX9_tell_X3_telling
set_option maxRecDepth 20000 in
theorem ggX9_tell_X8_telling : GoodIn wsX9_tell wsX8_telling := goodIn_r _ [47, 48, 20, 21, 22, 23, 24, 49, 50, 51, 16, 17, 18, 19, 25, 26, 27, 28, 29, 30, 31, 32, 33, 52, 53, 54, 66, 67, 68, 69, 70, 71, 72, 73, 74, 75, 76, 77, 78, 79, 80, 81, 82, 83, 84] (by decide +kernel) (by decide +kernel)
set_option maxRecDepth 20000 in
theorem gX9_tell_X8_telling_u306X8 : GoodIn wsX9_tell (va_wsO RX9 306 RX8 "KnifeBoard$Knife" ⟨"KnifeBoard$Knife", "telling", "(LKnifeBoard$Trace;)I"⟩ yX8_telling wsX8_telling) := goodIn_app (goodIn_of _ (by decide +kernel)) ggX9_tell_X8_telling
theorem dX9_tell_0 : decode cX9_tell 0 = .ok (.aload_n 0, 1) := by decide +kernel
theorem dX9_tell_1 : decode cX9_tell 1 = .ok (.iload_n 1, 1) := by decide +kernel
theorem dX9_tell_2 : decode cX9_tell 2 = .ok (.invokevirtual 89, 3) := by decide +kernel
theorem dX9_tell_5 : decode cX9_tell 5 = .ok (.astore_n 2, 1) := by decide +kernel
theorem dX9_tell_6 : decode cX9_tell 6 = .ok (.aload_n 2, 1) := by decide +kernel
theorem dX9_tell_7 : decode cX9_tell 7 = .ok (.ifnonnull 7, 3) := by decide +kernel
theorem dX9_tell_10 : decode cX9_tell 10 = .ok (.iconst (-1), 1) := by decide +kernel
theorem dX9_tell_11 : decode cX9_tell 11 = .ok (.goto 11, 3) := by decide +kernel
theorem dX9_tell_14 : decode cX9_tell 14 = .ok (.aload_n 2, 1) := by decide +kernel
theorem dX9_tell_15 : decode cX9_tell 15 = .ok (.aload_n 0, 1) := by decide +kernel
theorem dX9_tell_16 : decode cX9_tell 16 = .ok (.getfield 67, 3) := by decide +kernel
theorem dX9_tell_19 : decode cX9_tell 19 = .ok (.invokevirtual 306, 3) := by decide +kernel
theorem dX9_tell_22 : decode cX9_tell 22 = .ok (.ireturn, 1) := by decide +kernel
set_option maxRecDepth 20000 in
theorem ggX9_whet_X9_knifeAt : GoodIn wsX9_whet wsX9_knifeAt := goodIn_r _ [6, 7, 8, 9, 10, 5, 11, 33, 34, 35, 36, 37, 38, 39, 40, 41, 42, 43] (by decide +kernel) (by decide +kernel)
set_option maxRecDepth 20000 in
theorem gX9_whet_X9_knifeAt : GoodIn wsX9_whet (wsV RX9 89 RX9 yX9_knifeAt wsX9_knifeAt) := goodIn_app (goodIn_of _ (by decide +kernel)) ggX9_whet_X9_knifeAt
set_option maxRecDepth 20000 in
theorem ggX9_whet_X3_whetting : GoodIn wsX9_whet wsX3_whetting := goodIn_r _ [17, 18, 19, 20, 21, 22, 23, 24, 44, 45, 46, 47, 48, 49, 50, 51, 52, 53, 54, 55, 56, 57, 58, 59, 60, 61, 62] (by decide +kernel) (by decide +kernel)
set_option maxRecDepth 20000 in
theorem gX9_whet_X3_whetting_u310X2 : GoodIn wsX9_whet (va_wsU RX9 310 RX2 "KnifeBoard$Knife" ⟨"KnifeBoard$Knife", "whetting", "(LKnifeBoard$Trace;)I"⟩ yX3_whetting wsX3_whetting) := goodIn_app (goodIn_of _ (by decide +kernel)) ggX9_whet_X3_whetting
set_option maxRecDepth 20000 in
theorem gX9_whet_X3_whetting : GoodIn wsX9_whet (wsV RX9 310 RX3 yX3_whetting wsX3_whetting) := goodIn_app (goodIn_of _ (by decide +kernel)) ggX9_whet_X3_whetting
set_option maxRecDepth 20000 in
theorem ggX9_whet_X8_whetting : GoodIn wsX9_whet wsX8_whetting := goodIn_r _ [31, 32, 20, 21, 22, 23, 24, 62] (by decide +kernel) (by decide +kernel)
set_option maxRecDepth 20000 in
theorem gX9_whet_X8_whetting_u310X8 : GoodIn wsX9_whet (va_wsO RX9 310 RX8 "KnifeBoard$Knife" ⟨"KnifeBoard$Knife", "whetting", "(LKnifeBoard$Trace;)I"⟩ yX8_whetting wsX8_whetting) := goodIn_app (goodIn_of _ (by decide +kernel)) ggX9_whet_X8_whetting
theorem dX9_whet_0 : decode cX9_whet 0 = .ok (.aload_n 0, 1) := by decide +kernel
theorem dX9_whet_1 : decode cX9_whet 1 = .ok (.iload_n 1, 1) := by decide +kernel
theorem dX9_whet_2 : decode cX9_whet 2 = .ok (.invokevirtual 89, 3) := by decide +kernel
theorem dX9_whet_5 : decode cX9_whet 5 = .ok (.astore_n 2, 1) := by decide +kernel
theorem dX9_whet_6 : decode cX9_whet 6 = .ok (.aload_n 2, 1) := by decide +kernel
theorem dX9_whet_7 : decode cX9_whet 7 = .ok (.ifnonnull 7, 3) := by decide +kernel
theorem dX9_whet_10 : decode cX9_whet 10 = .ok (.iconst (-1), 1) := by decide +kernel
theorem dX9_whet_11 : decode cX9_whet 11 = .ok (.goto 11, 3) := by decide +kernel
theorem dX9_whet_14 : decode cX9_whet 14 = .ok (.aload_n 2, 1) := by decide +kernel
theorem dX9_whet_15 : decode cX9_whet 15 = .ok (.aload_n 0, 1) := by decide +kernel
theorem dX9_whet_16 : decode cX9_whet 16 = .ok (.getfield 67, 3) := by decide +kernel
theorem dX9_whet_19 : decode cX9_whet 19 = .ok (.invokevirtual 310, 3) := by decide +kernel
theorem dX9_whet_22 : decode cX9_whet 22 = .ok (.ireturn, 1) := by decide +kernel
set_option maxRecDepth 20000 in
theorem ggX9_as_X9_knifeAt : GoodIn wsX9_as wsX9_knifeAt := goodIn_r _ [8, 9, 10, 11, 12, 7, 13, 18, 19, 20, 21, 22, 23, 24, 25, 26, 27, 28] (by decide +kernel) (by decide +kernel)
set_option maxRecDepth 20000 in
theorem gX9_as_X9_knifeAt : GoodIn wsX9_as (wsV RX9 89 RX9 yX9_knifeAt wsX9_knifeAt) := goodIn_app (goodIn_of _ (by decide +kernel)) ggX9_as_X9_knifeAt
set_option maxRecDepth 20000 in
theorem ggX9_as_X9_within : GoodIn wsX9_as wsX9_within := goodIn_r _ [13] (by decide +kernel) (by decide +kernel)
set_option maxRecDepth 20000 in
theorem gX9_as_X9_within : GoodIn wsX9_as (va_wsS RX9 74 yX9_within wsX9_within) := goodIn_app (goodIn_of _ (by decide +kernel)) ggX9_as_X9_within
set_option maxRecDepth 20000 in
theorem ggX9_as_X9_faulted : GoodIn wsX9_as wsX9_faulted := goodIn_r _ [17, 1, 18, 19, 20, 21, 22, 23, 24, 25, 26, 27, 28] (by decide +kernel) (by decide +kernel)
set_option maxRecDepth 20000 in
theorem gX9_as_X9_faulted : GoodIn wsX9_as (wsV RX9 271 RX9 yX9_faulted wsX9_faulted) := goodIn_app (goodIn_of _ (by decide +kernel)) ggX9_as_X9_faulted
theorem dX9_as_0 : decode cX9_as 0 = .ok (.aload_n 0, 1) := by decide +kernel
theorem dX9_as_1 : decode cX9_as 1 = .ok (.iconst 0, 1) := by decide +kernel
theorem dX9_as_2 : decode cX9_as 2 = .ok (.putfield 71, 3) := by decide +kernel
theorem dX9_as_5 : decode cX9_as 5 = .ok (.aload_n 0, 1) := by decide +kernel
theorem dX9_as_6 : decode cX9_as 6 = .ok (.iload_n 1, 1) := by decide +kernel
theorem dX9_as_7 : decode cX9_as 7 = .ok (.invokevirtual 89, 3) := by decide +kernel
theorem dX9_as_10 : decode cX9_as 10 = .ok (.astore_n 3, 1) := by decide +kernel
theorem dX9_as_11 : decode cX9_as 11 = .ok (.aload_n 3, 1) := by decide +kernel
theorem dX9_as_12 : decode cX9_as 12 = .ok (.ifnonnull 5, 3) := by decide +kernel
theorem dX9_as_15 : decode cX9_as 15 = .ok (.iconst (-1), 1) := by decide +kernel
theorem dX9_as_16 : decode cX9_as 16 = .ok (.ireturn, 1) := by decide +kernel
theorem dX9_as_17 : decode cX9_as 17 = .ok (.iload_n 2, 1) := by decide +kernel
theorem dX9_as_18 : decode cX9_as 18 = .ok (.iconst 0, 1) := by decide +kernel
theorem dX9_as_19 : decode cX9_as 19 = .ok (.iconst 2, 1) := by decide +kernel
theorem dX9_as_20 : decode cX9_as 20 = .ok (.invokestatic 74, 3) := by decide +kernel
theorem dX9_as_23 : decode cX9_as 23 = .ok (.ifCond .ne 6, 3) := by decide +kernel
theorem dX9_as_26 : decode cX9_as 26 = .ok (.bipush (-2), 2) := by decide +kernel
theorem dX9_as_28 : decode cX9_as 28 = .ok (.ireturn, 1) := by decide +kernel
theorem dX9_as_29 : decode cX9_as 29 = .ok (.iload_n 2, 1) := by decide +kernel
theorem dX9_as_30 : decode cX9_as 30 = .ok (.iconst 1, 1) := by decide +kernel
theorem dX9_as_31 : decode cX9_as 31 = .ok (.if_icmp .ne 16, 3) := by decide +kernel
theorem dX9_as_34 : decode cX9_as 34 = .ok (.aload_n 3, 1) := by decide +kernel
theorem dX9_as_35 : decode cX9_as 35 = .ok (.instanceof 81, 3) := by decide +kernel
theorem dX9_as_38 : decode cX9_as 38 = .ok (.ifCond .ne 9, 3) := by decide +kernel
theorem dX9_as_41 : decode cX9_as 41 = .ok (.aload_n 0, 1) := by decide +kernel
theorem dX9_as_42 : decode cX9_as 42 = .ok (.iconst 2, 1) := by decide +kernel
theorem dX9_as_43 : decode cX9_as 43 = .ok (.invokevirtual 271, 3) := by decide +kernel
theorem dX9_as_46 : decode cX9_as 46 = .ok (.ireturn, 1) := by decide +kernel
theorem dX9_as_47 : decode cX9_as 47 = .ok (.iload_n 2, 1) := by decide +kernel
theorem dX9_as_48 : decode cX9_as 48 = .ok (.iconst 2, 1) := by decide +kernel
theorem dX9_as_49 : decode cX9_as 49 = .ok (.if_icmp .ne 16, 3) := by decide +kernel
theorem dX9_as_52 : decode cX9_as 52 = .ok (.aload_n 3, 1) := by decide +kernel
theorem dX9_as_53 : decode cX9_as 53 = .ok (.instanceof 86, 3) := by decide +kernel
theorem dX9_as_56 : decode cX9_as 56 = .ok (.ifCond .ne 9, 3) := by decide +kernel
theorem dX9_as_59 : decode cX9_as 59 = .ok (.aload_n 0, 1) := by decide +kernel
theorem dX9_as_60 : decode cX9_as 60 = .ok (.iconst 2, 1) := by decide +kernel
theorem dX9_as_61 : decode cX9_as 61 = .ok (.invokevirtual 271, 3) := by decide +kernel
theorem dX9_as_64 : decode cX9_as 64 = .ok (.ireturn, 1) := by decide +kernel
theorem dX9_as_65 : decode cX9_as 65 = .ok (.iconst 1, 1) := by decide +kernel
theorem dX9_as_66 : decode cX9_as 66 = .ok (.ireturn, 1) := by decide +kernel
theorem dX9_trace_0 : decode cX9_trace 0 = .ok (.aload_n 0, 1) := by decide +kernel
theorem dX9_trace_1 : decode cX9_trace 1 = .ok (.getfield 67, 3) := by decide +kernel
theorem dX9_trace_4 : decode cX9_trace 4 = .ok (.getfield 313, 3) := by decide +kernel
theorem dX9_trace_7 : decode cX9_trace 7 = .ok (.ireturn, 1) := by decide +kernel
theorem dX9_fault_0 : decode cX9_fault 0 = .ok (.aload_n 0, 1) := by decide +kernel
theorem dX9_fault_1 : decode cX9_fault 1 = .ok (.getfield 71, 3) := by decide +kernel
theorem dX9_fault_4 : decode cX9_fault 4 = .ok (.ireturn, 1) := by decide +kernel
set_option maxRecDepth 20000 in
theorem ggX9_many_X0_count : GoodIn wsX9_many wsX0_count := goodIn_r _ [13, 14, 15, 27, 28, 29] (by decide +kernel) (by decide +kernel)
set_option maxRecDepth 20000 in
theorem gX9_many_X0_count : GoodIn wsX9_many (wsV RX9 166 RX0 yX0_count wsX0_count) := goodIn_app (goodIn_of _ (by decide +kernel)) ggX9_many_X0_count
theorem dX9_many_0 : decode cX9_many 0 = .ok (.iload_n 1, 1) := by decide +kernel
theorem dX9_many_1 : decode cX9_many 1 = .ok (.tableswitch 84 0 5 #[39, 44, 52, 60, 68, 76], 39) := by decide +kernel
theorem dX9_many_40 : decode cX9_many 40 = .ok (.aload_n 0, 1) := by decide +kernel
theorem dX9_many_41 : decode cX9_many 41 = .ok (.getfield 17, 3) := by decide +kernel
theorem dX9_many_44 : decode cX9_many 44 = .ok (.ireturn, 1) := by decide +kernel
theorem dX9_many_45 : decode cX9_many 45 = .ok (.aload_n 0, 1) := by decide +kernel
theorem dX9_many_46 : decode cX9_many 46 = .ok (.getfield 31, 3) := by decide +kernel
theorem dX9_many_49 : decode cX9_many 49 = .ok (.invokevirtual 166, 3) := by decide +kernel
theorem dX9_many_52 : decode cX9_many 52 = .ok (.ireturn, 1) := by decide +kernel
theorem dX9_many_53 : decode cX9_many 53 = .ok (.aload_n 0, 1) := by decide +kernel
theorem dX9_many_54 : decode cX9_many 54 = .ok (.getfield 31, 3) := by decide +kernel
theorem dX9_many_57 : decode cX9_many 57 = .ok (.getfield 316, 3) := by decide +kernel
theorem dX9_many_60 : decode cX9_many 60 = .ok (.ireturn, 1) := by decide +kernel
theorem dX9_many_61 : decode cX9_many 61 = .ok (.aload_n 0, 1) := by decide +kernel
theorem dX9_many_62 : decode cX9_many 62 = .ok (.getfield 31, 3) := by decide +kernel
theorem dX9_many_65 : decode cX9_many 65 = .ok (.getfield 319, 3) := by decide +kernel
theorem dX9_many_68 : decode cX9_many 68 = .ok (.ireturn, 1) := by decide +kernel
theorem dX9_many_69 : decode cX9_many 69 = .ok (.aload_n 0, 1) := by decide +kernel
theorem dX9_many_70 : decode cX9_many 70 = .ok (.getfield 45, 3) := by decide +kernel
theorem dX9_many_73 : decode cX9_many 73 = .ok (.getfield 240, 3) := by decide +kernel
theorem dX9_many_76 : decode cX9_many 76 = .ok (.ireturn, 1) := by decide +kernel
theorem dX9_many_77 : decode cX9_many 77 = .ok (.aload_n 0, 1) := by decide +kernel
theorem dX9_many_78 : decode cX9_many 78 = .ok (.getfield 24, 3) := by decide +kernel
theorem dX9_many_81 : decode cX9_many 81 = .ok (.getfield 322, 3) := by decide +kernel
theorem dX9_many_84 : decode cX9_many 84 = .ok (.ireturn, 1) := by decide +kernel
theorem dX9_many_85 : decode cX9_many 85 = .ok (.bipush (-2), 2) := by decide +kernel
theorem dX9_many_87 : decode cX9_many 87 = .ok (.ireturn, 1) := by decide +kernel
theorem dX9_within_0 : decode cX9_within 0 = .ok (.iload_n 0, 1) := by decide +kernel
theorem dX9_within_1 : decode cX9_within 1 = .ok (.iload_n 1, 1) := by decide +kernel
theorem dX9_within_2 : decode cX9_within 2 = .ok (.if_icmp .lt 12, 3) := by decide +kernel
theorem dX9_within_5 : decode cX9_within 5 = .ok (.iload_n 0, 1) := by decide +kernel
theorem dX9_within_6 : decode cX9_within 6 = .ok (.iload_n 2, 1) := by decide +kernel
theorem dX9_within_7 : decode cX9_within 7 = .ok (.if_icmp .gt 7, 3) := by decide +kernel
theorem dX9_within_10 : decode cX9_within 10 = .ok (.iconst 1, 1) := by decide +kernel
theorem dX9_within_11 : decode cX9_within 11 = .ok (.goto 4, 3) := by decide +kernel
theorem dX9_within_14 : decode cX9_within 14 = .ok (.iconst 0, 1) := by decide +kernel
theorem dX9_within_15 : decode cX9_within 15 = .ok (.ireturn, 1) := by decide +kernel
set_option maxRecDepth 20000 in
theorem ggX9_isThrow_X9_within : GoodIn wsX9_isThrow wsX9_within := goodIn_r _ [4] (by decide +kernel) (by decide +kernel)
set_option maxRecDepth 20000 in
theorem gX9_isThrow_X9_within : GoodIn wsX9_isThrow (va_wsS RX9 74 yX9_within wsX9_within) := goodIn_app (goodIn_of _ (by decide +kernel)) ggX9_isThrow_X9_within
theorem dX9_isThrow_0 : decode cX9_isThrow 0 = .ok (.iload_n 0, 1) := by decide +kernel
theorem dX9_isThrow_1 : decode cX9_isThrow 1 = .ok (.iconst 0, 1) := by decide +kernel
theorem dX9_isThrow_2 : decode cX9_isThrow 2 = .ok (.bipush 23, 2) := by decide +kernel
theorem dX9_isThrow_4 : decode cX9_isThrow 4 = .ok (.invokestatic 74, 3) := by decide +kernel
theorem dX9_isThrow_7 : decode cX9_isThrow 7 = .ok (.ifCond .eq 17, 3) := by decide +kernel
theorem dX9_isThrow_10 : decode cX9_isThrow 10 = .ok (.iload_n 1, 1) := by decide +kernel
theorem dX9_isThrow_11 : decode cX9_isThrow 11 = .ok (.iconst 1, 1) := by decide +kernel
theorem dX9_isThrow_12 : decode cX9_isThrow 12 = .ok (.bipush 40, 2) := by decide +kernel
theorem dX9_isThrow_14 : decode cX9_isThrow 14 = .ok (.invokestatic 74, 3) := by decide +kernel
theorem dX9_isThrow_17 : decode cX9_isThrow 17 = .ok (.ifCond .eq 7, 3) := by decide +kernel
theorem dX9_isThrow_20 : decode cX9_isThrow 20 = .ok (.iconst 1, 1) := by decide +kernel
theorem dX9_isThrow_21 : decode cX9_isThrow 21 = .ok (.goto 4, 3) := by decide +kernel
theorem dX9_isThrow_24 : decode cX9_isThrow 24 = .ok (.iconst 0, 1) := by decide +kernel
theorem dX9_isThrow_25 : decode cX9_isThrow 25 = .ok (.ireturn, 1) := by decide +kernel
set_option maxRecDepth 20000 in
theorem ggX9_isStage_X9_within : GoodIn wsX9_isStage wsX9_within := goodIn_r _ [4] (by decide +kernel) (by decide +kernel)
set_option maxRecDepth 20000 in
theorem gX9_isStage_X9_within : GoodIn wsX9_isStage (va_wsS RX9 74 yX9_within wsX9_within) := goodIn_app (goodIn_of _ (by decide +kernel)) ggX9_isStage_X9_within
theorem dX9_isStage_0 : decode cX9_isStage 0 = .ok (.iload_n 0, 1) := by decide +kernel
theorem dX9_isStage_1 : decode cX9_isStage 1 = .ok (.iconst 0, 1) := by decide +kernel
theorem dX9_isStage_2 : decode cX9_isStage 2 = .ok (.bipush 9, 2) := by decide +kernel
theorem dX9_isStage_4 : decode cX9_isStage 4 = .ok (.invokestatic 74, 3) := by decide +kernel
theorem dX9_isStage_7 : decode cX9_isStage 7 = .ok (.ireturn, 1) := by decide +kernel
set_option maxRecDepth 20000 in
theorem ggX9_isSheet_X9_within : GoodIn wsX9_isSheet wsX9_within := goodIn_r _ [4] (by decide +kernel) (by decide +kernel)
set_option maxRecDepth 20000 in
theorem gX9_isSheet_X9_within : GoodIn wsX9_isSheet (va_wsS RX9 74 yX9_within wsX9_within) := goodIn_app (goodIn_of _ (by decide +kernel)) ggX9_isSheet_X9_within
theorem dX9_isSheet_0 : decode cX9_isSheet 0 = .ok (.iload_n 0, 1) := by decide +kernel
theorem dX9_isSheet_1 : decode cX9_isSheet 1 = .ok (.iconst 0, 1) := by decide +kernel
theorem dX9_isSheet_2 : decode cX9_isSheet 2 = .ok (.iconst 3, 1) := by decide +kernel
theorem dX9_isSheet_3 : decode cX9_isSheet 3 = .ok (.invokestatic 74, 3) := by decide +kernel
theorem dX9_isSheet_6 : decode cX9_isSheet 6 = .ok (.ireturn, 1) := by decide +kernel
set_option maxRecDepth 20000 in
theorem ggX9_knifeAt_X9_within : GoodIn wsX9_knifeAt wsX9_within := goodIn_r _ [6] (by decide +kernel) (by decide +kernel)
set_option maxRecDepth 20000 in
theorem gX9_knifeAt_X9_within : GoodIn wsX9_knifeAt (va_wsS RX9 74 yX9_within wsX9_within) := goodIn_app (goodIn_of _ (by decide +kernel)) ggX9_knifeAt_X9_within
theorem dX9_knifeAt_0 : decode cX9_knifeAt 0 = .ok (.iload_n 1, 1) := by decide +kernel
theorem dX9_knifeAt_1 : decode cX9_knifeAt 1 = .ok (.iconst 0, 1) := by decide +kernel
theorem dX9_knifeAt_2 : decode cX9_knifeAt 2 = .ok (.aload_n 0, 1) := by decide +kernel
theorem dX9_knifeAt_3 : decode cX9_knifeAt 3 = .ok (.getfield 17, 3) := by decide +kernel
theorem dX9_knifeAt_6 : decode cX9_knifeAt 6 = .ok (.iconst 1, 1) := by decide +kernel
theorem dX9_knifeAt_7 : decode cX9_knifeAt 7 = .ok (.isub, 1) := by decide +kernel
theorem dX9_knifeAt_8 : decode cX9_knifeAt 8 = .ok (.invokestatic 74, 3) := by decide +kernel
theorem dX9_knifeAt_11 : decode cX9_knifeAt 11 = .ok (.ifCond .eq 12, 3) := by decide +kernel
theorem dX9_knifeAt_14 : decode cX9_knifeAt 14 = .ok (.aload_n 0, 1) := by decide +kernel
theorem dX9_knifeAt_15 : decode cX9_knifeAt 15 = .ok (.getfield 13, 3) := by decide +kernel
theorem dX9_knifeAt_18 : decode cX9_knifeAt 18 = .ok (.iload_n 1, 1) := by decide +kernel
theorem dX9_knifeAt_19 : decode cX9_knifeAt 19 = .ok (.aaload, 1) := by decide +kernel
theorem dX9_knifeAt_20 : decode cX9_knifeAt 20 = .ok (.goto 4, 3) := by decide +kernel
theorem dX9_knifeAt_23 : decode cX9_knifeAt 23 = .ok (.aconst_null, 1) := by decide +kernel
theorem dX9_knifeAt_24 : decode cX9_knifeAt 24 = .ok (.areturn, 1) := by decide +kernel
set_option maxRecDepth 20000 in
theorem ggX9_share_X9_commonDivisor : GoodIn wsX9_share wsX9_commonDivisor := goodIn_r _ [9] (by decide +kernel) (by decide +kernel)
set_option maxRecDepth 20000 in
theorem gX9_share_X9_commonDivisor : GoodIn wsX9_share (va_wsS RX9 328 yX9_commonDivisor wsX9_commonDivisor) := goodIn_app (goodIn_of _ (by decide +kernel)) ggX9_share_X9_commonDivisor
theorem dX9_share_0 : decode cX9_share 0 = .ok (.lload_n 2, 1) := by decide +kernel
theorem dX9_share_1 : decode cX9_share 1 = .ok (.lconst 0, 1) := by decide +kernel
theorem dX9_share_2 : decode cX9_share 2 = .ok (.lcmp, 1) := by decide +kernel
theorem dX9_share_3 : decode cX9_share 3 = .ok (.ifCond .gt 7, 3) := by decide +kernel
theorem dX9_share_6 : decode cX9_share 6 = .ok (.ldc2_w 113, 3) := by decide +kernel
theorem dX9_share_9 : decode cX9_share 9 = .ok (.lreturn, 1) := by decide +kernel
theorem dX9_share_10 : decode cX9_share 10 = .ok (.lload_n 0, 1) := by decide +kernel
theorem dX9_share_11 : decode cX9_share 11 = .ok (.invokestatic 325, 3) := by decide +kernel
theorem dX9_share_14 : decode cX9_share 14 = .ok (.lload_n 2, 1) := by decide +kernel
theorem dX9_share_15 : decode cX9_share 15 = .ok (.invokestatic 328, 3) := by decide +kernel
theorem dX9_share_18 : decode cX9_share 18 = .ok (.lstore 5, 2) := by decide +kernel
theorem dX9_share_20 : decode cX9_share 20 = .ok (.lload 5, 2) := by decide +kernel
theorem dX9_share_22 : decode cX9_share 22 = .ok (.lconst 0, 1) := by decide +kernel
theorem dX9_share_23 : decode cX9_share 23 = .ok (.lcmp, 1) := by decide +kernel
theorem dX9_share_24 : decode cX9_share 24 = .ok (.ifCond .gt 7, 3) := by decide +kernel
theorem dX9_share_27 : decode cX9_share 27 = .ok (.ldc2_w 113, 3) := by decide +kernel
theorem dX9_share_30 : decode cX9_share 30 = .ok (.lreturn, 1) := by decide +kernel
theorem dX9_share_31 : decode cX9_share 31 = .ok (.iload 4, 2) := by decide +kernel
theorem dX9_share_33 : decode cX9_share 33 = .ok (.ifCond .ne 10, 3) := by decide +kernel
theorem dX9_share_36 : decode cX9_share 36 = .ok (.lload_n 0, 1) := by decide +kernel
theorem dX9_share_37 : decode cX9_share 37 = .ok (.lload 5, 2) := by decide +kernel
theorem dX9_share_39 : decode cX9_share 39 = .ok (.ldiv, 1) := by decide +kernel
theorem dX9_share_40 : decode cX9_share 40 = .ok (.goto 7, 3) := by decide +kernel
theorem dX9_share_43 : decode cX9_share 43 = .ok (.lload_n 2, 1) := by decide +kernel
theorem dX9_share_44 : decode cX9_share 44 = .ok (.lload 5, 2) := by decide +kernel
theorem dX9_share_46 : decode cX9_share 46 = .ok (.ldiv, 1) := by decide +kernel
theorem dX9_share_47 : decode cX9_share 47 = .ok (.lreturn, 1) := by decide +kernel
theorem dX9_commonDivisor_0 : decode cX9_commonDivisor 0 = .ok (.lload_n 0, 1) := by decide +kernel
theorem dX9_commonDivisor_1 : decode cX9_commonDivisor 1 = .ok (.lstore 4, 2) := by decide +kernel
theorem dX9_commonDivisor_3 : decode cX9_commonDivisor 3 = .ok (.lload_n 2, 1) := by decide +kernel
theorem dX9_commonDivisor_4 : decode cX9_commonDivisor 4 = .ok (.lstore 6, 2) := by decide +kernel
theorem dX9_commonDivisor_6 : decode cX9_commonDivisor 6 = .ok (.iconst 0, 1) := by decide +kernel
theorem dX9_commonDivisor_7 : decode cX9_commonDivisor 7 = .ok (.istore 8, 2) := by decide +kernel
theorem dX9_commonDivisor_9 : decode cX9_commonDivisor 9 = .ok (.iload 8, 2) := by decide +kernel
theorem dX9_commonDivisor_11 : decode cX9_commonDivisor 11 = .ok (.sipush 200, 3) := by decide +kernel
theorem dX9_commonDivisor_14 : decode cX9_commonDivisor 14 = .ok (.if_icmp .ge 31, 3) := by decide +kernel
theorem dX9_commonDivisor_17 : decode cX9_commonDivisor 17 = .ok (.lload 6, 2) := by decide +kernel
theorem dX9_commonDivisor_19 : decode cX9_commonDivisor 19 = .ok (.lconst 0, 1) := by decide +kernel
theorem dX9_commonDivisor_20 : decode cX9_commonDivisor 20 = .ok (.lcmp, 1) := by decide +kernel
theorem dX9_commonDivisor_21 : decode cX9_commonDivisor 21 = .ok (.ifCond .eq 24, 3) := by decide +kernel
theorem dX9_commonDivisor_24 : decode cX9_commonDivisor 24 = .ok (.lload 4, 2) := by decide +kernel
theorem dX9_commonDivisor_26 : decode cX9_commonDivisor 26 = .ok (.lload 6, 2) := by decide +kernel
theorem dX9_commonDivisor_28 : decode cX9_commonDivisor 28 = .ok (.lrem, 1) := by decide +kernel
theorem dX9_commonDivisor_29 : decode cX9_commonDivisor 29 = .ok (.lstore 9, 2) := by decide +kernel
theorem dX9_commonDivisor_31 : decode cX9_commonDivisor 31 = .ok (.lload 6, 2) := by decide +kernel
theorem dX9_commonDivisor_33 : decode cX9_commonDivisor 33 = .ok (.lstore 4, 2) := by decide +kernel
theorem dX9_commonDivisor_35 : decode cX9_commonDivisor 35 = .ok (.lload 9, 2) := by decide +kernel
theorem dX9_commonDivisor_37 : decode cX9_commonDivisor 37 = .ok (.lstore 6, 2) := by decide +kernel
theorem dX9_commonDivisor_39 : decode cX9_commonDivisor 39 = .ok (.iinc 8 1, 3) := by decide +kernel
theorem dX9_commonDivisor_42 : decode cX9_commonDivisor 42 = .ok (.goto (-33), 3) := by decide +kernel
theorem dX9_commonDivisor_45 : decode cX9_commonDivisor 45 = .ok (.lload 4, 2) := by decide +kernel
theorem dX9_commonDivisor_47 : decode cX9_commonDivisor 47 = .ok (.lreturn, 1) := by decide +kernel
theorem dX9_faulted_0 : decode cX9_faulted 0 = .ok (.aload_n 0, 1) := by decide +kernel
theorem dX9_faulted_1 : decode cX9_faulted 1 = .ok (.iload_n 1, 1) := by decide +kernel
theorem dX9_faulted_2 : decode cX9_faulted 2 = .ok (.putfield 71, 3) := by decide +kernel
theorem dX9_faulted_5 : decode cX9_faulted 5 = .ok (.bipush (-10), 2) := by decide +kernel
theorem dX9_faulted_7 : decode cX9_faulted 7 = .ok (.iload_n 1, 1) := by decide +kernel
theorem dX9_faulted_8 : decode cX9_faulted 8 = .ok (.isub, 1) := by decide +kernel
theorem dX9_faulted_9 : decode cX9_faulted 9 = .ok (.ireturn, 1) := by decide +kernel
set_option maxRecDepth 20000 in
theorem ggX9_refusesSheet_X9_isSheet : GoodIn wsX9_refusesSheet wsX9_isSheet := goodIn_r _ [4, 5, 6, 3, 7] (by decide +kernel) (by decide +kernel)
set_option maxRecDepth 20000 in
theorem gX9_refusesSheet_X9_isSheet : GoodIn wsX9_refusesSheet (va_wsS RX9 277 yX9_isSheet wsX9_isSheet) := goodIn_app (goodIn_of _ (by decide +kernel)) ggX9_refusesSheet_X9_isSheet
set_option maxRecDepth 20000 in
theorem ggX9_refusesSheet_X9_within : GoodIn wsX9_refusesSheet wsX9_within := goodIn_r _ [7] (by decide +kernel) (by decide +kernel)
set_option maxRecDepth 20000 in
theorem gX9_refusesSheet_X9_within : GoodIn wsX9_refusesSheet (va_wsS RX9 74 yX9_within wsX9_within) := goodIn_app (goodIn_of _ (by decide +kernel)) ggX9_refusesSheet_X9_within
theorem dX9_refusesSheet_0 : decode cX9_refusesSheet 0 = .ok (.iload_n 0, 1) := by decide +kernel
theorem dX9_refusesSheet_1 : decode cX9_refusesSheet 1 = .ok (.invokestatic 277, 3) := by decide +kernel
theorem dX9_refusesSheet_4 : decode cX9_refusesSheet 4 = .ok (.ifCond .ne 5, 3) := by decide +kernel
theorem dX9_refusesSheet_7 : decode cX9_refusesSheet 7 = .ok (.iconst (-1), 1) := by decide +kernel
theorem dX9_refusesSheet_8 : decode cX9_refusesSheet 8 = .ok (.ireturn, 1) := by decide +kernel
theorem dX9_refusesSheet_9 : decode cX9_refusesSheet 9 = .ok (.iload_n 1, 1) := by decide +kernel
theorem dX9_refusesSheet_10 : decode cX9_refusesSheet 10 = .ok (.iconst 0, 1) := by decide +kernel
theorem dX9_refusesSheet_11 : decode cX9_refusesSheet 11 = .ok (.iconst 2, 1) := by decide +kernel
theorem dX9_refusesSheet_12 : decode cX9_refusesSheet 12 = .ok (.invokestatic 74, 3) := by decide +kernel
theorem dX9_refusesSheet_15 : decode cX9_refusesSheet 15 = .ok (.ifCond .eq 7, 3) := by decide +kernel
theorem dX9_refusesSheet_18 : decode cX9_refusesSheet 18 = .ok (.iconst 0, 1) := by decide +kernel
theorem dX9_refusesSheet_19 : decode cX9_refusesSheet 19 = .ok (.goto 5, 3) := by decide +kernel
theorem dX9_refusesSheet_22 : decode cX9_refusesSheet 22 = .ok (.bipush (-2), 2) := by decide +kernel
theorem dX9_refusesSheet_24 : decode cX9_refusesSheet 24 = .ok (.ireturn, 1) := by decide +kernel
set_option maxRecDepth 20000 in
theorem ggX9_takeText_X9_refusesSheet : GoodIn wsX9_takeText wsX9_refusesSheet := goodIn_r _ [5, 6, 7, 4, 8, 9, 10, 11] (by decide +kernel) (by decide +kernel)
set_option maxRecDepth 20000 in
theorem gX9_takeText_X9_refusesSheet : GoodIn wsX9_takeText (va_wsS RX9 196 yX9_refusesSheet wsX9_refusesSheet) := goodIn_app (goodIn_of _ (by decide +kernel)) ggX9_takeText_X9_refusesSheet
set_option maxRecDepth 20000 in
theorem ggX9_takeText_X9_takeCells : GoodIn wsX9_takeText wsX9_takeCells := goodIn_r _ [15, 16, 17, 18, 19, 20, 21, 22, 6, 7, 4, 8, 9, 10, 11, 23, 24, 25, 26, 27, 28, 29, 30, 31, 32, 33, 34, 35, 36, 37, 38, 1, 39, 40, 41, 42, 43, 44, 45, 46, 47, 48, 49, 50, 51, 52, 53] (by decide +kernel) (by decide +kernel)
set_option maxRecDepth 20000 in
theorem gX9_takeText_X9_takeCells : GoodIn wsX9_takeText (wsV RX9 199 RX9 yX9_takeCells wsX9_takeCells) := goodIn_app (goodIn_of _ (by decide +kernel)) ggX9_takeText_X9_takeCells
theorem dX9_takeText_0 : decode cX9_takeText 0 = .ok (.aload_n 0, 1) := by decide +kernel
theorem dX9_takeText_1 : decode cX9_takeText 1 = .ok (.iconst 0, 1) := by decide +kernel
theorem dX9_takeText_2 : decode cX9_takeText 2 = .ok (.putfield 71, 3) := by decide +kernel
theorem dX9_takeText_5 : decode cX9_takeText 5 = .ok (.iload_n 1, 1) := by decide +kernel
theorem dX9_takeText_6 : decode cX9_takeText 6 = .ok (.iload_n 2, 1) := by decide +kernel
theorem dX9_takeText_7 : decode cX9_takeText 7 = .ok (.invokestatic 196, 3) := by decide +kernel
theorem dX9_takeText_10 : decode cX9_takeText 10 = .ok (.istore 5, 2) := by decide +kernel
theorem dX9_takeText_12 : decode cX9_takeText 12 = .ok (.iload 5, 2) := by decide +kernel
theorem dX9_takeText_14 : decode cX9_takeText 14 = .ok (.ifCond .eq 8, 3) := by decide +kernel
theorem dX9_takeText_17 : decode cX9_takeText 17 = .ok (.iload 5, 2) := by decide +kernel
theorem dX9_takeText_19 : decode cX9_takeText 19 = .ok (.goto 13, 3) := by decide +kernel
theorem dX9_takeText_22 : decode cX9_takeText 22 = .ok (.aload_n 0, 1) := by decide +kernel
theorem dX9_takeText_23 : decode cX9_takeText 23 = .ok (.iload_n 1, 1) := by decide +kernel
theorem dX9_takeText_24 : decode cX9_takeText 24 = .ok (.iload_n 2, 1) := by decide +kernel
theorem dX9_takeText_25 : decode cX9_takeText 25 = .ok (.iload_n 3, 1) := by decide +kernel
theorem dX9_takeText_26 : decode cX9_takeText 26 = .ok (.iload 4, 2) := by decide +kernel
theorem dX9_takeText_28 : decode cX9_takeText 28 = .ok (.i2l, 1) := by decide +kernel
theorem dX9_takeText_29 : decode cX9_takeText 29 = .ok (.invokevirtual 199, 3) := by decide +kernel
theorem dX9_takeText_32 : decode cX9_takeText 32 = .ok (.ireturn, 1) := by decide +kernel
set_option maxRecDepth 20000 in
theorem ggX9_takeCells_X9_isSheet : GoodIn wsX9_takeCells wsX9_isSheet := goodIn_r _ [11, 12, 13, 10, 14] (by decide +kernel) (by decide +kernel)
set_option maxRecDepth 20000 in
theorem gX9_takeCells_X9_isSheet : GoodIn wsX9_takeCells (va_wsS RX9 277 yX9_isSheet wsX9_isSheet) := goodIn_app (goodIn_of _ (by decide +kernel)) ggX9_takeCells_X9_isSheet
set_option maxRecDepth 20000 in
theorem ggX9_takeCells_X6_faultOfTaking : GoodIn wsX9_takeCells wsX6_faultOfTaking := goodIn_r _ [19, 20, 21, 22, 23, 24, 18, 25, 26, 13, 10, 14, 43, 44, 45, 46] (by decide +kernel) (by decide +kernel)
set_option maxRecDepth 20000 in
theorem gX9_takeCells_X6_faultOfTaking : GoodIn wsX9_takeCells (wsV RX9 286 RX6 yX6_faultOfTaking wsX6_faultOfTaking) := goodIn_app (goodIn_of _ (by decide +kernel)) ggX9_takeCells_X6_faultOfTaking
set_option maxRecDepth 20000 in
theorem ggX9_takeCells_X9_faulted : GoodIn wsX9_takeCells wsX9_faulted := goodIn_r _ [30, 31, 32, 33, 34, 35, 36, 37, 38, 39, 40, 41, 42] (by decide +kernel) (by decide +kernel)
set_option maxRecDepth 20000 in
theorem gX9_takeCells_X9_faulted : GoodIn wsX9_takeCells (wsV RX9 271 RX9 yX9_faulted wsX9_faulted) := goodIn_app (goodIn_of _ (by decide +kernel)) ggX9_takeCells_X9_faulted
theorem dX9_takeCells_0 : decode cX9_takeCells 0 = .ok (.iload_n 1, 1) := by decide +kernel
theorem dX9_takeCells_1 : decode cX9_takeCells 1 = .ok (.invokestatic 277, 3) := by decide +kernel
theorem dX9_takeCells_4 : decode cX9_takeCells 4 = .ok (.ifCond .ne 5, 3) := by decide +kernel
theorem dX9_takeCells_7 : decode cX9_takeCells 7 = .ok (.iconst (-1), 1) := by decide +kernel
theorem dX9_takeCells_8 : decode cX9_takeCells 8 = .ok (.ireturn, 1) := by decide +kernel
theorem dX9_takeCells_9 : decode cX9_takeCells 9 = .ok (.aload_n 0, 1) := by decide +kernel
theorem dX9_takeCells_10 : decode cX9_takeCells 10 = .ok (.getfield 52, 3) := by decide +kernel
theorem dX9_takeCells_13 : decode cX9_takeCells 13 = .ok (.iload_n 1, 1) := by decide +kernel
theorem dX9_takeCells_14 : decode cX9_takeCells 14 = .ok (.aaload, 1) := by decide +kernel
theorem dX9_takeCells_15 : decode cX9_takeCells 15 = .ok (.astore 6, 2) := by decide +kernel
theorem dX9_takeCells_17 : decode cX9_takeCells 17 = .ok (.aload 6, 2) := by decide +kernel
theorem dX9_takeCells_19 : decode cX9_takeCells 19 = .ok (.iload_n 2, 1) := by decide +kernel
theorem dX9_takeCells_20 : decode cX9_takeCells 20 = .ok (.iload_n 3, 1) := by decide +kernel
theorem dX9_takeCells_21 : decode cX9_takeCells 21 = .ok (.lload 4, 2) := by decide +kernel
theorem dX9_takeCells_23 : decode cX9_takeCells 23 = .ok (.invokevirtual 286, 3) := by decide +kernel
theorem dX9_takeCells_26 : decode cX9_takeCells 26 = .ok (.istore 7, 2) := by decide +kernel
theorem dX9_takeCells_28 : decode cX9_takeCells 28 = .ok (.iload 7, 2) := by decide +kernel
theorem dX9_takeCells_30 : decode cX9_takeCells 30 = .ok (.ifCond .eq 10, 3) := by decide +kernel
theorem dX9_takeCells_33 : decode cX9_takeCells 33 = .ok (.aload_n 0, 1) := by decide +kernel
theorem dX9_takeCells_34 : decode cX9_takeCells 34 = .ok (.iload 7, 2) := by decide +kernel
theorem dX9_takeCells_36 : decode cX9_takeCells 36 = .ok (.invokevirtual 271, 3) := by decide +kernel
theorem dX9_takeCells_39 : decode cX9_takeCells 39 = .ok (.ireturn, 1) := by decide +kernel
theorem dX9_takeCells_40 : decode cX9_takeCells 40 = .ok (.aload 6, 2) := by decide +kernel
theorem dX9_takeCells_42 : decode cX9_takeCells 42 = .ok (.getfield 297, 3) := by decide +kernel
theorem dX9_takeCells_45 : decode cX9_takeCells 45 = .ok (.iload_n 3, 1) := by decide +kernel
theorem dX9_takeCells_46 : decode cX9_takeCells 46 = .ok (.aload_n 0, 1) := by decide +kernel
theorem dX9_takeCells_47 : decode cX9_takeCells 47 = .ok (.getfield 56, 3) := by decide +kernel
theorem dX9_takeCells_50 : decode cX9_takeCells 50 = .ok (.iconst 0, 1) := by decide +kernel
theorem dX9_takeCells_51 : decode cX9_takeCells 51 = .ok (.lload 4, 2) := by decide +kernel
theorem dX9_takeCells_53 : decode cX9_takeCells 53 = .ok (.l2i, 1) := by decide +kernel
theorem dX9_takeCells_54 : decode cX9_takeCells 54 = .ok (.invokestatic 300, 3) := by decide +kernel
theorem dX9_takeCells_57 : decode cX9_takeCells 57 = .ok (.iconst 0, 1) := by decide +kernel
theorem dX9_takeCells_58 : decode cX9_takeCells 58 = .ok (.ireturn, 1) := by decide +kernel
set_option maxRecDepth 20000 in
theorem ggX9_takeChalk_X9_refusesSheet : GoodIn wsX9_takeChalk wsX9_refusesSheet := goodIn_r _ [6, 7, 8, 5, 9, 10, 11, 12] (by decide +kernel) (by decide +kernel)
set_option maxRecDepth 20000 in
theorem gX9_takeChalk_X9_refusesSheet : GoodIn wsX9_takeChalk (va_wsS RX9 196 yX9_refusesSheet wsX9_refusesSheet) := goodIn_app (goodIn_of _ (by decide +kernel)) ggX9_takeChalk_X9_refusesSheet
set_option maxRecDepth 20000 in
theorem ggX9_takeChalk_X9_takeCells : GoodIn wsX9_takeChalk wsX9_takeCells := goodIn_r _ [16, 17, 18, 2, 19, 20, 21, 22, 7, 8, 5, 9, 10, 11, 12, 23, 24, 25, 26, 27, 28, 29, 30, 31, 32, 33, 34, 35, 36, 37, 38, 39, 40, 41, 42, 43, 44, 45, 46, 47, 48, 49, 50, 51, 52, 53, 54] (by decide +kernel) (by decide +kernel)
set_option maxRecDepth 20000 in
theorem gX9_takeChalk_X9_takeCells : GoodIn wsX9_takeChalk (wsV RX9 199 RX9 yX9_takeCells wsX9_takeCells) := goodIn_app (goodIn_of _ (by decide +kernel)) ggX9_takeChalk_X9_takeCells
set_option maxRecDepth 20000 in
theorem ggX9_takeChalk_X9_within : GoodIn wsX9_takeChalk wsX9_within := goodIn_r _ [12] (by decide +kernel) (by decide +kernel)
set_option maxRecDepth 20000 in
theorem gX9_takeChalk_X9_within : GoodIn wsX9_takeChalk (va_wsS RX9 74 yX9_within wsX9_within) := goodIn_app (goodIn_of _ (by decide +kernel)) ggX9_takeChalk_X9_within
theorem dX9_takeChalk_0 : decode cX9_takeChalk 0 = .ok (.iload_n 1, 1) := by decide +kernel
theorem dX9_takeChalk_1 : decode cX9_takeChalk 1 = .ok (.iload_n 2, 1) := by decide +kernel
theorem dX9_takeChalk_2 : decode cX9_takeChalk 2 = .ok (.invokestatic 196, 3) := by decide +kernel
theorem dX9_takeChalk_5 : decode cX9_takeChalk 5 = .ok (.ifCond .eq 5, 3) := by decide +kernel
theorem dX9_takeChalk_8 : decode cX9_takeChalk 8 = .ok (.iconst 0, 1) := by decide +kernel
theorem dX9_takeChalk_9 : decode cX9_takeChalk 9 = .ok (.ireturn, 1) := by decide +kernel
theorem dX9_takeChalk_10 : decode cX9_takeChalk 10 = .ok (.aload_n 0, 1) := by decide +kernel
theorem dX9_takeChalk_11 : decode cX9_takeChalk 11 = .ok (.iload_n 1, 1) := by decide +kernel
theorem dX9_takeChalk_12 : decode cX9_takeChalk 12 = .ok (.iload_n 2, 1) := by decide +kernel
theorem dX9_takeChalk_13 : decode cX9_takeChalk 13 = .ok (.iload_n 3, 1) := by decide +kernel
theorem dX9_takeChalk_14 : decode cX9_takeChalk 14 = .ok (.ldc2_w 332, 3) := by decide +kernel
theorem dX9_takeChalk_17 : decode cX9_takeChalk 17 = .ok (.iload 4, 2) := by decide +kernel
theorem dX9_takeChalk_19 : decode cX9_takeChalk 19 = .ok (.i2l, 1) := by decide +kernel
theorem dX9_takeChalk_20 : decode cX9_takeChalk 20 = .ok (.lmul, 1) := by decide +kernel
theorem dX9_takeChalk_21 : decode cX9_takeChalk 21 = .ok (.invokevirtual 199, 3) := by decide +kernel
theorem dX9_takeChalk_24 : decode cX9_takeChalk 24 = .ok (.ifCond .eq 5, 3) := by decide +kernel
theorem dX9_takeChalk_27 : decode cX9_takeChalk 27 = .ok (.iconst 0, 1) := by decide +kernel
theorem dX9_takeChalk_28 : decode cX9_takeChalk 28 = .ok (.ireturn, 1) := by decide +kernel
theorem dX9_takeChalk_29 : decode cX9_takeChalk 29 = .ok (.iload 4, 2) := by decide +kernel
theorem dX9_takeChalk_31 : decode cX9_takeChalk 31 = .ok (.iconst 1, 1) := by decide +kernel
theorem dX9_takeChalk_32 : decode cX9_takeChalk 32 = .ok (.bipush 40, 2) := by decide +kernel
theorem dX9_takeChalk_34 : decode cX9_takeChalk 34 = .ok (.invokestatic 74, 3) := by decide +kernel
theorem dX9_takeChalk_37 : decode cX9_takeChalk 37 = .ok (.ifCond .ne 5, 3) := by decide +kernel
theorem dX9_takeChalk_40 : decode cX9_takeChalk 40 = .ok (.iconst 0, 1) := by decide +kernel
theorem dX9_takeChalk_41 : decode cX9_takeChalk 41 = .ok (.ireturn, 1) := by decide +kernel
theorem dX9_takeChalk_42 : decode cX9_takeChalk 42 = .ok (.iconst 0, 1) := by decide +kernel
theorem dX9_takeChalk_43 : decode cX9_takeChalk 43 = .ok (.istore 5, 2) := by decide +kernel
theorem dX9_takeChalk_45 : decode cX9_takeChalk 45 = .ok (.iload 5, 2) := by decide +kernel
theorem dX9_takeChalk_47 : decode cX9_takeChalk 47 = .ok (.iconst 2, 1) := by decide +kernel
theorem dX9_takeChalk_48 : decode cX9_takeChalk 48 = .ok (.iload 4, 2) := by decide +kernel
theorem dX9_takeChalk_50 : decode cX9_takeChalk 50 = .ok (.imul, 1) := by decide +kernel
theorem dX9_takeChalk_51 : decode cX9_takeChalk 51 = .ok (.if_icmp .ge 28, 3) := by decide +kernel
theorem dX9_takeChalk_54 : decode cX9_takeChalk 54 = .ok (.aload_n 0, 1) := by decide +kernel
theorem dX9_takeChalk_55 : decode cX9_takeChalk 55 = .ok (.getfield 56, 3) := by decide +kernel
theorem dX9_takeChalk_58 : decode cX9_takeChalk 58 = .ok (.iload 5, 2) := by decide +kernel
theorem dX9_takeChalk_60 : decode cX9_takeChalk 60 = .ok (.iaload, 1) := by decide +kernel
theorem dX9_takeChalk_61 : decode cX9_takeChalk 61 = .ok (.bipush (-99), 2) := by decide +kernel
theorem dX9_takeChalk_63 : decode cX9_takeChalk 63 = .ok (.bipush 99, 2) := by decide +kernel
theorem dX9_takeChalk_65 : decode cX9_takeChalk 65 = .ok (.invokestatic 74, 3) := by decide +kernel
theorem dX9_takeChalk_68 : decode cX9_takeChalk 68 = .ok (.ifCond .ne 5, 3) := by decide +kernel
theorem dX9_takeChalk_71 : decode cX9_takeChalk 71 = .ok (.iconst 0, 1) := by decide +kernel
theorem dX9_takeChalk_72 : decode cX9_takeChalk 72 = .ok (.ireturn, 1) := by decide +kernel
theorem dX9_takeChalk_73 : decode cX9_takeChalk 73 = .ok (.iinc 5 1, 3) := by decide +kernel
theorem dX9_takeChalk_76 : decode cX9_takeChalk 76 = .ok (.goto (-31), 3) := by decide +kernel
theorem dX9_takeChalk_79 : decode cX9_takeChalk 79 = .ok (.iconst 1, 1) := by decide +kernel
theorem dX9_takeChalk_80 : decode cX9_takeChalk 80 = .ok (.ireturn, 1) := by decide +kernel
set_option maxRecDepth 20000 in
theorem ggX9_refusesCells_X0_knows : GoodIn wsX9_refusesCells wsX0_knows := goodIn_r _ [7, 8, 9, 10, 6, 11, 12, 13, 14, 15, 16, 28, 29, 30] (by decide +kernel) (by decide +kernel)
set_option maxRecDepth 20000 in
theorem gX9_refusesCells_X0_knows : GoodIn wsX9_refusesCells (wsV RX9 169 RX0 yX0_knows wsX0_knows) := goodIn_app (goodIn_of _ (by decide +kernel)) ggX9_refusesCells_X0_knows
theorem dX9_refusesCells_0 : decode cX9_refusesCells 0 = .ok (.iconst 0, 1) := by decide +kernel
theorem dX9_refusesCells_1 : decode cX9_refusesCells 1 = .ok (.istore_n 2, 1) := by decide +kernel
theorem dX9_refusesCells_2 : decode cX9_refusesCells 2 = .ok (.iload_n 2, 1) := by decide +kernel
theorem dX9_refusesCells_3 : decode cX9_refusesCells 3 = .ok (.iload_n 1, 1) := by decide +kernel
theorem dX9_refusesCells_4 : decode cX9_refusesCells 4 = .ok (.if_icmp .ge 27, 3) := by decide +kernel
theorem dX9_refusesCells_7 : decode cX9_refusesCells 7 = .ok (.aload_n 0, 1) := by decide +kernel
theorem dX9_refusesCells_8 : decode cX9_refusesCells 8 = .ok (.getfield 31, 3) := by decide +kernel
theorem dX9_refusesCells_11 : decode cX9_refusesCells 11 = .ok (.aload_n 0, 1) := by decide +kernel
theorem dX9_refusesCells_12 : decode cX9_refusesCells 12 = .ok (.getfield 56, 3) := by decide +kernel
theorem dX9_refusesCells_15 : decode cX9_refusesCells 15 = .ok (.iload_n 2, 1) := by decide +kernel
theorem dX9_refusesCells_16 : decode cX9_refusesCells 16 = .ok (.iaload, 1) := by decide +kernel
theorem dX9_refusesCells_17 : decode cX9_refusesCells 17 = .ok (.invokevirtual 169, 3) := by decide +kernel
theorem dX9_refusesCells_20 : decode cX9_refusesCells 20 = .ok (.ifCond .ne 5, 3) := by decide +kernel
theorem dX9_refusesCells_23 : decode cX9_refusesCells 23 = .ok (.iconst (-1), 1) := by decide +kernel
theorem dX9_refusesCells_24 : decode cX9_refusesCells 24 = .ok (.ireturn, 1) := by decide +kernel
theorem dX9_refusesCells_25 : decode cX9_refusesCells 25 = .ok (.iinc 2 1, 3) := by decide +kernel
theorem dX9_refusesCells_28 : decode cX9_refusesCells 28 = .ok (.goto (-26), 3) := by decide +kernel
theorem dX9_refusesCells_31 : decode cX9_refusesCells 31 = .ok (.iconst 0, 1) := by decide +kernel
theorem dX9_refusesCells_32 : decode cX9_refusesCells 32 = .ok (.istore_n 2, 1) := by decide +kernel
theorem dX9_refusesCells_33 : decode cX9_refusesCells 33 = .ok (.iload_n 2, 1) := by decide +kernel
theorem dX9_refusesCells_34 : decode cX9_refusesCells 34 = .ok (.iload_n 1, 1) := by decide +kernel
theorem dX9_refusesCells_35 : decode cX9_refusesCells 35 = .ok (.if_icmp .ge 40, 3) := by decide +kernel
theorem dX9_refusesCells_38 : decode cX9_refusesCells 38 = .ok (.iconst 0, 1) := by decide +kernel
theorem dX9_refusesCells_39 : decode cX9_refusesCells 39 = .ok (.istore_n 3, 1) := by decide +kernel
theorem dX9_refusesCells_40 : decode cX9_refusesCells 40 = .ok (.iload_n 3, 1) := by decide +kernel
theorem dX9_refusesCells_41 : decode cX9_refusesCells 41 = .ok (.iload_n 2, 1) := by decide +kernel
theorem dX9_refusesCells_42 : decode cX9_refusesCells 42 = .ok (.if_icmp .ge 27, 3) := by decide +kernel
theorem dX9_refusesCells_45 : decode cX9_refusesCells 45 = .ok (.aload_n 0, 1) := by decide +kernel
theorem dX9_refusesCells_46 : decode cX9_refusesCells 46 = .ok (.getfield 56, 3) := by decide +kernel
theorem dX9_refusesCells_49 : decode cX9_refusesCells 49 = .ok (.iload_n 3, 1) := by decide +kernel
theorem dX9_refusesCells_50 : decode cX9_refusesCells 50 = .ok (.iaload, 1) := by decide +kernel
theorem dX9_refusesCells_51 : decode cX9_refusesCells 51 = .ok (.aload_n 0, 1) := by decide +kernel
theorem dX9_refusesCells_52 : decode cX9_refusesCells 52 = .ok (.getfield 56, 3) := by decide +kernel
theorem dX9_refusesCells_55 : decode cX9_refusesCells 55 = .ok (.iload_n 2, 1) := by decide +kernel
theorem dX9_refusesCells_56 : decode cX9_refusesCells 56 = .ok (.iaload, 1) := by decide +kernel
theorem dX9_refusesCells_57 : decode cX9_refusesCells 57 = .ok (.if_icmp .ne 6, 3) := by decide +kernel
theorem dX9_refusesCells_60 : decode cX9_refusesCells 60 = .ok (.bipush (-2), 2) := by decide +kernel
theorem dX9_refusesCells_62 : decode cX9_refusesCells 62 = .ok (.ireturn, 1) := by decide +kernel
theorem dX9_refusesCells_63 : decode cX9_refusesCells 63 = .ok (.iinc 3 1, 3) := by decide +kernel
theorem dX9_refusesCells_66 : decode cX9_refusesCells 66 = .ok (.goto (-26), 3) := by decide +kernel
theorem dX9_refusesCells_69 : decode cX9_refusesCells 69 = .ok (.iinc 2 1, 3) := by decide +kernel
theorem dX9_refusesCells_72 : decode cX9_refusesCells 72 = .ok (.goto (-39), 3) := by decide +kernel
theorem dX9_refusesCells_75 : decode cX9_refusesCells 75 = .ok (.iconst 0, 1) := by decide +kernel
theorem dX9_refusesCells_76 : decode cX9_refusesCells 76 = .ok (.ireturn, 1) := by decide +kernel
set_option maxRecDepth 20000 in
theorem ggX9_refusesRule_X9_within : GoodIn wsX9_refusesRule wsX9_within := goodIn_r _ [7] (by decide +kernel) (by decide +kernel)
set_option maxRecDepth 20000 in
theorem gX9_refusesRule_X9_within : GoodIn wsX9_refusesRule (va_wsS RX9 74 yX9_within wsX9_within) := goodIn_app (goodIn_of _ (by decide +kernel)) ggX9_refusesRule_X9_within
set_option maxRecDepth 20000 in
theorem ggX9_refusesRule_X9_isStage : GoodIn wsX9_refusesRule wsX9_isStage := goodIn_r _ [10, 4, 5, 6, 7] (by decide +kernel) (by decide +kernel)
set_option maxRecDepth 20000 in
theorem gX9_refusesRule_X9_isStage : GoodIn wsX9_refusesRule (va_wsS RX9 141 yX9_isStage wsX9_isStage) := goodIn_app (goodIn_of _ (by decide +kernel)) ggX9_refusesRule_X9_isStage
set_option maxRecDepth 20000 in
theorem ggX9_refusesRule_X0_count : GoodIn wsX9_refusesRule wsX0_count := goodIn_r _ [15, 16, 17, 32, 33, 34] (by decide +kernel) (by decide +kernel)
set_option maxRecDepth 20000 in
theorem gX9_refusesRule_X0_count : GoodIn wsX9_refusesRule (wsV RX9 166 RX0 yX0_count wsX0_count) := goodIn_app (goodIn_of _ (by decide +kernel)) ggX9_refusesRule_X0_count
theorem dX9_refusesRule_0 : decode cX9_refusesRule 0 = .ok (.iload_n 1, 1) := by decide +kernel
theorem dX9_refusesRule_1 : decode cX9_refusesRule 1 = .ok (.iconst 0, 1) := by decide +kernel
theorem dX9_refusesRule_2 : decode cX9_refusesRule 2 = .ok (.sipush 1000, 3) := by decide +kernel
theorem dX9_refusesRule_5 : decode cX9_refusesRule 5 = .ok (.invokestatic 74, 3) := by decide +kernel
theorem dX9_refusesRule_8 : decode cX9_refusesRule 8 = .ok (.ifCond .eq 10, 3) := by decide +kernel
theorem dX9_refusesRule_11 : decode cX9_refusesRule 11 = .ok (.iload_n 2, 1) := by decide +kernel
theorem dX9_refusesRule_12 : decode cX9_refusesRule 12 = .ok (.invokestatic 141, 3) := by decide +kernel
theorem dX9_refusesRule_15 : decode cX9_refusesRule 15 = .ok (.ifCond .ne 6, 3) := by decide +kernel
theorem dX9_refusesRule_18 : decode cX9_refusesRule 18 = .ok (.bipush (-2), 2) := by decide +kernel
theorem dX9_refusesRule_20 : decode cX9_refusesRule 20 = .ok (.ireturn, 1) := by decide +kernel
theorem dX9_refusesRule_21 : decode cX9_refusesRule 21 = .ok (.aload_n 0, 1) := by decide +kernel
theorem dX9_refusesRule_22 : decode cX9_refusesRule 22 = .ok (.getfield 24, 3) := by decide +kernel
theorem dX9_refusesRule_25 : decode cX9_refusesRule 25 = .ok (.getfield 145, 3) := by decide +kernel
theorem dX9_refusesRule_28 : decode cX9_refusesRule 28 = .ok (.ifCond .eq 17, 3) := by decide +kernel
theorem dX9_refusesRule_31 : decode cX9_refusesRule 31 = .ok (.aload_n 0, 1) := by decide +kernel
theorem dX9_refusesRule_32 : decode cX9_refusesRule 32 = .ok (.getfield 31, 3) := by decide +kernel
theorem dX9_refusesRule_35 : decode cX9_refusesRule 35 = .ok (.invokevirtual 166, 3) := by decide +kernel
theorem dX9_refusesRule_38 : decode cX9_refusesRule 38 = .ok (.ifCond .le 7, 3) := by decide +kernel
theorem dX9_refusesRule_41 : decode cX9_refusesRule 41 = .ok (.iconst 0, 1) := by decide +kernel
theorem dX9_refusesRule_42 : decode cX9_refusesRule 42 = .ok (.goto 5, 3) := by decide +kernel
theorem dX9_refusesRule_45 : decode cX9_refusesRule 45 = .ok (.bipush (-3), 2) := by decide +kernel
theorem dX9_refusesRule_47 : decode cX9_refusesRule 47 = .ok (.ireturn, 1) := by decide +kernel
set_option maxRecDepth 20000 in
theorem ggX9_stickWeight_X3_holdsFast : GoodIn wsX9_stickWeight wsX3_holdsFast := goodIn_r _ [7, 8, 9, 10, 11, 12, 6, 13, 14, 15, 16, 17, 18, 19, 20, 21, 22, 23, 24, 25, 26, 27, 28, 29, 30, 31, 32, 33, 34, 35, 36, 37, 38, 39, 40, 41, 42, 67, 68, 69, 70, 71, 72, 73, 74, 75, 76, 77, 78, 79, 80, 81, 82, 83, 84] (by decide +kernel) (by decide +kernel)
set_option maxRecDepth 20000 in
theorem gX9_stickWeight_X3_holdsFast_u126X2 : GoodIn wsX9_stickWeight (va_wsU RX9 126 RX2 "KnifeBoard$Knife" ⟨"KnifeBoard$Knife", "holdsFast", "(II)Z"⟩ yX3_holdsFast wsX3_holdsFast) := goodIn_app (goodIn_of _ (by decide +kernel)) ggX9_stickWeight_X3_holdsFast
set_option maxRecDepth 20000 in
theorem gX9_stickWeight_X3_holdsFast : GoodIn wsX9_stickWeight (wsV RX9 126 RX3 yX3_holdsFast wsX3_holdsFast) := goodIn_app (goodIn_of _ (by decide +kernel)) ggX9_stickWeight_X3_holdsFast
set_option maxRecDepth 20000 in
theorem gX9_stickWeight_X3_holdsFast_u126X8 : GoodIn wsX9_stickWeight (va_wsU RX9 126 RX8 "KnifeBoard$Knife" ⟨"KnifeBoard$Knife", "holdsFast", "(II)Z"⟩ yX3_holdsFast wsX3_holdsFast) := goodIn_app (goodIn_of _ (by decide +kernel)) ggX9_stickWeight_X3_holdsFast
set_option maxRecDepth 20000 in
theorem ggX9_stickWeight_X1_weighs : GoodIn wsX9_stickWeight wsX1_weighs := goodIn_r _ [50, 51, 52, 53, 54, 55, 85, 86, 87] (by decide +kernel) (by decide +kernel)
set_option maxRecDepth 20000 in
theorem gX9_stickWeight_X1_weighs : GoodIn wsX9_stickWeight (wsV RX9 149 RX1 yX1_weighs wsX1_weighs) := goodIn_app (goodIn_of _ (by decide +kernel)) ggX9_stickWeight_X1_weighs
theorem dX9_stickWeight_0 : decode cX9_stickWeight 0 = .ok (.iconst 0, 1) := by decide +kernel
theorem dX9_stickWeight_1 : decode cX9_stickWeight 1 = .ok (.istore 5, 2) := by decide +kernel
theorem dX9_stickWeight_3 : decode cX9_stickWeight 3 = .ok (.bipush (-2), 2) := by decide +kernel
theorem dX9_stickWeight_5 : decode cX9_stickWeight 5 = .ok (.istore 6, 2) := by decide +kernel
theorem dX9_stickWeight_7 : decode cX9_stickWeight 7 = .ok (.iload 6, 2) := by decide +kernel
theorem dX9_stickWeight_9 : decode cX9_stickWeight 9 = .ok (.iconst 2, 1) := by decide +kernel
theorem dX9_stickWeight_10 : decode cX9_stickWeight 10 = .ok (.if_icmp .gt 44, 3) := by decide +kernel
theorem dX9_stickWeight_13 : decode cX9_stickWeight 13 = .ok (.aload_n 1, 1) := by decide +kernel
theorem dX9_stickWeight_14 : decode cX9_stickWeight 14 = .ok (.iload_n 2, 1) := by decide +kernel
theorem dX9_stickWeight_15 : decode cX9_stickWeight 15 = .ok (.iload 6, 2) := by decide +kernel
theorem dX9_stickWeight_17 : decode cX9_stickWeight 17 = .ok (.iadd, 1) := by decide +kernel
theorem dX9_stickWeight_18 : decode cX9_stickWeight 18 = .ok (.bipush 24, 2) := by decide +kernel
theorem dX9_stickWeight_20 : decode cX9_stickWeight 20 = .ok (.iadd, 1) := by decide +kernel
theorem dX9_stickWeight_21 : decode cX9_stickWeight 21 = .ok (.bipush 24, 2) := by decide +kernel
theorem dX9_stickWeight_23 : decode cX9_stickWeight 23 = .ok (.irem, 1) := by decide +kernel
theorem dX9_stickWeight_24 : decode cX9_stickWeight 24 = .ok (.iload_n 3, 1) := by decide +kernel
theorem dX9_stickWeight_25 : decode cX9_stickWeight 25 = .ok (.invokevirtual 126, 3) := by decide +kernel
theorem dX9_stickWeight_28 : decode cX9_stickWeight 28 = .ok (.ifCond .eq 20, 3) := by decide +kernel
theorem dX9_stickWeight_31 : decode cX9_stickWeight 31 = .ok (.iload 5, 2) := by decide +kernel
theorem dX9_stickWeight_33 : decode cX9_stickWeight 33 = .ok (.aload_n 0, 1) := by decide +kernel
theorem dX9_stickWeight_34 : decode cX9_stickWeight 34 = .ok (.getfield 24, 3) := by decide +kernel
theorem dX9_stickWeight_37 : decode cX9_stickWeight 37 = .ok (.iconst 0, 1) := by decide +kernel
theorem dX9_stickWeight_38 : decode cX9_stickWeight 38 = .ok (.iload 6, 2) := by decide +kernel
theorem dX9_stickWeight_40 : decode cX9_stickWeight 40 = .ok (.iload 4, 2) := by decide +kernel
theorem dX9_stickWeight_42 : decode cX9_stickWeight 42 = .ok (.invokevirtual 149, 3) := by decide +kernel
theorem dX9_stickWeight_45 : decode cX9_stickWeight 45 = .ok (.iadd, 1) := by decide +kernel
theorem dX9_stickWeight_46 : decode cX9_stickWeight 46 = .ok (.istore 5, 2) := by decide +kernel
theorem dX9_stickWeight_48 : decode cX9_stickWeight 48 = .ok (.iinc 6 1, 3) := by decide +kernel
theorem dX9_stickWeight_51 : decode cX9_stickWeight 51 = .ok (.goto (-44), 3) := by decide +kernel
theorem dX9_stickWeight_54 : decode cX9_stickWeight 54 = .ok (.iload 5, 2) := by decide +kernel
theorem dX9_stickWeight_56 : decode cX9_stickWeight 56 = .ok (.ireturn, 1) := by decide +kernel
set_option maxRecDepth 20000 in
theorem ggX9_weightTo_X0_rowOf : GoodIn wsX9_weightTo wsX0_rowOf := goodIn_r _ [7, 8, 55, 56, 57] (by decide +kernel) (by decide +kernel)
set_option maxRecDepth 20000 in
theorem gX9_weightTo_X0_rowOf : GoodIn wsX9_weightTo (wsV RX9 172 RX0 yX0_rowOf wsX0_rowOf) := goodIn_app (goodIn_of _ (by decide +kernel)) ggX9_weightTo_X0_rowOf
set_option maxRecDepth 20000 in
theorem ggX9_weightTo_X0_columnOf : GoodIn wsX9_weightTo wsX0_columnOf := goodIn_r _ [12, 8, 55, 56, 57] (by decide +kernel) (by decide +kernel)
set_option maxRecDepth 20000 in
theorem gX9_weightTo_X0_columnOf : GoodIn wsX9_weightTo (wsV RX9 175 RX0 yX0_columnOf wsX0_columnOf) := goodIn_app (goodIn_of _ (by decide +kernel)) ggX9_weightTo_X0_columnOf
set_option maxRecDepth 20000 in
theorem ggX9_weightTo_X0_isOf : GoodIn wsX9_weightTo wsX0_isOf := goodIn_r _ [16, 17, 18, 19, 6, 20, 21, 8, 22, 23, 24, 25, 26, 27, 28, 29, 30, 31, 32, 33, 55, 56, 57] (by decide +kernel) (by decide +kernel)
set_option maxRecDepth 20000 in
theorem gX9_weightTo_X0_isOf : GoodIn wsX9_weightTo (wsV RX9 268 RX0 yX0_isOf wsX0_isOf) := goodIn_app (goodIn_of _ (by decide +kernel)) ggX9_weightTo_X0_isOf
set_option maxRecDepth 20000 in
theorem ggX9_weightTo_X1_weighs : GoodIn wsX9_weightTo wsX1_weighs := goodIn_r _ [38, 39, 40, 41, 42, 43, 58, 59, 60] (by decide +kernel) (by decide +kernel)
set_option maxRecDepth 20000 in
theorem gX9_weightTo_X1_weighs : GoodIn wsX9_weightTo (wsV RX9 149 RX1 yX1_weighs wsX1_weighs) := goodIn_app (goodIn_of _ (by decide +kernel)) ggX9_weightTo_X1_weighs
theorem dX9_weightTo_0 : decode cX9_weightTo 0 = .ok (.aload_n 0, 1) := by decide +kernel
theorem dX9_weightTo_1 : decode cX9_weightTo 1 = .ok (.getfield 31, 3) := by decide +kernel
theorem dX9_weightTo_4 : decode cX9_weightTo 4 = .ok (.iload_n 2, 1) := by decide +kernel
theorem dX9_weightTo_5 : decode cX9_weightTo 5 = .ok (.invokevirtual 172, 3) := by decide +kernel
theorem dX9_weightTo_8 : decode cX9_weightTo 8 = .ok (.istore 5, 2) := by decide +kernel
theorem dX9_weightTo_10 : decode cX9_weightTo 10 = .ok (.aload_n 0, 1) := by decide +kernel
theorem dX9_weightTo_11 : decode cX9_weightTo 11 = .ok (.getfield 31, 3) := by decide +kernel
theorem dX9_weightTo_14 : decode cX9_weightTo 14 = .ok (.iload_n 2, 1) := by decide +kernel
theorem dX9_weightTo_15 : decode cX9_weightTo 15 = .ok (.invokevirtual 175, 3) := by decide +kernel
theorem dX9_weightTo_18 : decode cX9_weightTo 18 = .ok (.istore 6, 2) := by decide +kernel
theorem dX9_weightTo_20 : decode cX9_weightTo 20 = .ok (.iconst 0, 1) := by decide +kernel
theorem dX9_weightTo_21 : decode cX9_weightTo 21 = .ok (.istore 7, 2) := by decide +kernel
theorem dX9_weightTo_23 : decode cX9_weightTo 23 = .ok (.bipush (-2), 2) := by decide +kernel
theorem dX9_weightTo_25 : decode cX9_weightTo 25 = .ok (.istore 8, 2) := by decide +kernel
theorem dX9_weightTo_27 : decode cX9_weightTo 27 = .ok (.iload 8, 2) := by decide +kernel
theorem dX9_weightTo_29 : decode cX9_weightTo 29 = .ok (.iconst 2, 1) := by decide +kernel
theorem dX9_weightTo_30 : decode cX9_weightTo 30 = .ok (.if_icmp .gt 86, 3) := by decide +kernel
theorem dX9_weightTo_33 : decode cX9_weightTo 33 = .ok (.iconst 0, 1) := by decide +kernel
theorem dX9_weightTo_34 : decode cX9_weightTo 34 = .ok (.istore 9, 2) := by decide +kernel
theorem dX9_weightTo_36 : decode cX9_weightTo 36 = .ok (.bipush (-2), 2) := by decide +kernel
theorem dX9_weightTo_38 : decode cX9_weightTo 38 = .ok (.istore 10, 2) := by decide +kernel
theorem dX9_weightTo_40 : decode cX9_weightTo 40 = .ok (.iload 10, 2) := by decide +kernel
theorem dX9_weightTo_42 : decode cX9_weightTo 42 = .ok (.iconst 2, 1) := by decide +kernel
theorem dX9_weightTo_43 : decode cX9_weightTo 43 = .ok (.if_icmp .gt 48, 3) := by decide +kernel
theorem dX9_weightTo_46 : decode cX9_weightTo 46 = .ok (.aload_n 0, 1) := by decide +kernel
theorem dX9_weightTo_47 : decode cX9_weightTo 47 = .ok (.getfield 31, 3) := by decide +kernel
theorem dX9_weightTo_50 : decode cX9_weightTo 50 = .ok (.iload_n 1, 1) := by decide +kernel
theorem dX9_weightTo_51 : decode cX9_weightTo 51 = .ok (.iload 5, 2) := by decide +kernel
theorem dX9_weightTo_53 : decode cX9_weightTo 53 = .ok (.iload 8, 2) := by decide +kernel
theorem dX9_weightTo_55 : decode cX9_weightTo 55 = .ok (.isub, 1) := by decide +kernel
theorem dX9_weightTo_56 : decode cX9_weightTo 56 = .ok (.iload 6, 2) := by decide +kernel
theorem dX9_weightTo_58 : decode cX9_weightTo 58 = .ok (.iload 10, 2) := by decide +kernel
theorem dX9_weightTo_60 : decode cX9_weightTo 60 = .ok (.iadd, 1) := by decide +kernel
theorem dX9_weightTo_61 : decode cX9_weightTo 61 = .ok (.iload 4, 2) := by decide +kernel
theorem dX9_weightTo_63 : decode cX9_weightTo 63 = .ok (.invokevirtual 268, 3) := by decide +kernel
theorem dX9_weightTo_66 : decode cX9_weightTo 66 = .ok (.ifCond .eq 19, 3) := by decide +kernel
theorem dX9_weightTo_69 : decode cX9_weightTo 69 = .ok (.iload 9, 2) := by decide +kernel
theorem dX9_weightTo_71 : decode cX9_weightTo 71 = .ok (.aload_n 0, 1) := by decide +kernel
theorem dX9_weightTo_72 : decode cX9_weightTo 72 = .ok (.getfield 24, 3) := by decide +kernel
theorem dX9_weightTo_75 : decode cX9_weightTo 75 = .ok (.iconst 2, 1) := by decide +kernel
theorem dX9_weightTo_76 : decode cX9_weightTo 76 = .ok (.iload 10, 2) := by decide +kernel
theorem dX9_weightTo_78 : decode cX9_weightTo 78 = .ok (.iload_n 3, 1) := by decide +kernel
theorem dX9_weightTo_79 : decode cX9_weightTo 79 = .ok (.invokevirtual 149, 3) := by decide +kernel
theorem dX9_weightTo_82 : decode cX9_weightTo 82 = .ok (.iadd, 1) := by decide +kernel
theorem dX9_weightTo_83 : decode cX9_weightTo 83 = .ok (.istore 9, 2) := by decide +kernel
theorem dX9_weightTo_85 : decode cX9_weightTo 85 = .ok (.iinc 10 1, 3) := by decide +kernel
theorem dX9_weightTo_88 : decode cX9_weightTo 88 = .ok (.goto (-48), 3) := by decide +kernel
theorem dX9_weightTo_91 : decode cX9_weightTo 91 = .ok (.iload 7, 2) := by decide +kernel
theorem dX9_weightTo_93 : decode cX9_weightTo 93 = .ok (.iload 9, 2) := by decide +kernel
theorem dX9_weightTo_95 : decode cX9_weightTo 95 = .ok (.aload_n 0, 1) := by decide +kernel
theorem dX9_weightTo_96 : decode cX9_weightTo 96 = .ok (.getfield 24, 3) := by decide +kernel
theorem dX9_weightTo_99 : decode cX9_weightTo 99 = .ok (.iconst 1, 1) := by decide +kernel
theorem dX9_weightTo_100 : decode cX9_weightTo 100 = .ok (.iload 8, 2) := by decide +kernel
theorem dX9_weightTo_102 : decode cX9_weightTo 102 = .ok (.iload_n 3, 1) := by decide +kernel
theorem dX9_weightTo_103 : decode cX9_weightTo 103 = .ok (.invokevirtual 149, 3) := by decide +kernel
theorem dX9_weightTo_106 : decode cX9_weightTo 106 = .ok (.imul, 1) := by decide +kernel
theorem dX9_weightTo_107 : decode cX9_weightTo 107 = .ok (.iadd, 1) := by decide +kernel
theorem dX9_weightTo_108 : decode cX9_weightTo 108 = .ok (.istore 7, 2) := by decide +kernel
theorem dX9_weightTo_110 : decode cX9_weightTo 110 = .ok (.iinc 8 1, 3) := by decide +kernel
theorem dX9_weightTo_113 : decode cX9_weightTo 113 = .ok (.goto (-86), 3) := by decide +kernel
theorem dX9_weightTo_116 : decode cX9_weightTo 116 = .ok (.iload 7, 2) := by decide +kernel
theorem dX9_weightTo_118 : decode cX9_weightTo 118 = .ok (.ireturn, 1) := by decide +kernel
set_option maxRecDepth 20000 in
theorem ggX9_weightOfAll_X1_sumOf : GoodIn wsX9_weightOfAll wsX1_sumOf := goodIn_r _ [6, 7, 8, 9, 5, 10, 11, 12, 13, 14, 15, 27, 28, 29] (by decide +kernel) (by decide +kernel)
set_option maxRecDepth 20000 in
theorem gX9_weightOfAll_X1_sumOf : GoodIn wsX9_weightOfAll (wsV RX9 160 RX1 yX1_sumOf wsX1_sumOf) := goodIn_app (goodIn_of _ (by decide +kernel)) ggX9_weightOfAll_X1_sumOf
theorem dX9_weightOfAll_0 : decode cX9_weightOfAll 0 = .ok (.aload_n 0, 1) := by decide +kernel
theorem dX9_weightOfAll_1 : decode cX9_weightOfAll 1 = .ok (.getfield 24, 3) := by decide +kernel
theorem dX9_weightOfAll_4 : decode cX9_weightOfAll 4 = .ok (.iconst 1, 1) := by decide +kernel
theorem dX9_weightOfAll_5 : decode cX9_weightOfAll 5 = .ok (.iload_n 1, 1) := by decide +kernel
theorem dX9_weightOfAll_6 : decode cX9_weightOfAll 6 = .ok (.invokevirtual 160, 3) := by decide +kernel
theorem dX9_weightOfAll_9 : decode cX9_weightOfAll 9 = .ok (.aload_n 0, 1) := by decide +kernel
theorem dX9_weightOfAll_10 : decode cX9_weightOfAll 10 = .ok (.getfield 24, 3) := by decide +kernel
theorem dX9_weightOfAll_13 : decode cX9_weightOfAll 13 = .ok (.iconst 2, 1) := by decide +kernel
theorem dX9_weightOfAll_14 : decode cX9_weightOfAll 14 = .ok (.iload_n 1, 1) := by decide +kernel
theorem dX9_weightOfAll_15 : decode cX9_weightOfAll 15 = .ok (.invokevirtual 160, 3) := by decide +kernel
theorem dX9_weightOfAll_18 : decode cX9_weightOfAll 18 = .ok (.imul, 1) := by decide +kernel
theorem dX9_weightOfAll_19 : decode cX9_weightOfAll 19 = .ok (.ireturn, 1) := by decide +kernel
set_option maxRecDepth 20000 in
theorem ggX9_isAtMost_X9_weightOfAll : GoodIn wsX9_isAtMost wsX9_weightOfAll := goodIn_r _ [6, 7, 8, 9, 10, 11, 12, 13, 14, 15, 16, 17, 18, 19, 20, 21, 22, 23, 24, 25, 26, 27, 28, 29, 30, 31, 32, 33, 34, 35] (by decide +kernel) (by decide +kernel)
set_option maxRecDepth 20000 in
theorem gX9_isAtMost_X9_weightOfAll : GoodIn wsX9_isAtMost (wsV RX9 184 RX9 yX9_weightOfAll wsX9_weightOfAll) := goodIn_app (goodIn_of _ (by decide +kernel)) ggX9_isAtMost_X9_weightOfAll
theorem dX9_isAtMost_0 : decode cX9_isAtMost 0 = .ok (.iload_n 2, 1) := by decide +kernel
theorem dX9_isAtMost_1 : decode cX9_isAtMost 1 = .ok (.i2l, 1) := by decide +kernel
theorem dX9_isAtMost_2 : decode cX9_isAtMost 2 = .ok (.ldc2_w 334, 3) := by decide +kernel
theorem dX9_isAtMost_5 : decode cX9_isAtMost 5 = .ok (.lmul, 1) := by decide +kernel
theorem dX9_isAtMost_6 : decode cX9_isAtMost 6 = .ok (.iload_n 1, 1) := by decide +kernel
theorem dX9_isAtMost_7 : decode cX9_isAtMost 7 = .ok (.i2l, 1) := by decide +kernel
theorem dX9_isAtMost_8 : decode cX9_isAtMost 8 = .ok (.aload_n 0, 1) := by decide +kernel
theorem dX9_isAtMost_9 : decode cX9_isAtMost 9 = .ok (.iload_n 3, 1) := by decide +kernel
theorem dX9_isAtMost_10 : decode cX9_isAtMost 10 = .ok (.invokevirtual 184, 3) := by decide +kernel
theorem dX9_isAtMost_13 : decode cX9_isAtMost 13 = .ok (.i2l, 1) := by decide +kernel
theorem dX9_isAtMost_14 : decode cX9_isAtMost 14 = .ok (.lmul, 1) := by decide +kernel
theorem dX9_isAtMost_15 : decode cX9_isAtMost 15 = .ok (.lcmp, 1) := by decide +kernel
theorem dX9_isAtMost_16 : decode cX9_isAtMost 16 = .ok (.ifCond .gt 7, 3) := by decide +kernel
theorem dX9_isAtMost_19 : decode cX9_isAtMost 19 = .ok (.iconst 1, 1) := by decide +kernel
theorem dX9_isAtMost_20 : decode cX9_isAtMost 20 = .ok (.goto 4, 3) := by decide +kernel
theorem dX9_isAtMost_23 : decode cX9_isAtMost 23 = .ok (.iconst 0, 1) := by decide +kernel
theorem dX9_isAtMost_24 : decode cX9_isAtMost 24 = .ok (.ireturn, 1) := by decide +kernel
set_option maxRecDepth 20000 in
theorem ggX9_isAllowed_X0_rowOf : GoodIn wsX9_isAllowed wsX0_rowOf := goodIn_r _ [6, 7, 74, 75, 76] (by decide +kernel) (by decide +kernel)
set_option maxRecDepth 20000 in
theorem gX9_isAllowed_X0_rowOf : GoodIn wsX9_isAllowed (wsV RX9 172 RX0 yX0_rowOf wsX0_rowOf) := goodIn_app (goodIn_of _ (by decide +kernel)) ggX9_isAllowed_X0_rowOf
set_option maxRecDepth 20000 in
theorem ggX9_isAllowed_X0_columnOf : GoodIn wsX9_isAllowed wsX0_columnOf := goodIn_r _ [11, 7, 74, 75, 76] (by decide +kernel) (by decide +kernel)
set_option maxRecDepth 20000 in
theorem gX9_isAllowed_X0_columnOf : GoodIn wsX9_isAllowed (wsV RX9 175 RX0 yX0_columnOf wsX0_columnOf) := goodIn_app (goodIn_of _ (by decide +kernel)) ggX9_isAllowed_X0_columnOf
set_option maxRecDepth 20000 in
theorem ggX9_isAllowed_X0_letterAt : GoodIn wsX9_isAllowed wsX0_letterAt := goodIn_r _ [15, 16, 7, 17, 18, 19, 20, 21, 22, 23, 5, 24, 25, 26, 27, 28, 74, 75, 76] (by decide +kernel) (by decide +kernel)
set_option maxRecDepth 20000 in
theorem gX9_isAllowed_X0_letterAt : GoodIn wsX9_isAllowed (wsV RX9 178 RX0 yX0_letterAt wsX0_letterAt) := goodIn_app (goodIn_of _ (by decide +kernel)) ggX9_isAllowed_X0_letterAt
set_option maxRecDepth 20000 in
theorem ggX9_isAllowed_X9_weightTo : GoodIn wsX9_isAllowed wsX9_weightTo := goodIn_r _ [32, 1, 33, 2, 3, 4, 5, 6, 7, 8, 9, 10, 11, 34, 35, 36, 37, 38, 13, 14, 15, 16, 17, 18, 19, 20, 21, 22, 23, 24, 25, 26, 27, 28, 39, 40, 41, 42, 43, 44, 45, 46, 47, 48, 63, 64, 65, 66, 67, 68, 69, 70, 71, 72, 73, 74, 75, 76, 77, 78, 79] (by decide +kernel) (by decide +kernel)
set_option maxRecDepth 20000 in
theorem gX9_isAllowed_X9_weightTo : GoodIn wsX9_isAllowed (wsV RX9 181 RX9 yX9_weightTo wsX9_weightTo) := goodIn_app (goodIn_of _ (by decide +kernel)) ggX9_isAllowed_X9_weightTo
set_option maxRecDepth 20000 in
theorem ggX9_isAllowed_X9_isAtMost : GoodIn wsX9_isAllowed wsX9_isAtMost := goodIn_r _ [52, 53, 54, 55, 56, 19, 57, 33, 58, 59, 60, 42, 61, 62, 40, 41, 43, 44, 45, 46, 47, 48, 63, 64, 65, 66, 67, 68, 69, 70, 71, 72, 73, 77, 78, 79] (by decide +kernel) (by decide +kernel)
set_option maxRecDepth 20000 in
theorem gX9_isAllowed_X9_isAtMost : GoodIn wsX9_isAllowed (wsV RX9 336 RX9 yX9_isAtMost wsX9_isAtMost) := goodIn_app (goodIn_of _ (by decide +kernel)) ggX9_isAllowed_X9_isAtMost
theorem dX9_isAllowed_0 : decode cX9_isAllowed 0 = .ok (.aload_n 0, 1) := by decide +kernel
theorem dX9_isAllowed_1 : decode cX9_isAllowed 1 = .ok (.getfield 31, 3) := by decide +kernel
theorem dX9_isAllowed_4 : decode cX9_isAllowed 4 = .ok (.aload_n 0, 1) := by decide +kernel
theorem dX9_isAllowed_5 : decode cX9_isAllowed 5 = .ok (.getfield 31, 3) := by decide +kernel
theorem dX9_isAllowed_8 : decode cX9_isAllowed 8 = .ok (.iload_n 1, 1) := by decide +kernel
theorem dX9_isAllowed_9 : decode cX9_isAllowed 9 = .ok (.invokevirtual 172, 3) := by decide +kernel
theorem dX9_isAllowed_12 : decode cX9_isAllowed 12 = .ok (.aload_n 0, 1) := by decide +kernel
theorem dX9_isAllowed_13 : decode cX9_isAllowed 13 = .ok (.getfield 31, 3) := by decide +kernel
theorem dX9_isAllowed_16 : decode cX9_isAllowed 16 = .ok (.iload_n 1, 1) := by decide +kernel
theorem dX9_isAllowed_17 : decode cX9_isAllowed 17 = .ok (.invokevirtual 175, 3) := by decide +kernel
theorem dX9_isAllowed_20 : decode cX9_isAllowed 20 = .ok (.iconst 0, 1) := by decide +kernel
theorem dX9_isAllowed_21 : decode cX9_isAllowed 21 = .ok (.invokevirtual 178, 3) := by decide +kernel
theorem dX9_isAllowed_24 : decode cX9_isAllowed 24 = .ok (.ifCond .eq 5, 3) := by decide +kernel
theorem dX9_isAllowed_27 : decode cX9_isAllowed 27 = .ok (.iconst 0, 1) := by decide +kernel
theorem dX9_isAllowed_28 : decode cX9_isAllowed 28 = .ok (.ireturn, 1) := by decide +kernel
theorem dX9_isAllowed_29 : decode cX9_isAllowed 29 = .ok (.aload_n 0, 1) := by decide +kernel
theorem dX9_isAllowed_30 : decode cX9_isAllowed 30 = .ok (.iload_n 2, 1) := by decide +kernel
theorem dX9_isAllowed_31 : decode cX9_isAllowed 31 = .ok (.aload_n 0, 1) := by decide +kernel
theorem dX9_isAllowed_32 : decode cX9_isAllowed 32 = .ok (.bipush 12, 2) := by decide +kernel
theorem dX9_isAllowed_34 : decode cX9_isAllowed 34 = .ok (.iload_n 1, 1) := by decide +kernel
theorem dX9_isAllowed_35 : decode cX9_isAllowed 35 = .ok (.iload_n 3, 1) := by decide +kernel
theorem dX9_isAllowed_36 : decode cX9_isAllowed 36 = .ok (.iconst 0, 1) := by decide +kernel
theorem dX9_isAllowed_37 : decode cX9_isAllowed 37 = .ok (.invokevirtual 181, 3) := by decide +kernel
theorem dX9_isAllowed_40 : decode cX9_isAllowed 40 = .ok (.iload_n 3, 1) := by decide +kernel
theorem dX9_isAllowed_41 : decode cX9_isAllowed 41 = .ok (.invokevirtual 336, 3) := by decide +kernel
theorem dX9_isAllowed_44 : decode cX9_isAllowed 44 = .ok (.ireturn, 1) := by decide +kernel
set_option maxRecDepth 20000 in
theorem ggX9_millionths_X9_weightOfAll : GoodIn wsX9_millionths wsX9_weightOfAll := goodIn_r _ [6, 7, 8, 9, 10, 11, 12, 13, 14, 15, 16, 17, 18, 19, 20, 21, 58, 59, 60, 61, 62, 63, 64, 65, 66, 67, 68, 69, 70, 71] (by decide +kernel) (by decide +kernel)
set_option maxRecDepth 20000 in
theorem gX9_millionths_X9_weightOfAll : GoodIn wsX9_millionths (wsV RX9 184 RX9 yX9_weightOfAll wsX9_weightOfAll) := goodIn_app (goodIn_of _ (by decide +kernel)) ggX9_millionths_X9_weightOfAll
set_option maxRecDepth 20000 in
theorem ggX9_millionths_X9_weightTo : GoodIn wsX9_millionths wsX9_weightTo := goodIn_r _ [25, 26, 7, 27, 28, 29, 30, 31, 32, 33, 34, 35, 36, 37, 38, 39, 40, 41, 42, 43, 44, 45, 46, 47, 5, 48, 49, 50, 51, 52, 53, 54, 55, 56, 57, 14, 15, 11, 16, 17, 18, 19, 20, 21, 58, 59, 60, 61, 62, 63, 64, 65, 66, 67, 68, 72, 73, 74, 69, 70, 71] (by decide +kernel) (by decide +kernel)
set_option maxRecDepth 20000 in
theorem gX9_millionths_X9_weightTo : GoodIn wsX9_millionths (wsV RX9 181 RX9 yX9_weightTo wsX9_weightTo) := goodIn_app (goodIn_of _ (by decide +kernel)) ggX9_millionths_X9_weightTo
theorem dX9_millionths_0 : decode cX9_millionths 0 = .ok (.aload_n 0, 1) := by decide +kernel
theorem dX9_millionths_1 : decode cX9_millionths 1 = .ok (.iload_n 2, 1) := by decide +kernel
theorem dX9_millionths_2 : decode cX9_millionths 2 = .ok (.invokevirtual 184, 3) := by decide +kernel
theorem dX9_millionths_5 : decode cX9_millionths 5 = .ok (.istore_n 3, 1) := by decide +kernel
theorem dX9_millionths_6 : decode cX9_millionths 6 = .ok (.iload_n 3, 1) := by decide +kernel
theorem dX9_millionths_7 : decode cX9_millionths 7 = .ok (.ifCond .gt 5, 3) := by decide +kernel
theorem dX9_millionths_10 : decode cX9_millionths 10 = .ok (.iconst 0, 1) := by decide +kernel
theorem dX9_millionths_11 : decode cX9_millionths 11 = .ok (.ireturn, 1) := by decide +kernel
theorem dX9_millionths_12 : decode cX9_millionths 12 = .ok (.aload_n 0, 1) := by decide +kernel
theorem dX9_millionths_13 : decode cX9_millionths 13 = .ok (.bipush 12, 2) := by decide +kernel
theorem dX9_millionths_15 : decode cX9_millionths 15 = .ok (.iload_n 1, 1) := by decide +kernel
theorem dX9_millionths_16 : decode cX9_millionths 16 = .ok (.iload_n 2, 1) := by decide +kernel
theorem dX9_millionths_17 : decode cX9_millionths 17 = .ok (.iconst 0, 1) := by decide +kernel
theorem dX9_millionths_18 : decode cX9_millionths 18 = .ok (.invokevirtual 181, 3) := by decide +kernel
theorem dX9_millionths_21 : decode cX9_millionths 21 = .ok (.i2l, 1) := by decide +kernel
theorem dX9_millionths_22 : decode cX9_millionths 22 = .ok (.ldc2_w 339, 3) := by decide +kernel
theorem dX9_millionths_25 : decode cX9_millionths 25 = .ok (.lmul, 1) := by decide +kernel
theorem dX9_millionths_26 : decode cX9_millionths 26 = .ok (.iload_n 3, 1) := by decide +kernel
theorem dX9_millionths_27 : decode cX9_millionths 27 = .ok (.i2l, 1) := by decide +kernel
theorem dX9_millionths_28 : decode cX9_millionths 28 = .ok (.ldiv, 1) := by decide +kernel
theorem dX9_millionths_29 : decode cX9_millionths 29 = .ok (.l2i, 1) := by decide +kernel
theorem dX9_millionths_30 : decode cX9_millionths 30 = .ok (.ireturn, 1) := by decide +kernel
set_option maxRecDepth 20000 in
theorem ggX9_seekHarmless_X9_weightTo : GoodIn wsX9_seekHarmless wsX9_weightTo := goodIn_r _ [6, 7, 8, 9, 10, 11, 12, 13, 14, 15, 16, 17, 18, 19, 20, 21, 22, 23, 24, 25, 26, 27, 28, 29, 5, 30, 31, 32, 33, 34, 35, 36, 37, 38, 39, 40, 41, 42, 43, 44, 45, 46, 47, 48, 63, 64, 65, 66, 67, 68, 69, 70, 71, 72, 73, 74, 75, 76, 77, 78, 79] (by decide +kernel) (by decide +kernel)
set_option maxRecDepth 20000 in
theorem gX9_seekHarmless_X9_weightTo : GoodIn wsX9_seekHarmless (wsV RX9 181 RX9 yX9_weightTo wsX9_weightTo) := goodIn_app (goodIn_of _ (by decide +kernel)) ggX9_seekHarmless_X9_weightTo
set_option maxRecDepth 20000 in
theorem ggX9_seekHarmless_X9_isAtMost : GoodIn wsX9_seekHarmless wsX9_isAtMost := goodIn_r _ [52, 53, 54, 55, 56, 5, 57, 8, 58, 59, 60, 42, 61, 62, 40, 41, 43, 44, 45, 46, 47, 48, 63, 64, 65, 66, 67, 68, 69, 70, 71, 72, 73, 77, 78, 79] (by decide +kernel) (by decide +kernel)
set_option maxRecDepth 20000 in
theorem gX9_seekHarmless_X9_isAtMost : GoodIn wsX9_seekHarmless (wsV RX9 336 RX9 yX9_isAtMost wsX9_isAtMost) := goodIn_app (goodIn_of _ (by decide +kernel)) ggX9_seekHarmless_X9_isAtMost
theorem dX9_seekHarmless_0 : decode cX9_seekHarmless 0 = .ok (.iconst 0, 1) := by decide +kernel
theorem dX9_seekHarmless_1 : decode cX9_seekHarmless 1 = .ok (.istore_n 3, 1) := by decide +kernel
theorem dX9_seekHarmless_2 : decode cX9_seekHarmless 2 = .ok (.iload_n 3, 1) := by decide +kernel
theorem dX9_seekHarmless_3 : decode cX9_seekHarmless 3 = .ok (.iconst 4, 1) := by decide +kernel
theorem dX9_seekHarmless_4 : decode cX9_seekHarmless 4 = .ok (.if_icmp .ge 56, 3) := by decide +kernel
theorem dX9_seekHarmless_7 : decode cX9_seekHarmless 7 = .ok (.aload_n 0, 1) := by decide +kernel
theorem dX9_seekHarmless_8 : decode cX9_seekHarmless 8 = .ok (.getfield 60, 3) := by decide +kernel
theorem dX9_seekHarmless_11 : decode cX9_seekHarmless 11 = .ok (.iconst 2, 1) := by decide +kernel
theorem dX9_seekHarmless_12 : decode cX9_seekHarmless 12 = .ok (.iload_n 3, 1) := by decide +kernel
theorem dX9_seekHarmless_13 : decode cX9_seekHarmless 13 = .ok (.imul, 1) := by decide +kernel
theorem dX9_seekHarmless_14 : decode cX9_seekHarmless 14 = .ok (.aload_n 0, 1) := by decide +kernel
theorem dX9_seekHarmless_15 : decode cX9_seekHarmless 15 = .ok (.iload_n 2, 1) := by decide +kernel
theorem dX9_seekHarmless_16 : decode cX9_seekHarmless 16 = .ok (.aload_n 0, 1) := by decide +kernel
theorem dX9_seekHarmless_17 : decode cX9_seekHarmless 17 = .ok (.iconst 4, 1) := by decide +kernel
theorem dX9_seekHarmless_18 : decode cX9_seekHarmless 18 = .ok (.iload_n 1, 1) := by decide +kernel
theorem dX9_seekHarmless_19 : decode cX9_seekHarmless 19 = .ok (.iconst 0, 1) := by decide +kernel
theorem dX9_seekHarmless_20 : decode cX9_seekHarmless 20 = .ok (.iload_n 3, 1) := by decide +kernel
theorem dX9_seekHarmless_21 : decode cX9_seekHarmless 21 = .ok (.invokevirtual 181, 3) := by decide +kernel
theorem dX9_seekHarmless_24 : decode cX9_seekHarmless 24 = .ok (.iconst 0, 1) := by decide +kernel
theorem dX9_seekHarmless_25 : decode cX9_seekHarmless 25 = .ok (.invokevirtual 336, 3) := by decide +kernel
theorem dX9_seekHarmless_28 : decode cX9_seekHarmless 28 = .ok (.bastore, 1) := by decide +kernel
theorem dX9_seekHarmless_29 : decode cX9_seekHarmless 29 = .ok (.aload_n 0, 1) := by decide +kernel
theorem dX9_seekHarmless_30 : decode cX9_seekHarmless 30 = .ok (.getfield 60, 3) := by decide +kernel
theorem dX9_seekHarmless_33 : decode cX9_seekHarmless 33 = .ok (.iconst 2, 1) := by decide +kernel
theorem dX9_seekHarmless_34 : decode cX9_seekHarmless 34 = .ok (.iload_n 3, 1) := by decide +kernel
theorem dX9_seekHarmless_35 : decode cX9_seekHarmless 35 = .ok (.imul, 1) := by decide +kernel
theorem dX9_seekHarmless_36 : decode cX9_seekHarmless 36 = .ok (.iconst 1, 1) := by decide +kernel
theorem dX9_seekHarmless_37 : decode cX9_seekHarmless 37 = .ok (.iadd, 1) := by decide +kernel
theorem dX9_seekHarmless_38 : decode cX9_seekHarmless 38 = .ok (.aload_n 0, 1) := by decide +kernel
theorem dX9_seekHarmless_39 : decode cX9_seekHarmless 39 = .ok (.iload_n 2, 1) := by decide +kernel
theorem dX9_seekHarmless_40 : decode cX9_seekHarmless 40 = .ok (.aload_n 0, 1) := by decide +kernel
theorem dX9_seekHarmless_41 : decode cX9_seekHarmless 41 = .ok (.bipush 12, 2) := by decide +kernel
theorem dX9_seekHarmless_43 : decode cX9_seekHarmless 43 = .ok (.iload_n 1, 1) := by decide +kernel
theorem dX9_seekHarmless_44 : decode cX9_seekHarmless 44 = .ok (.iconst 0, 1) := by decide +kernel
theorem dX9_seekHarmless_45 : decode cX9_seekHarmless 45 = .ok (.iload_n 3, 1) := by decide +kernel
theorem dX9_seekHarmless_46 : decode cX9_seekHarmless 46 = .ok (.invokevirtual 181, 3) := by decide +kernel
theorem dX9_seekHarmless_49 : decode cX9_seekHarmless 49 = .ok (.iconst 0, 1) := by decide +kernel
theorem dX9_seekHarmless_50 : decode cX9_seekHarmless 50 = .ok (.invokevirtual 336, 3) := by decide +kernel
theorem dX9_seekHarmless_53 : decode cX9_seekHarmless 53 = .ok (.bastore, 1) := by decide +kernel
theorem dX9_seekHarmless_54 : decode cX9_seekHarmless 54 = .ok (.iinc 3 1, 3) := by decide +kernel
theorem dX9_seekHarmless_57 : decode cX9_seekHarmless 57 = .ok (.goto (-55), 3) := by decide +kernel
theorem dX9_seekHarmless_60 : decode cX9_seekHarmless 60 = .ok (.return_, 1) := by decide +kernel
theorem dX10_init_0 : decode cX10_init 0 = .ok (.aload_n 0, 1) := by decide +kernel
theorem dX10_init_1 : decode cX10_init 1 = .ok (.invokespecial 1, 3) := by decide +kernel
theorem dX10_init_4 : decode cX10_init 4 = .ok (.aload_n 0, 1) := by decide +kernel
theorem dX10_init_5 : decode cX10_init 5 = .ok (.iconst 4, 1) := by decide +kernel
theorem dX10_init_6 : decode cX10_init 6 = .ok (.newarray .int, 2) := by decide +kernel
theorem dX10_init_8 : decode cX10_init 8 = .ok (.dup, 1) := by decide +kernel
theorem dX10_init_9 : decode cX10_init 9 = .ok (.iconst 0, 1) := by decide +kernel
theorem dX10_init_10 : decode cX10_init 10 = .ok (.bipush (-9), 2) := by decide +kernel
theorem dX10_init_12 : decode cX10_init 12 = .ok (.iastore, 1) := by decide +kernel
theorem dX10_init_13 : decode cX10_init 13 = .ok (.dup, 1) := by decide +kernel
theorem dX10_init_14 : decode cX10_init 14 = .ok (.iconst 1, 1) := by decide +kernel
theorem dX10_init_15 : decode cX10_init 15 = .ok (.bipush (-9), 2) := by decide +kernel
theorem dX10_init_17 : decode cX10_init 17 = .ok (.iastore, 1) := by decide +kernel
theorem dX10_init_18 : decode cX10_init 18 = .ok (.dup, 1) := by decide +kernel
theorem dX10_init_19 : decode cX10_init 19 = .ok (.iconst 2, 1) := by decide +kernel
theorem dX10_init_20 : decode cX10_init 20 = .ok (.bipush (-9), 2) := by decide +kernel
theorem dX10_init_22 : decode cX10_init 22 = .ok (.iastore, 1) := by decide +kernel
theorem dX10_init_23 : decode cX10_init 23 = .ok (.dup, 1) := by decide +kernel
theorem dX10_init_24 : decode cX10_init 24 = .ok (.iconst 3, 1) := by decide +kernel
theorem dX10_init_25 : decode cX10_init 25 = .ok (.bipush (-9), 2) := by decide +kernel
theorem dX10_init_27 : decode cX10_init 27 = .ok (.iastore, 1) := by decide +kernel
theorem dX10_init_28 : decode cX10_init 28 = .ok (.putfield 9, 3) := by decide +kernel
theorem dX10_init_31 : decode cX10_init 31 = .ok (.aload_n 0, 1) := by decide +kernel
theorem dX10_init_32 : decode cX10_init 32 = .ok (.iconst 4, 1) := by decide +kernel
theorem dX10_init_33 : decode cX10_init 33 = .ok (.newarray .int, 2) := by decide +kernel
theorem dX10_init_35 : decode cX10_init 35 = .ok (.putfield 13, 3) := by decide +kernel
theorem dX10_init_38 : decode cX10_init 38 = .ok (.aload_n 0, 1) := by decide +kernel
theorem dX10_init_39 : decode cX10_init 39 = .ok (.sipush 320, 3) := by decide +kernel
theorem dX10_init_42 : decode cX10_init 42 = .ok (.newarray .int, 2) := by decide +kernel
theorem dX10_init_44 : decode cX10_init 44 = .ok (.putfield 16, 3) := by decide +kernel
theorem dX10_init_47 : decode cX10_init 47 = .ok (.aload_n 0, 1) := by decide +kernel
theorem dX10_init_48 : decode cX10_init 48 = .ok (.bipush 6, 2) := by decide +kernel
theorem dX10_init_50 : decode cX10_init 50 = .ok (.newarray .int, 2) := by decide +kernel
theorem dX10_init_52 : decode cX10_init 52 = .ok (.putfield 19, 3) := by decide +kernel
theorem dX10_init_55 : decode cX10_init 55 = .ok (.aload_n 0, 1) := by decide +kernel
theorem dX10_init_56 : decode cX10_init 56 = .ok (.bipush 6, 2) := by decide +kernel
theorem dX10_init_58 : decode cX10_init 58 = .ok (.newarray .int, 2) := by decide +kernel
theorem dX10_init_60 : decode cX10_init 60 = .ok (.putfield 22, 3) := by decide +kernel
theorem dX10_init_63 : decode cX10_init 63 = .ok (.aload_n 0, 1) := by decide +kernel
theorem dX10_init_64 : decode cX10_init 64 = .ok (.bipush 6, 2) := by decide +kernel
theorem dX10_init_66 : decode cX10_init 66 = .ok (.newarray .int, 2) := by decide +kernel
theorem dX10_init_68 : decode cX10_init 68 = .ok (.putfield 25, 3) := by decide +kernel
theorem dX10_init_71 : decode cX10_init 71 = .ok (.aload_n 0, 1) := by decide +kernel
theorem dX10_init_72 : decode cX10_init 72 = .ok (.bipush 6, 2) := by decide +kernel
theorem dX10_init_74 : decode cX10_init 74 = .ok (.newarray .int, 2) := by decide +kernel
theorem dX10_init_76 : decode cX10_init 76 = .ok (.putfield 28, 3) := by decide +kernel
theorem dX10_init_79 : decode cX10_init 79 = .ok (.aload_n 0, 1) := by decide +kernel
theorem dX10_init_80 : decode cX10_init 80 = .ok (.bipush 15, 2) := by decide +kernel
theorem dX10_init_82 : decode cX10_init 82 = .ok (.newarray .int, 2) := by decide +kernel
theorem dX10_init_84 : decode cX10_init 84 = .ok (.putfield 31, 3) := by decide +kernel
theorem dX10_init_87 : decode cX10_init 87 = .ok (.aload_n 0, 1) := by decide +kernel
theorem dX10_init_88 : decode cX10_init 88 = .ok (.bipush 15, 2) := by decide +kernel
theorem dX10_init_90 : decode cX10_init 90 = .ok (.newarray .int, 2) := by decide +kernel
theorem dX10_init_92 : decode cX10_init 92 = .ok (.putfield 34, 3) := by decide +kernel
theorem dX10_init_95 : decode cX10_init 95 = .ok (.aload_n 0, 1) := by decide +kernel
theorem dX10_init_96 : decode cX10_init 96 = .ok (.bipush 36, 2) := by decide +kernel
theorem dX10_init_98 : decode cX10_init 98 = .ok (.newarray .int, 2) := by decide +kernel
theorem dX10_init_100 : decode cX10_init 100 = .ok (.putfield 37, 3) := by decide +kernel
theorem dX10_init_103 : decode cX10_init 103 = .ok (.aload_n 0, 1) := by decide +kernel
theorem dX10_init_104 : decode cX10_init 104 = .ok (.bipush 36, 2) := by decide +kernel
theorem dX10_init_106 : decode cX10_init 106 = .ok (.newarray .int, 2) := by decide +kernel
theorem dX10_init_108 : decode cX10_init 108 = .ok (.putfield 40, 3) := by decide +kernel
theorem dX10_init_111 : decode cX10_init 111 = .ok (.aload_n 0, 1) := by decide +kernel
theorem dX10_init_112 : decode cX10_init 112 = .ok (.bipush 36, 2) := by decide +kernel
theorem dX10_init_114 : decode cX10_init 114 = .ok (.newarray .int, 2) := by decide +kernel
theorem dX10_init_116 : decode cX10_init 116 = .ok (.putfield 43, 3) := by decide +kernel
theorem dX10_init_119 : decode cX10_init 119 = .ok (.aload_n 0, 1) := by decide +kernel
theorem dX10_init_120 : decode cX10_init 120 = .ok (.bipush 36, 2) := by decide +kernel
theorem dX10_init_122 : decode cX10_init 122 = .ok (.newarray .int, 2) := by decide +kernel
theorem dX10_init_124 : decode cX10_init 124 = .ok (.putfield 46, 3) := by decide +kernel
theorem dX10_init_127 : decode cX10_init 127 = .ok (.aload_n 0, 1) := by decide +kernel
theorem dX10_init_128 : decode cX10_init 128 = .ok (.bipush 6, 2) := by decide +kernel
theorem dX10_init_130 : decode cX10_init 130 = .ok (.newarray .int, 2) := by decide +kernel
theorem dX10_init_132 : decode cX10_init 132 = .ok (.putfield 49, 3) := by decide +kernel
theorem dX10_init_135 : decode cX10_init 135 = .ok (.aload_n 0, 1) := by decide +kernel
theorem dX10_init_136 : decode cX10_init 136 = .ok (.bipush 6, 2) := by decide +kernel
theorem dX10_init_138 : decode cX10_init 138 = .ok (.newarray .int, 2) := by decide +kernel
theorem dX10_init_140 : decode cX10_init 140 = .ok (.putfield 52, 3) := by decide +kernel
theorem dX10_init_143 : decode cX10_init 143 = .ok (.aload_n 0, 1) := by decide +kernel
theorem dX10_init_144 : decode cX10_init 144 = .ok (.bipush 6, 2) := by decide +kernel
theorem dX10_init_146 : decode cX10_init 146 = .ok (.newarray .int, 2) := by decide +kernel
theorem dX10_init_148 : decode cX10_init 148 = .ok (.putfield 55, 3) := by decide +kernel
theorem dX10_init_151 : decode cX10_init 151 = .ok (.aload_n 0, 1) := by decide +kernel
theorem dX10_init_152 : decode cX10_init 152 = .ok (.bipush 10, 2) := by decide +kernel
theorem dX10_init_154 : decode cX10_init 154 = .ok (.newarray .int, 2) := by decide +kernel
theorem dX10_init_156 : decode cX10_init 156 = .ok (.putfield 58, 3) := by decide +kernel
theorem dX10_init_159 : decode cX10_init 159 = .ok (.aload_n 0, 1) := by decide +kernel
theorem dX10_init_160 : decode cX10_init 160 = .ok (.bipush 10, 2) := by decide +kernel
theorem dX10_init_162 : decode cX10_init 162 = .ok (.newarray .int, 2) := by decide +kernel
theorem dX10_init_164 : decode cX10_init 164 = .ok (.putfield 61, 3) := by decide +kernel
theorem dX10_init_167 : decode cX10_init 167 = .ok (.aload_n 0, 1) := by decide +kernel
theorem dX10_init_168 : decode cX10_init 168 = .ok (.sipush 576, 3) := by decide +kernel
theorem dX10_init_171 : decode cX10_init 171 = .ok (.newarray .boolean, 2) := by decide +kernel
theorem dX10_init_173 : decode cX10_init 173 = .ok (.putfield 64, 3) := by decide +kernel
theorem dX10_init_176 : decode cX10_init 176 = .ok (.aload_n 0, 1) := by decide +kernel
theorem dX10_init_177 : decode cX10_init 177 = .ok (.iconst 4, 1) := by decide +kernel
theorem dX10_init_178 : decode cX10_init 178 = .ok (.newarray .int, 2) := by decide +kernel
theorem dX10_init_180 : decode cX10_init 180 = .ok (.putfield 68, 3) := by decide +kernel
theorem dX10_init_183 : decode cX10_init 183 = .ok (.return_, 1) := by decide +kernel
theorem dX10_fails_0 : decode cX10_fails 0 = .ok (.aload_n 0, 1) := by decide +kernel
theorem dX10_fails_1 : decode cX10_fails 1 = .ok (.iload_n 1, 1) := by decide +kernel
theorem dX10_fails_2 : decode cX10_fails 2 = .ok (.putfield 71, 3) := by decide +kernel
theorem dX10_fails_5 : decode cX10_fails 5 = .ok (.bipush (-10), 2) := by decide +kernel
theorem dX10_fails_7 : decode cX10_fails 7 = .ok (.iload_n 1, 1) := by decide +kernel
theorem dX10_fails_8 : decode cX10_fails 8 = .ok (.isub, 1) := by decide +kernel
theorem dX10_fails_9 : decode cX10_fails 9 = .ok (.ireturn, 1) := by decide +kernel
theorem dX10_lost_0 : decode cX10_lost 0 = .ok (.aload_n 0, 1) := by decide +kernel
theorem dX10_lost_1 : decode cX10_lost 1 = .ok (.iload_n 1, 1) := by decide +kernel
theorem dX10_lost_2 : decode cX10_lost 2 = .ok (.putfield 71, 3) := by decide +kernel
theorem dX10_lost_5 : decode cX10_lost 5 = .ok (.ldc2_w 75, 3) := by decide +kernel
theorem dX10_lost_8 : decode cX10_lost 8 = .ok (.lreturn, 1) := by decide +kernel
theorem dX10_within_0 : decode cX10_within 0 = .ok (.iload_n 0, 1) := by decide +kernel
theorem dX10_within_1 : decode cX10_within 1 = .ok (.iload_n 1, 1) := by decide +kernel
theorem dX10_within_2 : decode cX10_within 2 = .ok (.if_icmp .lt 12, 3) := by decide +kernel
theorem dX10_within_5 : decode cX10_within 5 = .ok (.iload_n 0, 1) := by decide +kernel
theorem dX10_within_6 : decode cX10_within 6 = .ok (.iload_n 2, 1) := by decide +kernel
theorem dX10_within_7 : decode cX10_within 7 = .ok (.if_icmp .gt 7, 3) := by decide +kernel
theorem dX10_within_10 : decode cX10_within 10 = .ok (.iconst 1, 1) := by decide +kernel
theorem dX10_within_11 : decode cX10_within 11 = .ok (.goto 4, 3) := by decide +kernel
theorem dX10_within_14 : decode cX10_within 14 = .ok (.iconst 0, 1) := by decide +kernel
theorem dX10_within_15 : decode cX10_within 15 = .ok (.ireturn, 1) := by decide +kernel
theorem dX10_common_0 : decode cX10_common 0 = .ok (.lload_n 0, 1) := by decide +kernel
theorem dX10_common_1 : decode cX10_common 1 = .ok (.lconst 0, 1) := by decide +kernel
theorem dX10_common_2 : decode cX10_common 2 = .ok (.lcmp, 1) := by decide +kernel
theorem dX10_common_3 : decode cX10_common 3 = .ok (.ifCond .ge 8, 3) := by decide +kernel
theorem dX10_common_6 : decode cX10_common 6 = .ok (.lload_n 0, 1) := by decide +kernel
theorem dX10_common_7 : decode cX10_common 7 = .ok (.lneg, 1) := by decide +kernel
theorem dX10_common_8 : decode cX10_common 8 = .ok (.goto 4, 3) := by decide +kernel
theorem dX10_common_11 : decode cX10_common 11 = .ok (.lload_n 0, 1) := by decide +kernel
theorem dX10_common_12 : decode cX10_common 12 = .ok (.lstore 4, 2) := by decide +kernel
theorem dX10_common_14 : decode cX10_common 14 = .ok (.lload_n 2, 1) := by decide +kernel
theorem dX10_common_15 : decode cX10_common 15 = .ok (.lstore 6, 2) := by decide +kernel
theorem dX10_common_17 : decode cX10_common 17 = .ok (.lload 6, 2) := by decide +kernel
theorem dX10_common_19 : decode cX10_common 19 = .ok (.lconst 0, 1) := by decide +kernel
theorem dX10_common_20 : decode cX10_common 20 = .ok (.lcmp, 1) := by decide +kernel
theorem dX10_common_21 : decode cX10_common 21 = .ok (.ifCond .eq 21, 3) := by decide +kernel
theorem dX10_common_24 : decode cX10_common 24 = .ok (.lload 4, 2) := by decide +kernel
theorem dX10_common_26 : decode cX10_common 26 = .ok (.lload 6, 2) := by decide +kernel
theorem dX10_common_28 : decode cX10_common 28 = .ok (.lrem, 1) := by decide +kernel
theorem dX10_common_29 : decode cX10_common 29 = .ok (.lstore 8, 2) := by decide +kernel
theorem dX10_common_31 : decode cX10_common 31 = .ok (.lload 6, 2) := by decide +kernel
theorem dX10_common_33 : decode cX10_common 33 = .ok (.lstore 4, 2) := by decide +kernel
theorem dX10_common_35 : decode cX10_common 35 = .ok (.lload 8, 2) := by decide +kernel
theorem dX10_common_37 : decode cX10_common 37 = .ok (.lstore 6, 2) := by decide +kernel
theorem dX10_common_39 : decode cX10_common 39 = .ok (.goto (-22), 3) := by decide +kernel
theorem dX10_common_42 : decode cX10_common 42 = .ok (.lload 4, 2) := by decide +kernel
theorem dX10_common_44 : decode cX10_common 44 = .ok (.lreturn, 1) := by decide +kernel
set_option maxRecDepth 20000 in
theorem ggX10_share_X10_common : GoodIn wsX10_share wsX10_common := goodIn_r _ [4] (by decide +kernel) (by decide +kernel)
set_option maxRecDepth 20000 in
theorem gX10_share_X10_common : GoodIn wsX10_share (va_wsS RX10 77 yX10_common wsX10_common) := goodIn_app (goodIn_of _ (by decide +kernel)) ggX10_share_X10_common
theorem dX10_share_0 : decode cX10_share 0 = .ok (.lload_n 0, 1) := by decide +kernel
theorem dX10_share_1 : decode cX10_share 1 = .ok (.lload_n 2, 1) := by decide +kernel
theorem dX10_share_2 : decode cX10_share 2 = .ok (.invokestatic 77, 3) := by decide +kernel
theorem dX10_share_5 : decode cX10_share 5 = .ok (.lstore 5, 2) := by decide +kernel
theorem dX10_share_7 : decode cX10_share 7 = .ok (.iload 4, 2) := by decide +kernel
theorem dX10_share_9 : decode cX10_share 9 = .ok (.ifCond .ne 10, 3) := by decide +kernel
theorem dX10_share_12 : decode cX10_share 12 = .ok (.lload_n 0, 1) := by decide +kernel
theorem dX10_share_13 : decode cX10_share 13 = .ok (.lload 5, 2) := by decide +kernel
theorem dX10_share_15 : decode cX10_share 15 = .ok (.ldiv, 1) := by decide +kernel
theorem dX10_share_16 : decode cX10_share 16 = .ok (.goto 7, 3) := by decide +kernel
theorem dX10_share_19 : decode cX10_share 19 = .ok (.lload_n 2, 1) := by decide +kernel
theorem dX10_share_20 : decode cX10_share 20 = .ok (.lload 5, 2) := by decide +kernel
theorem dX10_share_22 : decode cX10_share 22 = .ok (.ldiv, 1) := by decide +kernel
theorem dX10_share_23 : decode cX10_share 23 = .ok (.lreturn, 1) := by decide +kernel
set_option maxRecDepth 20000 in
theorem ggX10_isWhich_X10_within : GoodIn wsX10_isWhich wsX10_within := goodIn_r _ [4] (by decide +kernel) (by decide +kernel)
set_option maxRecDepth 20000 in
theorem gX10_isWhich_X10_within : GoodIn wsX10_isWhich (va_wsS RX10 81 yX10_within wsX10_within) := goodIn_app (goodIn_of _ (by decide +kernel)) ggX10_isWhich_X10_within
theorem dX10_isWhich_0 : decode cX10_isWhich 0 = .ok (.iload_n 0, 1) := by decide +kernel
theorem dX10_isWhich_1 : decode cX10_isWhich 1 = .ok (.iconst 0, 1) := by decide +kernel
theorem dX10_isWhich_2 : decode cX10_isWhich 2 = .ok (.iconst 1, 1) := by decide +kernel
theorem dX10_isWhich_3 : decode cX10_isWhich 3 = .ok (.invokestatic 81, 3) := by decide +kernel
theorem dX10_isWhich_6 : decode cX10_isWhich 6 = .ok (.ireturn, 1) := by decide +kernel
set_option maxRecDepth 20000 in
theorem ggX10_isSheet_X10_within : GoodIn wsX10_isSheet wsX10_within := goodIn_r _ [4] (by decide +kernel) (by decide +kernel)
set_option maxRecDepth 20000 in
theorem gX10_isSheet_X10_within : GoodIn wsX10_isSheet (va_wsS RX10 81 yX10_within wsX10_within) := goodIn_app (goodIn_of _ (by decide +kernel)) ggX10_isSheet_X10_within
theorem dX10_isSheet_0 : decode cX10_isSheet 0 = .ok (.iload_n 0, 1) := by decide +kernel
theorem dX10_isSheet_1 : decode cX10_isSheet 1 = .ok (.iconst 0, 1) := by decide +kernel
theorem dX10_isSheet_2 : decode cX10_isSheet 2 = .ok (.iconst 3, 1) := by decide +kernel
theorem dX10_isSheet_3 : decode cX10_isSheet 3 = .ok (.invokestatic 81, 3) := by decide +kernel
theorem dX10_isSheet_6 : decode cX10_isSheet 6 = .ok (.ireturn, 1) := by decide +kernel
set_option maxRecDepth 20000 in
theorem ggX10_isSort_X10_within : GoodIn wsX10_isSort wsX10_within := goodIn_r _ [4] (by decide +kernel) (by decide +kernel)
set_option maxRecDepth 20000 in
theorem gX10_isSort_X10_within : GoodIn wsX10_isSort (va_wsS RX10 81 yX10_within wsX10_within) := goodIn_app (goodIn_of _ (by decide +kernel)) ggX10_isSort_X10_within
theorem dX10_isSort_0 : decode cX10_isSort 0 = .ok (.iload_n 0, 1) := by decide +kernel
theorem dX10_isSort_1 : decode cX10_isSort 1 = .ok (.iconst 0, 1) := by decide +kernel
theorem dX10_isSort_2 : decode cX10_isSort 2 = .ok (.iconst 2, 1) := by decide +kernel
theorem dX10_isSort_3 : decode cX10_isSort 3 = .ok (.invokestatic 81, 3) := by decide +kernel
theorem dX10_isSort_6 : decode cX10_isSort 6 = .ok (.ireturn, 1) := by decide +kernel
theorem dX10_against_0 : decode cX10_against 0 = .ok (.aload_n 0, 1) := by decide +kernel
theorem dX10_against_1 : decode cX10_against 1 = .ok (.getfield 9, 3) := by decide +kernel
theorem dX10_against_4 : decode cX10_against 4 = .ok (.iload_n 1, 1) := by decide +kernel
theorem dX10_against_5 : decode cX10_against 5 = .ok (.iaload, 1) := by decide +kernel
theorem dX10_against_6 : decode cX10_against 6 = .ok (.bipush (-9), 2) := by decide +kernel
theorem dX10_against_8 : decode cX10_against 8 = .ok (.if_icmp .eq 15, 3) := by decide +kernel
theorem dX10_against_11 : decode cX10_against 11 = .ok (.aload_n 0, 1) := by decide +kernel
theorem dX10_against_12 : decode cX10_against 12 = .ok (.getfield 9, 3) := by decide +kernel
theorem dX10_against_15 : decode cX10_against 15 = .ok (.iload_n 1, 1) := by decide +kernel
theorem dX10_against_16 : decode cX10_against 16 = .ok (.iaload, 1) := by decide +kernel
theorem dX10_against_17 : decode cX10_against 17 = .ok (.iload_n 2, 1) := by decide +kernel
theorem dX10_against_18 : decode cX10_against 18 = .ok (.if_icmp .eq 5, 3) := by decide +kernel
theorem dX10_against_21 : decode cX10_against 21 = .ok (.iconst 2, 1) := by decide +kernel
theorem dX10_against_22 : decode cX10_against 22 = .ok (.ireturn, 1) := by decide +kernel
theorem dX10_against_23 : decode cX10_against 23 = .ok (.aload_n 0, 1) := by decide +kernel
theorem dX10_against_24 : decode cX10_against 24 = .ok (.getfield 9, 3) := by decide +kernel
theorem dX10_against_27 : decode cX10_against 27 = .ok (.iload_n 1, 1) := by decide +kernel
theorem dX10_against_28 : decode cX10_against 28 = .ok (.iaload, 1) := by decide +kernel
theorem dX10_against_29 : decode cX10_against 29 = .ok (.bipush (-9), 2) := by decide +kernel
theorem dX10_against_31 : decode cX10_against 31 = .ok (.if_icmp .ne 5, 3) := by decide +kernel
theorem dX10_against_34 : decode cX10_against 34 = .ok (.iconst 1, 1) := by decide +kernel
theorem dX10_against_35 : decode cX10_against 35 = .ok (.ireturn, 1) := by decide +kernel
theorem dX10_against_36 : decode cX10_against 36 = .ok (.iload 4, 2) := by decide +kernel
theorem dX10_against_38 : decode cX10_against 38 = .ok (.ifCond .ge 5, 3) := by decide +kernel
theorem dX10_against_41 : decode cX10_against 41 = .ok (.iconst 4, 1) := by decide +kernel
theorem dX10_against_42 : decode cX10_against 42 = .ok (.ireturn, 1) := by decide +kernel
theorem dX10_against_43 : decode cX10_against 43 = .ok (.iload_n 3, 1) := by decide +kernel
theorem dX10_against_44 : decode cX10_against 44 = .ok (.ifCond .lt 29, 3) := by decide +kernel
theorem dX10_against_47 : decode cX10_against 47 = .ok (.iload_n 3, 1) := by decide +kernel
theorem dX10_against_48 : decode cX10_against 48 = .ok (.aload_n 0, 1) := by decide +kernel
theorem dX10_against_49 : decode cX10_against 49 = .ok (.getfield 13, 3) := by decide +kernel
theorem dX10_against_52 : decode cX10_against 52 = .ok (.iload_n 1, 1) := by decide +kernel
theorem dX10_against_53 : decode cX10_against 53 = .ok (.iaload, 1) := by decide +kernel
theorem dX10_against_54 : decode cX10_against 54 = .ok (.if_icmp .gt 19, 3) := by decide +kernel
theorem dX10_against_57 : decode cX10_against 57 = .ok (.iload 4, 2) := by decide +kernel
theorem dX10_against_59 : decode cX10_against 59 = .ok (.aload_n 0, 1) := by decide +kernel
theorem dX10_against_60 : decode cX10_against 60 = .ok (.getfield 13, 3) := by decide +kernel
theorem dX10_against_63 : decode cX10_against 63 = .ok (.iload_n 1, 1) := by decide +kernel
theorem dX10_against_64 : decode cX10_against 64 = .ok (.iaload, 1) := by decide +kernel
theorem dX10_against_65 : decode cX10_against 65 = .ok (.iload_n 3, 1) := by decide +kernel
theorem dX10_against_66 : decode cX10_against 66 = .ok (.isub, 1) := by decide +kernel
theorem dX10_against_67 : decode cX10_against 67 = .ok (.iload 5, 2) := by decide +kernel
theorem dX10_against_69 : decode cX10_against 69 = .ok (.idiv, 1) := by decide +kernel
theorem dX10_against_70 : decode cX10_against 70 = .ok (.if_icmp .le 7, 3) := by decide +kernel
theorem dX10_against_73 : decode cX10_against 73 = .ok (.iconst 3, 1) := by decide +kernel
theorem dX10_against_74 : decode cX10_against 74 = .ok (.goto 4, 3) := by decide +kernel
theorem dX10_against_77 : decode cX10_against 77 = .ok (.iconst 0, 1) := by decide +kernel
theorem dX10_against_78 : decode cX10_against 78 = .ok (.ireturn, 1) := by decide +kernel
theorem dX10_isKnife_0 : decode cX10_isKnife 0 = .ok (.iload_n 1, 1) := by decide +kernel
theorem dX10_isKnife_1 : decode cX10_isKnife 1 = .ok (.ifCond .lt 15, 3) := by decide +kernel
theorem dX10_isKnife_4 : decode cX10_isKnife 4 = .ok (.iload_n 1, 1) := by decide +kernel
theorem dX10_isKnife_5 : decode cX10_isKnife 5 = .ok (.aload_n 0, 1) := by decide +kernel
theorem dX10_isKnife_6 : decode cX10_isKnife 6 = .ok (.getfield 85, 3) := by decide +kernel
theorem dX10_isKnife_9 : decode cX10_isKnife 9 = .ok (.if_icmp .ge 7, 3) := by decide +kernel
theorem dX10_isKnife_12 : decode cX10_isKnife 12 = .ok (.iconst 1, 1) := by decide +kernel
theorem dX10_isKnife_13 : decode cX10_isKnife 13 = .ok (.goto 4, 3) := by decide +kernel
theorem dX10_isKnife_16 : decode cX10_isKnife 16 = .ok (.iconst 0, 1) := by decide +kernel
theorem dX10_isKnife_17 : decode cX10_isKnife 17 = .ok (.ireturn, 1) := by decide +kernel
set_option maxRecDepth 20000 in
theorem ggX10_knife_X10_within : GoodIn wsX10_knife wsX10_within := goodIn_r _ [9] (by decide +kernel) (by decide +kernel)
set_option maxRecDepth 20000 in
theorem gX10_knife_X10_within : GoodIn wsX10_knife (va_wsS RX10 81 yX10_within wsX10_within) := goodIn_app (goodIn_of _ (by decide +kernel)) ggX10_knife_X10_within
theorem dX10_knife_0 : decode cX10_knife 0 = .ok (.iload_n 1, 1) := by decide +kernel
theorem dX10_knife_1 : decode cX10_knife 1 = .ok (.iconst 0, 1) := by decide +kernel
theorem dX10_knife_2 : decode cX10_knife 2 = .ok (.iconst 2, 1) := by decide +kernel
theorem dX10_knife_3 : decode cX10_knife 3 = .ok (.invokestatic 81, 3) := by decide +kernel
theorem dX10_knife_6 : decode cX10_knife 6 = .ok (.ifCond .eq 33, 3) := by decide +kernel
theorem dX10_knife_9 : decode cX10_knife 9 = .ok (.iload_n 2, 1) := by decide +kernel
theorem dX10_knife_10 : decode cX10_knife 10 = .ok (.iconst 1, 1) := by decide +kernel
theorem dX10_knife_11 : decode cX10_knife 11 = .ok (.bipush 9, 2) := by decide +kernel
theorem dX10_knife_13 : decode cX10_knife 13 = .ok (.invokestatic 81, 3) := by decide +kernel
theorem dX10_knife_16 : decode cX10_knife 16 = .ok (.ifCond .eq 23, 3) := by decide +kernel
theorem dX10_knife_19 : decode cX10_knife 19 = .ok (.iload_n 3, 1) := by decide +kernel
theorem dX10_knife_20 : decode cX10_knife 20 = .ok (.iconst 1, 1) := by decide +kernel
theorem dX10_knife_21 : decode cX10_knife 21 = .ok (.bipush 24, 2) := by decide +kernel
theorem dX10_knife_23 : decode cX10_knife 23 = .ok (.invokestatic 81, 3) := by decide +kernel
theorem dX10_knife_26 : decode cX10_knife 26 = .ok (.ifCond .eq 13, 3) := by decide +kernel
theorem dX10_knife_29 : decode cX10_knife 29 = .ok (.iload 4, 2) := by decide +kernel
theorem dX10_knife_31 : decode cX10_knife 31 = .ok (.iconst 0, 1) := by decide +kernel
theorem dX10_knife_32 : decode cX10_knife 32 = .ok (.iconst 5, 1) := by decide +kernel
theorem dX10_knife_33 : decode cX10_knife 33 = .ok (.invokestatic 81, 3) := by decide +kernel
theorem dX10_knife_36 : decode cX10_knife 36 = .ok (.ifCond .ne 6, 3) := by decide +kernel
theorem dX10_knife_39 : decode cX10_knife 39 = .ok (.bipush (-2), 2) := by decide +kernel
theorem dX10_knife_41 : decode cX10_knife 41 = .ok (.ireturn, 1) := by decide +kernel
theorem dX10_knife_42 : decode cX10_knife 42 = .ok (.aload_n 0, 1) := by decide +kernel
theorem dX10_knife_43 : decode cX10_knife 43 = .ok (.getfield 85, 3) := by decide +kernel
theorem dX10_knife_46 : decode cX10_knife 46 = .ok (.bipush 6, 2) := by decide +kernel
theorem dX10_knife_48 : decode cX10_knife 48 = .ok (.if_icmp .ne 6, 3) := by decide +kernel
theorem dX10_knife_51 : decode cX10_knife 51 = .ok (.bipush (-4), 2) := by decide +kernel
theorem dX10_knife_53 : decode cX10_knife 53 = .ok (.ireturn, 1) := by decide +kernel
theorem dX10_knife_54 : decode cX10_knife 54 = .ok (.aload_n 0, 1) := by decide +kernel
theorem dX10_knife_55 : decode cX10_knife 55 = .ok (.getfield 19, 3) := by decide +kernel
theorem dX10_knife_58 : decode cX10_knife 58 = .ok (.aload_n 0, 1) := by decide +kernel
theorem dX10_knife_59 : decode cX10_knife 59 = .ok (.getfield 85, 3) := by decide +kernel
theorem dX10_knife_62 : decode cX10_knife 62 = .ok (.iload_n 1, 1) := by decide +kernel
theorem dX10_knife_63 : decode cX10_knife 63 = .ok (.iastore, 1) := by decide +kernel
theorem dX10_knife_64 : decode cX10_knife 64 = .ok (.aload_n 0, 1) := by decide +kernel
theorem dX10_knife_65 : decode cX10_knife 65 = .ok (.getfield 22, 3) := by decide +kernel
theorem dX10_knife_68 : decode cX10_knife 68 = .ok (.aload_n 0, 1) := by decide +kernel
theorem dX10_knife_69 : decode cX10_knife 69 = .ok (.getfield 85, 3) := by decide +kernel
theorem dX10_knife_72 : decode cX10_knife 72 = .ok (.iload_n 2, 1) := by decide +kernel
theorem dX10_knife_73 : decode cX10_knife 73 = .ok (.iastore, 1) := by decide +kernel
theorem dX10_knife_74 : decode cX10_knife 74 = .ok (.aload_n 0, 1) := by decide +kernel
theorem dX10_knife_75 : decode cX10_knife 75 = .ok (.getfield 25, 3) := by decide +kernel
theorem dX10_knife_78 : decode cX10_knife 78 = .ok (.aload_n 0, 1) := by decide +kernel
theorem dX10_knife_79 : decode cX10_knife 79 = .ok (.getfield 85, 3) := by decide +kernel
theorem dX10_knife_82 : decode cX10_knife 82 = .ok (.iload_n 3, 1) := by decide +kernel
theorem dX10_knife_83 : decode cX10_knife 83 = .ok (.iastore, 1) := by decide +kernel
theorem dX10_knife_84 : decode cX10_knife 84 = .ok (.aload_n 0, 1) := by decide +kernel
theorem dX10_knife_85 : decode cX10_knife 85 = .ok (.getfield 28, 3) := by decide +kernel
theorem dX10_knife_88 : decode cX10_knife 88 = .ok (.aload_n 0, 1) := by decide +kernel
theorem dX10_knife_89 : decode cX10_knife 89 = .ok (.getfield 85, 3) := by decide +kernel
theorem dX10_knife_92 : decode cX10_knife 92 = .ok (.iload 4, 2) := by decide +kernel
theorem dX10_knife_94 : decode cX10_knife 94 = .ok (.iastore, 1) := by decide +kernel
theorem dX10_knife_95 : decode cX10_knife 95 = .ok (.aload_n 0, 1) := by decide +kernel
theorem dX10_knife_96 : decode cX10_knife 96 = .ok (.dup, 1) := by decide +kernel
theorem dX10_knife_97 : decode cX10_knife 97 = .ok (.getfield 85, 3) := by decide +kernel
theorem dX10_knife_100 : decode cX10_knife 100 = .ok (.iconst 1, 1) := by decide +kernel
theorem dX10_knife_101 : decode cX10_knife 101 = .ok (.iadd, 1) := by decide +kernel
theorem dX10_knife_102 : decode cX10_knife 102 = .ok (.putfield 85, 3) := by decide +kernel
theorem dX10_knife_105 : decode cX10_knife 105 = .ok (.aload_n 0, 1) := by decide +kernel
theorem dX10_knife_106 : decode cX10_knife 106 = .ok (.getfield 85, 3) := by decide +kernel
theorem dX10_knife_109 : decode cX10_knife 109 = .ok (.iconst 1, 1) := by decide +kernel
theorem dX10_knife_110 : decode cX10_knife 110 = .ok (.isub, 1) := by decide +kernel
theorem dX10_knife_111 : decode cX10_knife 111 = .ok (.ireturn, 1) := by decide +kernel
theorem dX10_width_0 : decode cX10_width 0 = .ok (.aload_n 0, 1) := by decide +kernel
theorem dX10_width_1 : decode cX10_width 1 = .ok (.getfield 19, 3) := by decide +kernel
theorem dX10_width_4 : decode cX10_width 4 = .ok (.iload_n 1, 1) := by decide +kernel
theorem dX10_width_5 : decode cX10_width 5 = .ok (.iaload, 1) := by decide +kernel
theorem dX10_width_6 : decode cX10_width 6 = .ok (.ifCond .le 14, 3) := by decide +kernel
theorem dX10_width_9 : decode cX10_width 9 = .ok (.aload_n 0, 1) := by decide +kernel
theorem dX10_width_10 : decode cX10_width 10 = .ok (.getfield 28, 3) := by decide +kernel
theorem dX10_width_13 : decode cX10_width 13 = .ok (.iload_n 1, 1) := by decide +kernel
theorem dX10_width_14 : decode cX10_width 14 = .ok (.iaload, 1) := by decide +kernel
theorem dX10_width_15 : decode cX10_width 15 = .ok (.iconst 1, 1) := by decide +kernel
theorem dX10_width_16 : decode cX10_width 16 = .ok (.iadd, 1) := by decide +kernel
theorem dX10_width_17 : decode cX10_width 17 = .ok (.goto 9, 3) := by decide +kernel
theorem dX10_width_20 : decode cX10_width 20 = .ok (.aload_n 0, 1) := by decide +kernel
theorem dX10_width_21 : decode cX10_width 21 = .ok (.getfield 28, 3) := by decide +kernel
theorem dX10_width_24 : decode cX10_width 24 = .ok (.iload_n 1, 1) := by decide +kernel
theorem dX10_width_25 : decode cX10_width 25 = .ok (.iaload, 1) := by decide +kernel
theorem dX10_width_26 : decode cX10_width 26 = .ok (.ireturn, 1) := by decide +kernel
set_option maxRecDepth 20000 in
theorem ggX10_ofKnife_X10_isKnife : GoodIn wsX10_ofKnife wsX10_isKnife := goodIn_r _ [9, 10, 15, 16, 17, 18, 19, 20, 21, 22, 23, 24, 25, 26, 27, 28, 29, 30, 31, 32, 33, 34, 35, 36, 37, 38, 39, 40, 41, 42, 43, 44, 45, 46, 47] (by decide +kernel) (by decide +kernel)
set_option maxRecDepth 20000 in
theorem gX10_ofKnife_X10_isKnife : GoodIn wsX10_ofKnife (wsV RX10 88 RX10 yX10_isKnife wsX10_isKnife) := goodIn_app (goodIn_of _ (by decide +kernel)) ggX10_ofKnife_X10_isKnife
set_option maxRecDepth 20000 in
theorem ggX10_ofKnife_X10_width : GoodIn wsX10_ofKnife wsX10_width := goodIn_r _ [14, 1, 4, 15, 16, 17, 18, 19, 20, 21, 22, 23, 24, 25, 26, 27, 28, 29, 30, 31, 32, 33, 34, 35, 36, 37, 38, 39, 40, 41, 42, 43, 44, 45, 46, 47] (by decide +kernel) (by decide +kernel)
set_option maxRecDepth 20000 in
theorem gX10_ofKnife_X10_width : GoodIn wsX10_ofKnife (wsV RX10 92 RX10 yX10_width wsX10_width) := goodIn_app (goodIn_of _ (by decide +kernel)) ggX10_ofKnife_X10_width
theorem dX10_ofKnife_0 : decode cX10_ofKnife 0 = .ok (.aload_n 0, 1) := by decide +kernel
theorem dX10_ofKnife_1 : decode cX10_ofKnife 1 = .ok (.iload_n 1, 1) := by decide +kernel
theorem dX10_ofKnife_2 : decode cX10_ofKnife 2 = .ok (.invokevirtual 88, 3) := by decide +kernel
theorem dX10_ofKnife_5 : decode cX10_ofKnife 5 = .ok (.ifCond .ne 5, 3) := by decide +kernel
theorem dX10_ofKnife_8 : decode cX10_ofKnife 8 = .ok (.iconst (-1), 1) := by decide +kernel
theorem dX10_ofKnife_9 : decode cX10_ofKnife 9 = .ok (.ireturn, 1) := by decide +kernel
theorem dX10_ofKnife_10 : decode cX10_ofKnife 10 = .ok (.iload_n 2, 1) := by decide +kernel
theorem dX10_ofKnife_11 : decode cX10_ofKnife 11 = .ok (.tableswitch 67 0 4 #[33, 40, 47, 54, 61], 33) := by decide +kernel
theorem dX10_ofKnife_44 : decode cX10_ofKnife 44 = .ok (.aload_n 0, 1) := by decide +kernel
theorem dX10_ofKnife_45 : decode cX10_ofKnife 45 = .ok (.getfield 19, 3) := by decide +kernel
theorem dX10_ofKnife_48 : decode cX10_ofKnife 48 = .ok (.iload_n 1, 1) := by decide +kernel
theorem dX10_ofKnife_49 : decode cX10_ofKnife 49 = .ok (.iaload, 1) := by decide +kernel
theorem dX10_ofKnife_50 : decode cX10_ofKnife 50 = .ok (.ireturn, 1) := by decide +kernel
theorem dX10_ofKnife_51 : decode cX10_ofKnife 51 = .ok (.aload_n 0, 1) := by decide +kernel
theorem dX10_ofKnife_52 : decode cX10_ofKnife 52 = .ok (.getfield 22, 3) := by decide +kernel
theorem dX10_ofKnife_55 : decode cX10_ofKnife 55 = .ok (.iload_n 1, 1) := by decide +kernel
theorem dX10_ofKnife_56 : decode cX10_ofKnife 56 = .ok (.iaload, 1) := by decide +kernel
theorem dX10_ofKnife_57 : decode cX10_ofKnife 57 = .ok (.ireturn, 1) := by decide +kernel
theorem dX10_ofKnife_58 : decode cX10_ofKnife 58 = .ok (.aload_n 0, 1) := by decide +kernel
theorem dX10_ofKnife_59 : decode cX10_ofKnife 59 = .ok (.getfield 25, 3) := by decide +kernel
theorem dX10_ofKnife_62 : decode cX10_ofKnife 62 = .ok (.iload_n 1, 1) := by decide +kernel
theorem dX10_ofKnife_63 : decode cX10_ofKnife 63 = .ok (.iaload, 1) := by decide +kernel
theorem dX10_ofKnife_64 : decode cX10_ofKnife 64 = .ok (.ireturn, 1) := by decide +kernel
theorem dX10_ofKnife_65 : decode cX10_ofKnife 65 = .ok (.aload_n 0, 1) := by decide +kernel
theorem dX10_ofKnife_66 : decode cX10_ofKnife 66 = .ok (.getfield 28, 3) := by decide +kernel
theorem dX10_ofKnife_69 : decode cX10_ofKnife 69 = .ok (.iload_n 1, 1) := by decide +kernel
theorem dX10_ofKnife_70 : decode cX10_ofKnife 70 = .ok (.iaload, 1) := by decide +kernel
theorem dX10_ofKnife_71 : decode cX10_ofKnife 71 = .ok (.ireturn, 1) := by decide +kernel
theorem dX10_ofKnife_72 : decode cX10_ofKnife 72 = .ok (.aload_n 0, 1) := by decide +kernel
theorem dX10_ofKnife_73 : decode cX10_ofKnife 73 = .ok (.iload_n 1, 1) := by decide +kernel
theorem dX10_ofKnife_74 : decode cX10_ofKnife 74 = .ok (.invokevirtual 92, 3) := by decide +kernel
theorem dX10_ofKnife_77 : decode cX10_ofKnife 77 = .ok (.ireturn, 1) := by decide +kernel
theorem dX10_ofKnife_78 : decode cX10_ofKnife 78 = .ok (.bipush (-2), 2) := by decide +kernel
theorem dX10_ofKnife_80 : decode cX10_ofKnife 80 = .ok (.ireturn, 1) := by decide +kernel
set_option maxRecDepth 20000 in
theorem ggX10_isStart_X10_within : GoodIn wsX10_isStart wsX10_within := goodIn_r _ [4] (by decide +kernel) (by decide +kernel)
set_option maxRecDepth 20000 in
theorem gX10_isStart_X10_within : GoodIn wsX10_isStart (va_wsS RX10 81 yX10_within wsX10_within) := goodIn_app (goodIn_of _ (by decide +kernel)) ggX10_isStart_X10_within
theorem dX10_isStart_0 : decode cX10_isStart 0 = .ok (.iload_n 0, 1) := by decide +kernel
theorem dX10_isStart_1 : decode cX10_isStart 1 = .ok (.iconst 0, 1) := by decide +kernel
theorem dX10_isStart_2 : decode cX10_isStart 2 = .ok (.bipush 23, 2) := by decide +kernel
theorem dX10_isStart_4 : decode cX10_isStart 4 = .ok (.invokestatic 81, 3) := by decide +kernel
theorem dX10_isStart_7 : decode cX10_isStart 7 = .ok (.ireturn, 1) := by decide +kernel
set_option maxRecDepth 20000 in
theorem ggX10_isFeet_X10_within : GoodIn wsX10_isFeet wsX10_within := goodIn_r _ [4] (by decide +kernel) (by decide +kernel)
set_option maxRecDepth 20000 in
theorem gX10_isFeet_X10_within : GoodIn wsX10_isFeet (va_wsS RX10 81 yX10_within wsX10_within) := goodIn_app (goodIn_of _ (by decide +kernel)) ggX10_isFeet_X10_within
theorem dX10_isFeet_0 : decode cX10_isFeet 0 = .ok (.iload_n 0, 1) := by decide +kernel
theorem dX10_isFeet_1 : decode cX10_isFeet 1 = .ok (.iconst 1, 1) := by decide +kernel
theorem dX10_isFeet_2 : decode cX10_isFeet 2 = .ok (.bipush 40, 2) := by decide +kernel
theorem dX10_isFeet_4 : decode cX10_isFeet 4 = .ok (.invokestatic 81, 3) := by decide +kernel
theorem dX10_isFeet_7 : decode cX10_isFeet 7 = .ok (.ireturn, 1) := by decide +kernel
theorem dX10_round_0 : decode cX10_round 0 = .ok (.iload_n 0, 1) := by decide +kernel
theorem dX10_round_1 : decode cX10_round 1 = .ok (.iload_n 3, 1) := by decide +kernel
theorem dX10_round_2 : decode cX10_round 2 = .ok (.imul, 1) := by decide +kernel
theorem dX10_round_3 : decode cX10_round 3 = .ok (.iload_n 1, 1) := by decide +kernel
theorem dX10_round_4 : decode cX10_round 4 = .ok (.iload_n 2, 1) := by decide +kernel
theorem dX10_round_5 : decode cX10_round 5 = .ok (.imul, 1) := by decide +kernel
theorem dX10_round_6 : decode cX10_round 6 = .ok (.iadd, 1) := by decide +kernel
theorem dX10_round_7 : decode cX10_round 7 = .ok (.bipush 24, 2) := by decide +kernel
theorem dX10_round_9 : decode cX10_round 9 = .ok (.iload_n 3, 1) := by decide +kernel
theorem dX10_round_10 : decode cX10_round 10 = .ok (.imul, 1) := by decide +kernel
theorem dX10_round_11 : decode cX10_round 11 = .ok (.irem, 1) := by decide +kernel
theorem dX10_round_12 : decode cX10_round 12 = .ok (.ireturn, 1) := by decide +kernel
set_option maxRecDepth 20000 in
theorem ggX10_lies_X10_isKnife : GoodIn wsX10_lies wsX10_isKnife := goodIn_r _ [8, 9, 31, 32, 33, 34, 35, 36, 37, 38, 39, 40, 41, 42, 43, 44, 45, 46, 47, 48, 49, 50, 51, 52, 53, 54, 55, 56, 57, 58, 59, 60, 61, 62, 63] (by decide +kernel) (by decide +kernel)
set_option maxRecDepth 20000 in
theorem gX10_lies_X10_isKnife : GoodIn wsX10_lies (wsV RX10 88 RX10 yX10_isKnife wsX10_isKnife) := goodIn_app (goodIn_of _ (by decide +kernel)) ggX10_lies_X10_isKnife
set_option maxRecDepth 20000 in
theorem ggX10_lies_X10_isStart : GoodIn wsX10_lies wsX10_isStart := goodIn_r _ [12, 13, 14, 7, 15] (by decide +kernel) (by decide +kernel)
set_option maxRecDepth 20000 in
theorem gX10_lies_X10_isStart : GoodIn wsX10_lies (va_wsS RX10 96 yX10_isStart wsX10_isStart) := goodIn_app (goodIn_of _ (by decide +kernel)) ggX10_lies_X10_isStart
set_option maxRecDepth 20000 in
theorem ggX10_lies_X10_isFeet : GoodIn wsX10_lies wsX10_isFeet := goodIn_r _ [18, 13, 14, 7, 15] (by decide +kernel) (by decide +kernel)
set_option maxRecDepth 20000 in
theorem gX10_lies_X10_isFeet : GoodIn wsX10_lies (va_wsS RX10 99 yX10_isFeet wsX10_isFeet) := goodIn_app (goodIn_of _ (by decide +kernel)) ggX10_lies_X10_isFeet
set_option maxRecDepth 20000 in
theorem ggX10_lies_X10_isWhich : GoodIn wsX10_lies wsX10_isWhich := goodIn_r _ [21, 13, 14, 7, 15] (by decide +kernel) (by decide +kernel)
set_option maxRecDepth 20000 in
theorem gX10_lies_X10_isWhich : GoodIn wsX10_lies (va_wsS RX10 102 yX10_isWhich wsX10_isWhich) := goodIn_app (goodIn_of _ (by decide +kernel)) ggX10_lies_X10_isWhich
set_option maxRecDepth 20000 in
theorem ggX10_lies_X10_round : GoodIn wsX10_lies wsX10_round := goodIn_r _ [24] (by decide +kernel) (by decide +kernel)
set_option maxRecDepth 20000 in
theorem gX10_lies_X10_round : GoodIn wsX10_lies (va_wsS RX10 105 yX10_round wsX10_round) := goodIn_app (goodIn_of _ (by decide +kernel)) ggX10_lies_X10_round
set_option maxRecDepth 20000 in
theorem ggX10_lies_X10_share : GoodIn wsX10_lies wsX10_share := goodIn_r _ [27, 28, 29, 7, 30] (by decide +kernel) (by decide +kernel)
set_option maxRecDepth 20000 in
theorem gX10_lies_X10_share : GoodIn wsX10_lies (va_wsS RX10 109 yX10_share wsX10_share) := goodIn_app (goodIn_of _ (by decide +kernel)) ggX10_lies_X10_share
theorem dX10_lies_0 : decode cX10_lies 0 = .ok (.aload_n 0, 1) := by decide +kernel
theorem dX10_lies_1 : decode cX10_lies 1 = .ok (.iload_n 1, 1) := by decide +kernel
theorem dX10_lies_2 : decode cX10_lies 2 = .ok (.invokevirtual 88, 3) := by decide +kernel
theorem dX10_lies_5 : decode cX10_lies 5 = .ok (.ifCond .eq 25, 3) := by decide +kernel
theorem dX10_lies_8 : decode cX10_lies 8 = .ok (.iload_n 2, 1) := by decide +kernel
theorem dX10_lies_9 : decode cX10_lies 9 = .ok (.invokestatic 96, 3) := by decide +kernel
theorem dX10_lies_12 : decode cX10_lies 12 = .ok (.ifCond .eq 18, 3) := by decide +kernel
theorem dX10_lies_15 : decode cX10_lies 15 = .ok (.iload_n 3, 1) := by decide +kernel
theorem dX10_lies_16 : decode cX10_lies 16 = .ok (.invokestatic 99, 3) := by decide +kernel
theorem dX10_lies_19 : decode cX10_lies 19 = .ok (.ifCond .eq 11, 3) := by decide +kernel
theorem dX10_lies_22 : decode cX10_lies 22 = .ok (.iload 4, 2) := by decide +kernel
theorem dX10_lies_24 : decode cX10_lies 24 = .ok (.invokestatic 102, 3) := by decide +kernel
theorem dX10_lies_27 : decode cX10_lies 27 = .ok (.ifCond .ne 7, 3) := by decide +kernel
theorem dX10_lies_30 : decode cX10_lies 30 = .ok (.ldc2_w 75, 3) := by decide +kernel
theorem dX10_lies_33 : decode cX10_lies 33 = .ok (.lreturn, 1) := by decide +kernel
theorem dX10_lies_34 : decode cX10_lies 34 = .ok (.iload_n 2, 1) := by decide +kernel
theorem dX10_lies_35 : decode cX10_lies 35 = .ok (.aload_n 0, 1) := by decide +kernel
theorem dX10_lies_36 : decode cX10_lies 36 = .ok (.getfield 25, 3) := by decide +kernel
theorem dX10_lies_39 : decode cX10_lies 39 = .ok (.iload_n 1, 1) := by decide +kernel
theorem dX10_lies_40 : decode cX10_lies 40 = .ok (.iaload, 1) := by decide +kernel
theorem dX10_lies_41 : decode cX10_lies 41 = .ok (.iload_n 3, 1) := by decide +kernel
theorem dX10_lies_42 : decode cX10_lies 42 = .ok (.aload_n 0, 1) := by decide +kernel
theorem dX10_lies_43 : decode cX10_lies 43 = .ok (.getfield 22, 3) := by decide +kernel
theorem dX10_lies_46 : decode cX10_lies 46 = .ok (.iload_n 1, 1) := by decide +kernel
theorem dX10_lies_47 : decode cX10_lies 47 = .ok (.iaload, 1) := by decide +kernel
theorem dX10_lies_48 : decode cX10_lies 48 = .ok (.invokestatic 105, 3) := by decide +kernel
theorem dX10_lies_51 : decode cX10_lies 51 = .ok (.i2l, 1) := by decide +kernel
theorem dX10_lies_52 : decode cX10_lies 52 = .ok (.aload_n 0, 1) := by decide +kernel
theorem dX10_lies_53 : decode cX10_lies 53 = .ok (.getfield 22, 3) := by decide +kernel
theorem dX10_lies_56 : decode cX10_lies 56 = .ok (.iload_n 1, 1) := by decide +kernel
theorem dX10_lies_57 : decode cX10_lies 57 = .ok (.iaload, 1) := by decide +kernel
theorem dX10_lies_58 : decode cX10_lies 58 = .ok (.i2l, 1) := by decide +kernel
theorem dX10_lies_59 : decode cX10_lies 59 = .ok (.iload 4, 2) := by decide +kernel
theorem dX10_lies_61 : decode cX10_lies 61 = .ok (.invokestatic 109, 3) := by decide +kernel
theorem dX10_lies_64 : decode cX10_lies 64 = .ok (.lreturn, 1) := by decide +kernel
theorem dX10_isNear_0 : decode cX10_isNear 0 = .ok (.iload_n 0, 1) := by decide +kernel
theorem dX10_isNear_1 : decode cX10_isNear 1 = .ok (.iload_n 1, 1) := by decide +kernel
theorem dX10_isNear_2 : decode cX10_isNear 2 = .ok (.iload_n 3, 1) := by decide +kernel
theorem dX10_isNear_3 : decode cX10_isNear 3 = .ok (.imul, 1) := by decide +kernel
theorem dX10_isNear_4 : decode cX10_isNear 4 = .ok (.if_icmp .le 11, 3) := by decide +kernel
theorem dX10_isNear_7 : decode cX10_isNear 7 = .ok (.iload_n 0, 1) := by decide +kernel
theorem dX10_isNear_8 : decode cX10_isNear 8 = .ok (.iload_n 1, 1) := by decide +kernel
theorem dX10_isNear_9 : decode cX10_isNear 9 = .ok (.iload_n 3, 1) := by decide +kernel
theorem dX10_isNear_10 : decode cX10_isNear 10 = .ok (.imul, 1) := by decide +kernel
theorem dX10_isNear_11 : decode cX10_isNear 11 = .ok (.isub, 1) := by decide +kernel
theorem dX10_isNear_12 : decode cX10_isNear 12 = .ok (.goto 8, 3) := by decide +kernel
theorem dX10_isNear_15 : decode cX10_isNear 15 = .ok (.iload_n 1, 1) := by decide +kernel
theorem dX10_isNear_16 : decode cX10_isNear 16 = .ok (.iload_n 3, 1) := by decide +kernel
theorem dX10_isNear_17 : decode cX10_isNear 17 = .ok (.imul, 1) := by decide +kernel
theorem dX10_isNear_18 : decode cX10_isNear 18 = .ok (.iload_n 0, 1) := by decide +kernel
theorem dX10_isNear_19 : decode cX10_isNear 19 = .ok (.isub, 1) := by decide +kernel
theorem dX10_isNear_20 : decode cX10_isNear 20 = .ok (.istore 4, 2) := by decide +kernel
theorem dX10_isNear_22 : decode cX10_isNear 22 = .ok (.bipush 24, 2) := by decide +kernel
theorem dX10_isNear_24 : decode cX10_isNear 24 = .ok (.iload_n 3, 1) := by decide +kernel
theorem dX10_isNear_25 : decode cX10_isNear 25 = .ok (.imul, 1) := by decide +kernel
theorem dX10_isNear_26 : decode cX10_isNear 26 = .ok (.iload 4, 2) := by decide +kernel
theorem dX10_isNear_28 : decode cX10_isNear 28 = .ok (.isub, 1) := by decide +kernel
theorem dX10_isNear_29 : decode cX10_isNear 29 = .ok (.istore 5, 2) := by decide +kernel
theorem dX10_isNear_31 : decode cX10_isNear 31 = .ok (.iload 4, 2) := by decide +kernel
theorem dX10_isNear_33 : decode cX10_isNear 33 = .ok (.iload 5, 2) := by decide +kernel
theorem dX10_isNear_35 : decode cX10_isNear 35 = .ok (.if_icmp .ge 8, 3) := by decide +kernel
theorem dX10_isNear_38 : decode cX10_isNear 38 = .ok (.iload 4, 2) := by decide +kernel
theorem dX10_isNear_40 : decode cX10_isNear 40 = .ok (.goto 5, 3) := by decide +kernel
theorem dX10_isNear_43 : decode cX10_isNear 43 = .ok (.iload 5, 2) := by decide +kernel
theorem dX10_isNear_45 : decode cX10_isNear 45 = .ok (.iload_n 2, 1) := by decide +kernel
theorem dX10_isNear_46 : decode cX10_isNear 46 = .ok (.iload_n 3, 1) := by decide +kernel
theorem dX10_isNear_47 : decode cX10_isNear 47 = .ok (.imul, 1) := by decide +kernel
theorem dX10_isNear_48 : decode cX10_isNear 48 = .ok (.if_icmp .gt 7, 3) := by decide +kernel
theorem dX10_isNear_51 : decode cX10_isNear 51 = .ok (.iconst 1, 1) := by decide +kernel
theorem dX10_isNear_52 : decode cX10_isNear 52 = .ok (.goto 4, 3) := by decide +kernel
theorem dX10_isNear_55 : decode cX10_isNear 55 = .ok (.iconst 0, 1) := by decide +kernel
theorem dX10_isNear_56 : decode cX10_isNear 56 = .ok (.ireturn, 1) := by decide +kernel
set_option maxRecDepth 20000 in
theorem ggX10_came_X10_isNear : GoodIn wsX10_came wsX10_isNear := goodIn_r _ [4] (by decide +kernel) (by decide +kernel)
set_option maxRecDepth 20000 in
theorem gX10_came_X10_isNear : GoodIn wsX10_came (va_wsS RX10 113 yX10_isNear wsX10_isNear) := goodIn_app (goodIn_of _ (by decide +kernel)) ggX10_came_X10_isNear
theorem dX10_came_0 : decode cX10_came 0 = .ok (.iload_n 0, 1) := by decide +kernel
theorem dX10_came_1 : decode cX10_came 1 = .ok (.iconst 0, 1) := by decide +kernel
theorem dX10_came_2 : decode cX10_came 2 = .ok (.iload_n 1, 1) := by decide +kernel
theorem dX10_came_3 : decode cX10_came 3 = .ok (.iload_n 2, 1) := by decide +kernel
theorem dX10_came_4 : decode cX10_came 4 = .ok (.invokestatic 113, 3) := by decide +kernel
theorem dX10_came_7 : decode cX10_came 7 = .ok (.ifCond .eq 5, 3) := by decide +kernel
theorem dX10_came_10 : decode cX10_came 10 = .ok (.iconst 0, 1) := by decide +kernel
theorem dX10_came_11 : decode cX10_came 11 = .ok (.ireturn, 1) := by decide +kernel
theorem dX10_came_12 : decode cX10_came 12 = .ok (.iload_n 0, 1) := by decide +kernel
theorem dX10_came_13 : decode cX10_came 13 = .ok (.bipush 12, 2) := by decide +kernel
theorem dX10_came_15 : decode cX10_came 15 = .ok (.iload_n 1, 1) := by decide +kernel
theorem dX10_came_16 : decode cX10_came 16 = .ok (.iload_n 2, 1) := by decide +kernel
theorem dX10_came_17 : decode cX10_came 17 = .ok (.invokestatic 113, 3) := by decide +kernel
theorem dX10_came_20 : decode cX10_came 20 = .ok (.ifCond .eq 5, 3) := by decide +kernel
theorem dX10_came_23 : decode cX10_came 23 = .ok (.iconst 1, 1) := by decide +kernel
theorem dX10_came_24 : decode cX10_came 24 = .ok (.ireturn, 1) := by decide +kernel
theorem dX10_came_25 : decode cX10_came 25 = .ok (.iload_n 0, 1) := by decide +kernel
theorem dX10_came_26 : decode cX10_came 26 = .ok (.bipush 6, 2) := by decide +kernel
theorem dX10_came_28 : decode cX10_came 28 = .ok (.iconst 2, 1) := by decide +kernel
theorem dX10_came_29 : decode cX10_came 29 = .ok (.iload_n 2, 1) := by decide +kernel
theorem dX10_came_30 : decode cX10_came 30 = .ok (.invokestatic 113, 3) := by decide +kernel
theorem dX10_came_33 : decode cX10_came 33 = .ok (.ifCond .ne 14, 3) := by decide +kernel
theorem dX10_came_36 : decode cX10_came 36 = .ok (.iload_n 0, 1) := by decide +kernel
theorem dX10_came_37 : decode cX10_came 37 = .ok (.bipush 18, 2) := by decide +kernel
theorem dX10_came_39 : decode cX10_came 39 = .ok (.iconst 2, 1) := by decide +kernel
theorem dX10_came_40 : decode cX10_came 40 = .ok (.iload_n 2, 1) := by decide +kernel
theorem dX10_came_41 : decode cX10_came 41 = .ok (.invokestatic 113, 3) := by decide +kernel
theorem dX10_came_44 : decode cX10_came 44 = .ok (.ifCond .eq 7, 3) := by decide +kernel
theorem dX10_came_47 : decode cX10_came 47 = .ok (.iconst 2, 1) := by decide +kernel
theorem dX10_came_48 : decode cX10_came 48 = .ok (.goto 4, 3) := by decide +kernel
theorem dX10_came_51 : decode cX10_came 51 = .ok (.iconst 3, 1) := by decide +kernel
theorem dX10_came_52 : decode cX10_came 52 = .ok (.ireturn, 1) := by decide +kernel
set_option maxRecDepth 20000 in
theorem ggX10_cameOf_X10_round : GoodIn wsX10_cameOf wsX10_round := goodIn_r _ [6] (by decide +kernel) (by decide +kernel)
set_option maxRecDepth 20000 in
theorem gX10_cameOf_X10_round : GoodIn wsX10_cameOf (va_wsS RX10 105 yX10_round wsX10_round) := goodIn_app (goodIn_of _ (by decide +kernel)) ggX10_cameOf_X10_round
set_option maxRecDepth 20000 in
theorem ggX10_cameOf_X10_width : GoodIn wsX10_cameOf wsX10_width := goodIn_r _ [10, 11, 12, 19, 20, 21, 22, 23, 24, 25, 26, 27, 28, 29, 30, 31, 32, 33, 34, 35, 36, 37, 38, 39, 40, 41, 42, 43, 44, 45, 46, 47, 48, 49, 50, 51] (by decide +kernel) (by decide +kernel)
set_option maxRecDepth 20000 in
theorem gX10_cameOf_X10_width : GoodIn wsX10_cameOf (wsV RX10 92 RX10 yX10_width wsX10_width) := goodIn_app (goodIn_of _ (by decide +kernel)) ggX10_cameOf_X10_width
set_option maxRecDepth 20000 in
theorem ggX10_cameOf_X10_came : GoodIn wsX10_cameOf wsX10_came := goodIn_r _ [15, 16, 17, 5, 18] (by decide +kernel) (by decide +kernel)
set_option maxRecDepth 20000 in
theorem gX10_cameOf_X10_came : GoodIn wsX10_cameOf (va_wsS RX10 117 yX10_came wsX10_came) := goodIn_app (goodIn_of _ (by decide +kernel)) ggX10_cameOf_X10_came
theorem dX10_cameOf_0 : decode cX10_cameOf 0 = .ok (.iload_n 2, 1) := by decide +kernel
theorem dX10_cameOf_1 : decode cX10_cameOf 1 = .ok (.aload_n 0, 1) := by decide +kernel
theorem dX10_cameOf_2 : decode cX10_cameOf 2 = .ok (.getfield 25, 3) := by decide +kernel
theorem dX10_cameOf_5 : decode cX10_cameOf 5 = .ok (.iload_n 1, 1) := by decide +kernel
theorem dX10_cameOf_6 : decode cX10_cameOf 6 = .ok (.iaload, 1) := by decide +kernel
theorem dX10_cameOf_7 : decode cX10_cameOf 7 = .ok (.iload_n 3, 1) := by decide +kernel
theorem dX10_cameOf_8 : decode cX10_cameOf 8 = .ok (.aload_n 0, 1) := by decide +kernel
theorem dX10_cameOf_9 : decode cX10_cameOf 9 = .ok (.getfield 22, 3) := by decide +kernel
theorem dX10_cameOf_12 : decode cX10_cameOf 12 = .ok (.iload_n 1, 1) := by decide +kernel
theorem dX10_cameOf_13 : decode cX10_cameOf 13 = .ok (.iaload, 1) := by decide +kernel
theorem dX10_cameOf_14 : decode cX10_cameOf 14 = .ok (.invokestatic 105, 3) := by decide +kernel
theorem dX10_cameOf_17 : decode cX10_cameOf 17 = .ok (.aload_n 0, 1) := by decide +kernel
theorem dX10_cameOf_18 : decode cX10_cameOf 18 = .ok (.iload_n 1, 1) := by decide +kernel
theorem dX10_cameOf_19 : decode cX10_cameOf 19 = .ok (.invokevirtual 92, 3) := by decide +kernel
theorem dX10_cameOf_22 : decode cX10_cameOf 22 = .ok (.aload_n 0, 1) := by decide +kernel
theorem dX10_cameOf_23 : decode cX10_cameOf 23 = .ok (.getfield 22, 3) := by decide +kernel
theorem dX10_cameOf_26 : decode cX10_cameOf 26 = .ok (.iload_n 1, 1) := by decide +kernel
theorem dX10_cameOf_27 : decode cX10_cameOf 27 = .ok (.iaload, 1) := by decide +kernel
theorem dX10_cameOf_28 : decode cX10_cameOf 28 = .ok (.invokestatic 117, 3) := by decide +kernel
theorem dX10_cameOf_31 : decode cX10_cameOf 31 = .ok (.ireturn, 1) := by decide +kernel
set_option maxRecDepth 20000 in
theorem ggX10_isStuck_X10_cameOf : GoodIn wsX10_isStuck wsX10_cameOf := goodIn_r _ [6, 7, 8, 9, 10, 5, 11, 12, 13, 14, 15, 1, 16, 17, 18, 19, 20, 21, 22, 23, 24, 25, 26, 27, 28, 29, 30, 31, 32, 33, 34, 35, 36, 37, 38, 39, 40, 41, 42, 43, 44, 45, 46, 47, 48, 49, 50, 51, 52, 53, 54, 55] (by decide +kernel) (by decide +kernel)
set_option maxRecDepth 20000 in
theorem gX10_isStuck_X10_cameOf : GoodIn wsX10_isStuck (wsV RX10 121 RX10 yX10_cameOf wsX10_cameOf) := goodIn_app (goodIn_of _ (by decide +kernel)) ggX10_isStuck_X10_cameOf
theorem dX10_isStuck_0 : decode cX10_isStuck 0 = .ok (.aload_n 0, 1) := by decide +kernel
theorem dX10_isStuck_1 : decode cX10_isStuck 1 = .ok (.iload_n 1, 1) := by decide +kernel
theorem dX10_isStuck_2 : decode cX10_isStuck 2 = .ok (.iload_n 2, 1) := by decide +kernel
theorem dX10_isStuck_3 : decode cX10_isStuck 3 = .ok (.iload_n 3, 1) := by decide +kernel
theorem dX10_isStuck_4 : decode cX10_isStuck 4 = .ok (.invokevirtual 121, 3) := by decide +kernel
theorem dX10_isStuck_7 : decode cX10_isStuck 7 = .ok (.istore 4, 2) := by decide +kernel
theorem dX10_isStuck_9 : decode cX10_isStuck 9 = .ok (.iload 4, 2) := by decide +kernel
theorem dX10_isStuck_11 : decode cX10_isStuck 11 = .ok (.ifCond .eq 19, 3) := by decide +kernel
theorem dX10_isStuck_14 : decode cX10_isStuck 14 = .ok (.iload 4, 2) := by decide +kernel
theorem dX10_isStuck_16 : decode cX10_isStuck 16 = .ok (.iconst 1, 1) := by decide +kernel
theorem dX10_isStuck_17 : decode cX10_isStuck 17 = .ok (.if_icmp .ne 17, 3) := by decide +kernel
theorem dX10_isStuck_20 : decode cX10_isStuck 20 = .ok (.aload_n 0, 1) := by decide +kernel
theorem dX10_isStuck_21 : decode cX10_isStuck 21 = .ok (.getfield 19, 3) := by decide +kernel
theorem dX10_isStuck_24 : decode cX10_isStuck 24 = .ok (.iload_n 1, 1) := by decide +kernel
theorem dX10_isStuck_25 : decode cX10_isStuck 25 = .ok (.iaload, 1) := by decide +kernel
theorem dX10_isStuck_26 : decode cX10_isStuck 26 = .ok (.iconst 2, 1) := by decide +kernel
theorem dX10_isStuck_27 : decode cX10_isStuck 27 = .ok (.if_icmp .ne 7, 3) := by decide +kernel
theorem dX10_isStuck_30 : decode cX10_isStuck 30 = .ok (.iconst 1, 1) := by decide +kernel
theorem dX10_isStuck_31 : decode cX10_isStuck 31 = .ok (.goto 4, 3) := by decide +kernel
theorem dX10_isStuck_34 : decode cX10_isStuck 34 = .ok (.iconst 0, 1) := by decide +kernel
theorem dX10_isStuck_35 : decode cX10_isStuck 35 = .ok (.ireturn, 1) := by decide +kernel
set_option maxRecDepth 20000 in
theorem ggX10_comes_X10_isKnife : GoodIn wsX10_comes wsX10_isKnife := goodIn_r _ [5, 6, 37, 38, 39, 40, 41, 42, 43, 44, 45, 46, 47, 48, 49, 50, 51, 52, 53, 54, 55, 56, 57, 58, 59, 60, 61, 62, 63, 64, 65, 66, 67, 68, 69] (by decide +kernel) (by decide +kernel)
set_option maxRecDepth 20000 in
theorem gX10_comes_X10_isKnife : GoodIn wsX10_comes (wsV RX10 88 RX10 yX10_isKnife wsX10_isKnife) := goodIn_app (goodIn_of _ (by decide +kernel)) ggX10_comes_X10_isKnife
set_option maxRecDepth 20000 in
theorem ggX10_comes_X10_isStart : GoodIn wsX10_comes wsX10_isStart := goodIn_r _ [9, 10, 11, 4, 12] (by decide +kernel) (by decide +kernel)
set_option maxRecDepth 20000 in
theorem gX10_comes_X10_isStart : GoodIn wsX10_comes (va_wsS RX10 96 yX10_isStart wsX10_isStart) := goodIn_app (goodIn_of _ (by decide +kernel)) ggX10_comes_X10_isStart
set_option maxRecDepth 20000 in
theorem ggX10_comes_X10_isFeet : GoodIn wsX10_comes wsX10_isFeet := goodIn_r _ [15, 10, 11, 4, 12] (by decide +kernel) (by decide +kernel)
set_option maxRecDepth 20000 in
theorem gX10_comes_X10_isFeet : GoodIn wsX10_comes (va_wsS RX10 99 yX10_isFeet wsX10_isFeet) := goodIn_app (goodIn_of _ (by decide +kernel)) ggX10_comes_X10_isFeet
set_option maxRecDepth 20000 in
theorem ggX10_comes_X10_cameOf : GoodIn wsX10_comes wsX10_cameOf := goodIn_r _ [19, 20, 21, 22, 23, 4, 24, 25, 26, 27, 28, 29, 30, 31, 32, 33, 34, 35, 36, 37, 38, 39, 40, 41, 42, 43, 44, 45, 46, 47, 48, 49, 50, 51, 52, 53, 54, 55, 56, 57, 58, 59, 60, 61, 62, 63, 64, 65, 66, 67, 68, 69] (by decide +kernel) (by decide +kernel)
set_option maxRecDepth 20000 in
theorem gX10_comes_X10_cameOf : GoodIn wsX10_comes (wsV RX10 121 RX10 yX10_cameOf wsX10_cameOf) := goodIn_app (goodIn_of _ (by decide +kernel)) ggX10_comes_X10_cameOf
theorem dX10_comes_0 : decode cX10_comes 0 = .ok (.aload_n 0, 1) := by decide +kernel
theorem dX10_comes_1 : decode cX10_comes 1 = .ok (.iload_n 1, 1) := by decide +kernel
theorem dX10_comes_2 : decode cX10_comes 2 = .ok (.invokevirtual 88, 3) := by decide +kernel
theorem dX10_comes_5 : decode cX10_comes 5 = .ok (.ifCond .ne 5, 3) := by decide +kernel
theorem dX10_comes_8 : decode cX10_comes 8 = .ok (.iconst (-1), 1) := by decide +kernel
theorem dX10_comes_9 : decode cX10_comes 9 = .ok (.ireturn, 1) := by decide +kernel
theorem dX10_comes_10 : decode cX10_comes 10 = .ok (.iload_n 2, 1) := by decide +kernel
theorem dX10_comes_11 : decode cX10_comes 11 = .ok (.invokestatic 96, 3) := by decide +kernel
theorem dX10_comes_14 : decode cX10_comes 14 = .ok (.ifCond .eq 20, 3) := by decide +kernel
theorem dX10_comes_17 : decode cX10_comes 17 = .ok (.iload_n 3, 1) := by decide +kernel
theorem dX10_comes_18 : decode cX10_comes 18 = .ok (.invokestatic 99, 3) := by decide +kernel
theorem dX10_comes_21 : decode cX10_comes 21 = .ok (.ifCond .eq 13, 3) := by decide +kernel
theorem dX10_comes_24 : decode cX10_comes 24 = .ok (.aload_n 0, 1) := by decide +kernel
theorem dX10_comes_25 : decode cX10_comes 25 = .ok (.iload_n 1, 1) := by decide +kernel
theorem dX10_comes_26 : decode cX10_comes 26 = .ok (.iload_n 2, 1) := by decide +kernel
theorem dX10_comes_27 : decode cX10_comes 27 = .ok (.iload_n 3, 1) := by decide +kernel
theorem dX10_comes_28 : decode cX10_comes 28 = .ok (.invokevirtual 121, 3) := by decide +kernel
theorem dX10_comes_31 : decode cX10_comes 31 = .ok (.goto 5, 3) := by decide +kernel
theorem dX10_comes_34 : decode cX10_comes 34 = .ok (.bipush (-2), 2) := by decide +kernel
theorem dX10_comes_36 : decode cX10_comes 36 = .ok (.ireturn, 1) := by decide +kernel
set_option maxRecDepth 20000 in
theorem ggX10_sticks_X10_isKnife : GoodIn wsX10_sticks wsX10_isKnife := goodIn_r _ [5, 6, 38, 39, 40, 41, 42, 43, 44, 45, 46, 47, 48, 49, 50, 51, 52, 53, 54, 55, 56, 57, 58, 59, 60, 61, 62, 63, 64, 65, 66, 67, 68, 69, 70] (by decide +kernel) (by decide +kernel)
set_option maxRecDepth 20000 in
theorem gX10_sticks_X10_isKnife : GoodIn wsX10_sticks (wsV RX10 88 RX10 yX10_isKnife wsX10_isKnife) := goodIn_app (goodIn_of _ (by decide +kernel)) ggX10_sticks_X10_isKnife
set_option maxRecDepth 20000 in
theorem ggX10_sticks_X10_isStart : GoodIn wsX10_sticks wsX10_isStart := goodIn_r _ [9, 10, 11, 4, 12] (by decide +kernel) (by decide +kernel)
set_option maxRecDepth 20000 in
theorem gX10_sticks_X10_isStart : GoodIn wsX10_sticks (va_wsS RX10 96 yX10_isStart wsX10_isStart) := goodIn_app (goodIn_of _ (by decide +kernel)) ggX10_sticks_X10_isStart
set_option maxRecDepth 20000 in
theorem ggX10_sticks_X10_isStuck : GoodIn wsX10_sticks wsX10_isStuck := goodIn_r _ [16, 17, 18, 19, 20, 4, 21, 22, 23, 24, 25, 26, 27, 28, 29, 30, 31, 32, 33, 34, 35, 36, 37, 38, 39, 40, 41, 42, 43, 44, 45, 46, 47, 48, 49, 50, 51, 52, 53, 54, 55, 56, 57, 58, 59, 60, 61, 62, 63, 64, 65, 66, 67, 68, 69, 70] (by decide +kernel) (by decide +kernel)
set_option maxRecDepth 20000 in
theorem gX10_sticks_X10_isStuck : GoodIn wsX10_sticks (wsV RX10 124 RX10 yX10_isStuck wsX10_isStuck) := goodIn_app (goodIn_of _ (by decide +kernel)) ggX10_sticks_X10_isStuck
theorem dX10_sticks_0 : decode cX10_sticks 0 = .ok (.aload_n 0, 1) := by decide +kernel
theorem dX10_sticks_1 : decode cX10_sticks 1 = .ok (.iload_n 1, 1) := by decide +kernel
theorem dX10_sticks_2 : decode cX10_sticks 2 = .ok (.invokevirtual 88, 3) := by decide +kernel
theorem dX10_sticks_5 : decode cX10_sticks 5 = .ok (.ifCond .ne 5, 3) := by decide +kernel
theorem dX10_sticks_8 : decode cX10_sticks 8 = .ok (.iconst (-1), 1) := by decide +kernel
theorem dX10_sticks_9 : decode cX10_sticks 9 = .ok (.ireturn, 1) := by decide +kernel
theorem dX10_sticks_10 : decode cX10_sticks 10 = .ok (.iload_n 2, 1) := by decide +kernel
theorem dX10_sticks_11 : decode cX10_sticks 11 = .ok (.invokestatic 96, 3) := by decide +kernel
theorem dX10_sticks_14 : decode cX10_sticks 14 = .ok (.ifCond .ne 6, 3) := by decide +kernel
theorem dX10_sticks_17 : decode cX10_sticks 17 = .ok (.bipush (-2), 2) := by decide +kernel
theorem dX10_sticks_19 : decode cX10_sticks 19 = .ok (.ireturn, 1) := by decide +kernel
theorem dX10_sticks_20 : decode cX10_sticks 20 = .ok (.iconst 0, 1) := by decide +kernel
theorem dX10_sticks_21 : decode cX10_sticks 21 = .ok (.istore_n 3, 1) := by decide +kernel
theorem dX10_sticks_22 : decode cX10_sticks 22 = .ok (.iconst 1, 1) := by decide +kernel
theorem dX10_sticks_23 : decode cX10_sticks 23 = .ok (.istore 4, 2) := by decide +kernel
theorem dX10_sticks_25 : decode cX10_sticks 25 = .ok (.iload 4, 2) := by decide +kernel
theorem dX10_sticks_27 : decode cX10_sticks 27 = .ok (.bipush 32, 2) := by decide +kernel
theorem dX10_sticks_29 : decode cX10_sticks 29 = .ok (.if_icmp .ge 33, 3) := by decide +kernel
theorem dX10_sticks_32 : decode cX10_sticks 32 = .ok (.iload_n 3, 1) := by decide +kernel
theorem dX10_sticks_33 : decode cX10_sticks 33 = .ok (.aload_n 0, 1) := by decide +kernel
theorem dX10_sticks_34 : decode cX10_sticks 34 = .ok (.iload_n 1, 1) := by decide +kernel
theorem dX10_sticks_35 : decode cX10_sticks 35 = .ok (.iload_n 2, 1) := by decide +kernel
theorem dX10_sticks_36 : decode cX10_sticks 36 = .ok (.iload 4, 2) := by decide +kernel
theorem dX10_sticks_38 : decode cX10_sticks 38 = .ok (.invokevirtual 124, 3) := by decide +kernel
theorem dX10_sticks_41 : decode cX10_sticks 41 = .ok (.ifCond .eq 12, 3) := by decide +kernel
theorem dX10_sticks_44 : decode cX10_sticks 44 = .ok (.iconst 1, 1) := by decide +kernel
theorem dX10_sticks_45 : decode cX10_sticks 45 = .ok (.iload 4, 2) := by decide +kernel
theorem dX10_sticks_47 : decode cX10_sticks 47 = .ok (.iconst 1, 1) := by decide +kernel
theorem dX10_sticks_48 : decode cX10_sticks 48 = .ok (.isub, 1) := by decide +kernel
theorem dX10_sticks_49 : decode cX10_sticks 49 = .ok (.ishl, 1) := by decide +kernel
theorem dX10_sticks_50 : decode cX10_sticks 50 = .ok (.goto 4, 3) := by decide +kernel
theorem dX10_sticks_53 : decode cX10_sticks 53 = .ok (.iconst 0, 1) := by decide +kernel
theorem dX10_sticks_54 : decode cX10_sticks 54 = .ok (.ior, 1) := by decide +kernel
theorem dX10_sticks_55 : decode cX10_sticks 55 = .ok (.istore_n 3, 1) := by decide +kernel
theorem dX10_sticks_56 : decode cX10_sticks 56 = .ok (.iinc 4 1, 3) := by decide +kernel
theorem dX10_sticks_59 : decode cX10_sticks 59 = .ok (.goto (-34), 3) := by decide +kernel
theorem dX10_sticks_62 : decode cX10_sticks 62 = .ok (.iload_n 3, 1) := by decide +kernel
theorem dX10_sticks_63 : decode cX10_sticks 63 = .ok (.ireturn, 1) := by decide +kernel
set_option maxRecDepth 20000 in
theorem ggX10_digitAt_X10_within : GoodIn wsX10_digitAt wsX10_within := goodIn_r _ [5] (by decide +kernel) (by decide +kernel)
set_option maxRecDepth 20000 in
theorem gX10_digitAt_X10_within : GoodIn wsX10_digitAt (va_wsS RX10 81 yX10_within wsX10_within) := goodIn_app (goodIn_of _ (by decide +kernel)) ggX10_digitAt_X10_within
theorem dX10_digitAt_0 : decode cX10_digitAt 0 = .ok (.iload_n 1, 1) := by decide +kernel
theorem dX10_digitAt_1 : decode cX10_digitAt 1 = .ok (.iload_n 2, 1) := by decide +kernel
theorem dX10_digitAt_2 : decode cX10_digitAt 2 = .ok (.if_icmp .ge 31, 3) := by decide +kernel
theorem dX10_digitAt_5 : decode cX10_digitAt 5 = .ok (.aload_n 0, 1) := by decide +kernel
theorem dX10_digitAt_6 : decode cX10_digitAt 6 = .ok (.getfield 16, 3) := by decide +kernel
theorem dX10_digitAt_9 : decode cX10_digitAt 9 = .ok (.iload_n 1, 1) := by decide +kernel
theorem dX10_digitAt_10 : decode cX10_digitAt 10 = .ok (.iaload, 1) := by decide +kernel
theorem dX10_digitAt_11 : decode cX10_digitAt 11 = .ok (.bipush 48, 2) := by decide +kernel
theorem dX10_digitAt_13 : decode cX10_digitAt 13 = .ok (.bipush 57, 2) := by decide +kernel
theorem dX10_digitAt_15 : decode cX10_digitAt 15 = .ok (.invokestatic 81, 3) := by decide +kernel
theorem dX10_digitAt_18 : decode cX10_digitAt 18 = .ok (.ifCond .eq 15, 3) := by decide +kernel
theorem dX10_digitAt_21 : decode cX10_digitAt 21 = .ok (.aload_n 0, 1) := by decide +kernel
theorem dX10_digitAt_22 : decode cX10_digitAt 22 = .ok (.getfield 16, 3) := by decide +kernel
theorem dX10_digitAt_25 : decode cX10_digitAt 25 = .ok (.iload_n 1, 1) := by decide +kernel
theorem dX10_digitAt_26 : decode cX10_digitAt 26 = .ok (.iaload, 1) := by decide +kernel
theorem dX10_digitAt_27 : decode cX10_digitAt 27 = .ok (.bipush 48, 2) := by decide +kernel
theorem dX10_digitAt_29 : decode cX10_digitAt 29 = .ok (.isub, 1) := by decide +kernel
theorem dX10_digitAt_30 : decode cX10_digitAt 30 = .ok (.goto 5, 3) := by decide +kernel
theorem dX10_digitAt_33 : decode cX10_digitAt 33 = .ok (.bipush (-9), 2) := by decide +kernel
theorem dX10_digitAt_35 : decode cX10_digitAt 35 = .ok (.ireturn, 1) := by decide +kernel
theorem dX10_isCode_0 : decode cX10_isCode 0 = .ok (.aload_n 0, 1) := by decide +kernel
theorem dX10_isCode_1 : decode cX10_isCode 1 = .ok (.getfield 127, 3) := by decide +kernel
theorem dX10_isCode_4 : decode cX10_isCode 4 = .ok (.iload_n 2, 1) := by decide +kernel
theorem dX10_isCode_5 : decode cX10_isCode 5 = .ok (.if_icmp .ge 20, 3) := by decide +kernel
theorem dX10_isCode_8 : decode cX10_isCode 8 = .ok (.aload_n 0, 1) := by decide +kernel
theorem dX10_isCode_9 : decode cX10_isCode 9 = .ok (.getfield 16, 3) := by decide +kernel
theorem dX10_isCode_12 : decode cX10_isCode 12 = .ok (.aload_n 0, 1) := by decide +kernel
theorem dX10_isCode_13 : decode cX10_isCode 13 = .ok (.getfield 127, 3) := by decide +kernel
theorem dX10_isCode_16 : decode cX10_isCode 16 = .ok (.iaload, 1) := by decide +kernel
theorem dX10_isCode_17 : decode cX10_isCode 17 = .ok (.iload_n 1, 1) := by decide +kernel
theorem dX10_isCode_18 : decode cX10_isCode 18 = .ok (.if_icmp .ne 7, 3) := by decide +kernel
theorem dX10_isCode_21 : decode cX10_isCode 21 = .ok (.iconst 1, 1) := by decide +kernel
theorem dX10_isCode_22 : decode cX10_isCode 22 = .ok (.goto 4, 3) := by decide +kernel
theorem dX10_isCode_25 : decode cX10_isCode 25 = .ok (.iconst 0, 1) := by decide +kernel
theorem dX10_isCode_26 : decode cX10_isCode 26 = .ok (.ireturn, 1) := by decide +kernel
set_option maxRecDepth 20000 in
theorem ggX10_hand_X10_isSheet : GoodIn wsX10_hand wsX10_isSheet := goodIn_r _ [11, 12, 13, 10, 14] (by decide +kernel) (by decide +kernel)
set_option maxRecDepth 20000 in
theorem gX10_hand_X10_isSheet : GoodIn wsX10_hand (va_wsS RX10 130 yX10_isSheet wsX10_isSheet) := goodIn_app (goodIn_of _ (by decide +kernel)) ggX10_hand_X10_isSheet
set_option maxRecDepth 20000 in
theorem ggX10_hand_X10_isSort : GoodIn wsX10_hand wsX10_isSort := goodIn_r _ [17, 12, 13, 10, 14] (by decide +kernel) (by decide +kernel)
set_option maxRecDepth 20000 in
theorem gX10_hand_X10_isSort : GoodIn wsX10_hand (va_wsS RX10 133 yX10_isSort wsX10_isSort) := goodIn_app (goodIn_of _ (by decide +kernel)) ggX10_hand_X10_isSort
set_option maxRecDepth 20000 in
theorem ggX10_hand_X10_against : GoodIn wsX10_hand wsX10_against := goodIn_r _ [21, 22, 23, 45, 46, 47, 48, 49, 50, 51, 52, 53, 54, 55, 56, 57, 58, 59, 60, 61, 62, 63, 64, 65, 66, 67, 68, 69, 70, 71, 72, 73, 74, 75, 76, 77] (by decide +kernel) (by decide +kernel)
set_option maxRecDepth 20000 in
theorem gX10_hand_X10_against : GoodIn wsX10_hand (wsV RX10 136 RX10 yX10_against wsX10_against) := goodIn_app (goodIn_of _ (by decide +kernel)) ggX10_hand_X10_against
set_option maxRecDepth 20000 in
theorem ggX10_hand_X10_fails : GoodIn wsX10_hand wsX10_fails := goodIn_r _ [27, 1, 45, 46, 47, 48, 49, 50, 51, 52, 53, 54, 55, 56, 57, 58, 59, 60, 61, 62, 63, 64, 65, 66, 67, 68, 69, 70, 71, 72, 73, 74, 75, 76, 77] (by decide +kernel) (by decide +kernel)
set_option maxRecDepth 20000 in
theorem gX10_hand_X10_fails : GoodIn wsX10_hand (wsV RX10 140 RX10 yX10_fails wsX10_fails) := goodIn_app (goodIn_of _ (by decide +kernel)) ggX10_hand_X10_fails
set_option maxRecDepth 20000 in
theorem ggX10_hand_X10_readHand : GoodIn wsX10_hand wsX10_readHand := goodIn_r _ [31, 2, 4, 32, 33, 34, 10, 35, 36, 37, 38, 39, 40, 7, 41, 42, 43, 44, 12, 13, 14, 45, 46, 47, 48, 49, 50, 51, 52, 53, 54, 55, 56, 57, 58, 59, 60, 61, 62, 63, 64, 65, 66, 67, 68, 69, 70, 71, 72, 73, 74, 75, 76, 77] (by decide +kernel) (by decide +kernel)
set_option maxRecDepth 20000 in
theorem gX10_hand_X10_readHand : GoodIn wsX10_hand (wsV RX10 143 RX10 yX10_readHand wsX10_readHand) := goodIn_app (goodIn_of _ (by decide +kernel)) ggX10_hand_X10_readHand
theorem dX10_hand_0 : decode cX10_hand 0 = .ok (.aload_n 0, 1) := by decide +kernel
theorem dX10_hand_1 : decode cX10_hand 1 = .ok (.iconst 0, 1) := by decide +kernel
theorem dX10_hand_2 : decode cX10_hand 2 = .ok (.putfield 71, 3) := by decide +kernel
theorem dX10_hand_5 : decode cX10_hand 5 = .ok (.iload_n 1, 1) := by decide +kernel
theorem dX10_hand_6 : decode cX10_hand 6 = .ok (.invokestatic 130, 3) := by decide +kernel
theorem dX10_hand_9 : decode cX10_hand 9 = .ok (.ifCond .ne 5, 3) := by decide +kernel
theorem dX10_hand_12 : decode cX10_hand 12 = .ok (.iconst (-1), 1) := by decide +kernel
theorem dX10_hand_13 : decode cX10_hand 13 = .ok (.ireturn, 1) := by decide +kernel
theorem dX10_hand_14 : decode cX10_hand 14 = .ok (.iload_n 2, 1) := by decide +kernel
theorem dX10_hand_15 : decode cX10_hand 15 = .ok (.invokestatic 133, 3) := by decide +kernel
theorem dX10_hand_18 : decode cX10_hand 18 = .ok (.ifCond .ne 6, 3) := by decide +kernel
theorem dX10_hand_21 : decode cX10_hand 21 = .ok (.bipush (-2), 2) := by decide +kernel
theorem dX10_hand_23 : decode cX10_hand 23 = .ok (.ireturn, 1) := by decide +kernel
theorem dX10_hand_24 : decode cX10_hand 24 = .ok (.aload_n 0, 1) := by decide +kernel
theorem dX10_hand_25 : decode cX10_hand 25 = .ok (.iload_n 1, 1) := by decide +kernel
theorem dX10_hand_26 : decode cX10_hand 26 = .ok (.iload_n 2, 1) := by decide +kernel
theorem dX10_hand_27 : decode cX10_hand 27 = .ok (.iload_n 3, 1) := by decide +kernel
theorem dX10_hand_28 : decode cX10_hand 28 = .ok (.iload 4, 2) := by decide +kernel
theorem dX10_hand_30 : decode cX10_hand 30 = .ok (.iconst 1, 1) := by decide +kernel
theorem dX10_hand_31 : decode cX10_hand 31 = .ok (.invokevirtual 136, 3) := by decide +kernel
theorem dX10_hand_34 : decode cX10_hand 34 = .ok (.istore 5, 2) := by decide +kernel
theorem dX10_hand_36 : decode cX10_hand 36 = .ok (.iload 5, 2) := by decide +kernel
theorem dX10_hand_38 : decode cX10_hand 38 = .ok (.ifCond .eq 10, 3) := by decide +kernel
theorem dX10_hand_41 : decode cX10_hand 41 = .ok (.aload_n 0, 1) := by decide +kernel
theorem dX10_hand_42 : decode cX10_hand 42 = .ok (.iload 5, 2) := by decide +kernel
theorem dX10_hand_44 : decode cX10_hand 44 = .ok (.invokevirtual 140, 3) := by decide +kernel
theorem dX10_hand_47 : decode cX10_hand 47 = .ok (.ireturn, 1) := by decide +kernel
theorem dX10_hand_48 : decode cX10_hand 48 = .ok (.bipush 80, 2) := by decide +kernel
theorem dX10_hand_50 : decode cX10_hand 50 = .ok (.iload_n 1, 1) := by decide +kernel
theorem dX10_hand_51 : decode cX10_hand 51 = .ok (.imul, 1) := by decide +kernel
theorem dX10_hand_52 : decode cX10_hand 52 = .ok (.iload_n 3, 1) := by decide +kernel
theorem dX10_hand_53 : decode cX10_hand 53 = .ok (.iadd, 1) := by decide +kernel
theorem dX10_hand_54 : decode cX10_hand 54 = .ok (.istore 6, 2) := by decide +kernel
theorem dX10_hand_56 : decode cX10_hand 56 = .ok (.aload_n 0, 1) := by decide +kernel
theorem dX10_hand_57 : decode cX10_hand 57 = .ok (.iload 6, 2) := by decide +kernel
theorem dX10_hand_59 : decode cX10_hand 59 = .ok (.putfield 127, 3) := by decide +kernel
theorem dX10_hand_62 : decode cX10_hand 62 = .ok (.aload_n 0, 1) := by decide +kernel
theorem dX10_hand_63 : decode cX10_hand 63 = .ok (.iload 6, 2) := by decide +kernel
theorem dX10_hand_65 : decode cX10_hand 65 = .ok (.iload 4, 2) := by decide +kernel
theorem dX10_hand_67 : decode cX10_hand 67 = .ok (.iadd, 1) := by decide +kernel
theorem dX10_hand_68 : decode cX10_hand 68 = .ok (.invokevirtual 143, 3) := by decide +kernel
theorem dX10_hand_71 : decode cX10_hand 71 = .ok (.ifCond .ne 14, 3) := by decide +kernel
theorem dX10_hand_74 : decode cX10_hand 74 = .ok (.bipush (-100), 2) := by decide +kernel
theorem dX10_hand_76 : decode cX10_hand 76 = .ok (.aload_n 0, 1) := by decide +kernel
theorem dX10_hand_77 : decode cX10_hand 77 = .ok (.getfield 127, 3) := by decide +kernel
theorem dX10_hand_80 : decode cX10_hand 80 = .ok (.iload 6, 2) := by decide +kernel
theorem dX10_hand_82 : decode cX10_hand 82 = .ok (.isub, 1) := by decide +kernel
theorem dX10_hand_83 : decode cX10_hand 83 = .ok (.isub, 1) := by decide +kernel
theorem dX10_hand_84 : decode cX10_hand 84 = .ok (.ireturn, 1) := by decide +kernel
theorem dX10_hand_85 : decode cX10_hand 85 = .ok (.aload_n 0, 1) := by decide +kernel
theorem dX10_hand_86 : decode cX10_hand 86 = .ok (.iconst 1, 1) := by decide +kernel
theorem dX10_hand_87 : decode cX10_hand 87 = .ok (.putfield 146, 3) := by decide +kernel
theorem dX10_hand_90 : decode cX10_hand 90 = .ok (.aload_n 0, 1) := by decide +kernel
theorem dX10_hand_91 : decode cX10_hand 91 = .ok (.aload_n 0, 1) := by decide +kernel
theorem dX10_hand_92 : decode cX10_hand 92 = .ok (.getfield 150, 3) := by decide +kernel
theorem dX10_hand_95 : decode cX10_hand 95 = .ok (.putfield 153, 3) := by decide +kernel
theorem dX10_hand_98 : decode cX10_hand 98 = .ok (.iconst 0, 1) := by decide +kernel
theorem dX10_hand_99 : decode cX10_hand 99 = .ok (.istore 7, 2) := by decide +kernel
theorem dX10_hand_101 : decode cX10_hand 101 = .ok (.iload 7, 2) := by decide +kernel
theorem dX10_hand_103 : decode cX10_hand 103 = .ok (.bipush 15, 2) := by decide +kernel
theorem dX10_hand_105 : decode cX10_hand 105 = .ok (.if_icmp .ge 23, 3) := by decide +kernel
theorem dX10_hand_108 : decode cX10_hand 108 = .ok (.aload_n 0, 1) := by decide +kernel
theorem dX10_hand_109 : decode cX10_hand 109 = .ok (.getfield 31, 3) := by decide +kernel
theorem dX10_hand_112 : decode cX10_hand 112 = .ok (.iload 7, 2) := by decide +kernel
theorem dX10_hand_114 : decode cX10_hand 114 = .ok (.aload_n 0, 1) := by decide +kernel
theorem dX10_hand_115 : decode cX10_hand 115 = .ok (.getfield 34, 3) := by decide +kernel
theorem dX10_hand_118 : decode cX10_hand 118 = .ok (.iload 7, 2) := by decide +kernel
theorem dX10_hand_120 : decode cX10_hand 120 = .ok (.iaload, 1) := by decide +kernel
theorem dX10_hand_121 : decode cX10_hand 121 = .ok (.iastore, 1) := by decide +kernel
theorem dX10_hand_122 : decode cX10_hand 122 = .ok (.iinc 7 1, 3) := by decide +kernel
theorem dX10_hand_125 : decode cX10_hand 125 = .ok (.goto (-24), 3) := by decide +kernel
theorem dX10_hand_128 : decode cX10_hand 128 = .ok (.iconst 1, 1) := by decide +kernel
theorem dX10_hand_129 : decode cX10_hand 129 = .ok (.ireturn, 1) := by decide +kernel
set_option maxRecDepth 20000 in
theorem ggX10_readHand_X10_isCode : GoodIn wsX10_readHand wsX10_isCode := goodIn_r _ [7, 1, 8, 21, 22, 23, 24, 25, 26, 27, 28, 29, 30, 31, 32, 33, 34, 35, 36, 37, 38, 39, 40, 41, 42, 43, 44, 45, 46, 47, 48, 49, 50, 51, 52, 53] (by decide +kernel) (by decide +kernel)
set_option maxRecDepth 20000 in
theorem gX10_readHand_X10_isCode : GoodIn wsX10_readHand (wsV RX10 156 RX10 yX10_isCode wsX10_isCode) := goodIn_app (goodIn_of _ (by decide +kernel)) ggX10_readHand_X10_isCode
set_option maxRecDepth 20000 in
theorem ggX10_readHand_X10_readRow : GoodIn wsX10_readHand wsX10_readRow := goodIn_r _ [12, 1, 13, 14, 15, 16, 6, 17, 8, 18, 19, 20, 21, 22, 23, 24, 25, 26, 27, 28, 29, 30, 31, 32, 33, 34, 35, 36, 37, 38, 39, 40, 41, 42, 43, 44, 45, 46, 47, 48, 49, 50, 51, 52, 53] (by decide +kernel) (by decide +kernel)
set_option maxRecDepth 20000 in
theorem gX10_readHand_X10_readRow : GoodIn wsX10_readHand (wsV RX10 160 RX10 yX10_readRow wsX10_readRow) := goodIn_app (goodIn_of _ (by decide +kernel)) ggX10_readHand_X10_readRow
set_option maxRecDepth 20000 in
theorem ggX10_readHand_X10_digitAt : GoodIn wsX10_readHand wsX10_digitAt := goodIn_r _ [17, 8, 18, 19, 6, 20, 21, 22, 23, 24, 25, 26, 27, 28, 29, 30, 31, 32, 33, 34, 35, 36, 37, 38, 39, 40, 41, 42, 43, 44, 45, 46, 47, 48, 49, 50, 51, 52, 53] (by decide +kernel) (by decide +kernel)
set_option maxRecDepth 20000 in
theorem gX10_readHand_X10_digitAt : GoodIn wsX10_readHand (wsV RX10 163 RX10 yX10_digitAt wsX10_digitAt) := goodIn_app (goodIn_of _ (by decide +kernel)) ggX10_readHand_X10_digitAt
theorem dX10_readHand_0 : decode cX10_readHand 0 = .ok (.iconst 0, 1) := by decide +kernel
theorem dX10_readHand_1 : decode cX10_readHand 1 = .ok (.istore_n 2, 1) := by decide +kernel
theorem dX10_readHand_2 : decode cX10_readHand 2 = .ok (.iload_n 2, 1) := by decide +kernel
theorem dX10_readHand_3 : decode cX10_readHand 3 = .ok (.iconst 3, 1) := by decide +kernel
theorem dX10_readHand_4 : decode cX10_readHand 4 = .ok (.if_icmp .ge 87, 3) := by decide +kernel
theorem dX10_readHand_7 : decode cX10_readHand 7 = .ok (.iload_n 2, 1) := by decide +kernel
theorem dX10_readHand_8 : decode cX10_readHand 8 = .ok (.ifCond .le 25, 3) := by decide +kernel
theorem dX10_readHand_11 : decode cX10_readHand 11 = .ok (.aload_n 0, 1) := by decide +kernel
theorem dX10_readHand_12 : decode cX10_readHand 12 = .ok (.bipush 59, 2) := by decide +kernel
theorem dX10_readHand_14 : decode cX10_readHand 14 = .ok (.iload_n 1, 1) := by decide +kernel
theorem dX10_readHand_15 : decode cX10_readHand 15 = .ok (.invokevirtual 156, 3) := by decide +kernel
theorem dX10_readHand_18 : decode cX10_readHand 18 = .ok (.ifCond .ne 5, 3) := by decide +kernel
theorem dX10_readHand_21 : decode cX10_readHand 21 = .ok (.iconst 0, 1) := by decide +kernel
theorem dX10_readHand_22 : decode cX10_readHand 22 = .ok (.ireturn, 1) := by decide +kernel
theorem dX10_readHand_23 : decode cX10_readHand 23 = .ok (.aload_n 0, 1) := by decide +kernel
theorem dX10_readHand_24 : decode cX10_readHand 24 = .ok (.dup, 1) := by decide +kernel
theorem dX10_readHand_25 : decode cX10_readHand 25 = .ok (.getfield 127, 3) := by decide +kernel
theorem dX10_readHand_28 : decode cX10_readHand 28 = .ok (.iconst 1, 1) := by decide +kernel
theorem dX10_readHand_29 : decode cX10_readHand 29 = .ok (.iadd, 1) := by decide +kernel
theorem dX10_readHand_30 : decode cX10_readHand 30 = .ok (.putfield 127, 3) := by decide +kernel
theorem dX10_readHand_33 : decode cX10_readHand 33 = .ok (.aload_n 0, 1) := by decide +kernel
theorem dX10_readHand_34 : decode cX10_readHand 34 = .ok (.iload_n 2, 1) := by decide +kernel
theorem dX10_readHand_35 : decode cX10_readHand 35 = .ok (.ifCond .ne 8, 3) := by decide +kernel
theorem dX10_readHand_38 : decode cX10_readHand 38 = .ok (.bipush 104, 2) := by decide +kernel
theorem dX10_readHand_40 : decode cX10_readHand 40 = .ok (.goto 15, 3) := by decide +kernel
theorem dX10_readHand_43 : decode cX10_readHand 43 = .ok (.iload_n 2, 1) := by decide +kernel
theorem dX10_readHand_44 : decode cX10_readHand 44 = .ok (.iconst 1, 1) := by decide +kernel
theorem dX10_readHand_45 : decode cX10_readHand 45 = .ok (.if_icmp .ne 8, 3) := by decide +kernel
theorem dX10_readHand_48 : decode cX10_readHand 48 = .ok (.bipush 117, 2) := by decide +kernel
theorem dX10_readHand_50 : decode cX10_readHand 50 = .ok (.goto 5, 3) := by decide +kernel
theorem dX10_readHand_53 : decode cX10_readHand 53 = .ok (.bipush 97, 2) := by decide +kernel
theorem dX10_readHand_55 : decode cX10_readHand 55 = .ok (.iload_n 1, 1) := by decide +kernel
theorem dX10_readHand_56 : decode cX10_readHand 56 = .ok (.invokevirtual 156, 3) := by decide +kernel
theorem dX10_readHand_59 : decode cX10_readHand 59 = .ok (.ifCond .ne 5, 3) := by decide +kernel
theorem dX10_readHand_62 : decode cX10_readHand 62 = .ok (.iconst 0, 1) := by decide +kernel
theorem dX10_readHand_63 : decode cX10_readHand 63 = .ok (.ireturn, 1) := by decide +kernel
theorem dX10_readHand_64 : decode cX10_readHand 64 = .ok (.aload_n 0, 1) := by decide +kernel
theorem dX10_readHand_65 : decode cX10_readHand 65 = .ok (.dup, 1) := by decide +kernel
theorem dX10_readHand_66 : decode cX10_readHand 66 = .ok (.getfield 127, 3) := by decide +kernel
theorem dX10_readHand_69 : decode cX10_readHand 69 = .ok (.iconst 1, 1) := by decide +kernel
theorem dX10_readHand_70 : decode cX10_readHand 70 = .ok (.iadd, 1) := by decide +kernel
theorem dX10_readHand_71 : decode cX10_readHand 71 = .ok (.putfield 127, 3) := by decide +kernel
theorem dX10_readHand_74 : decode cX10_readHand 74 = .ok (.aload_n 0, 1) := by decide +kernel
theorem dX10_readHand_75 : decode cX10_readHand 75 = .ok (.iload_n 2, 1) := by decide +kernel
theorem dX10_readHand_76 : decode cX10_readHand 76 = .ok (.iload_n 1, 1) := by decide +kernel
theorem dX10_readHand_77 : decode cX10_readHand 77 = .ok (.invokevirtual 160, 3) := by decide +kernel
theorem dX10_readHand_80 : decode cX10_readHand 80 = .ok (.ifCond .ne 5, 3) := by decide +kernel
theorem dX10_readHand_83 : decode cX10_readHand 83 = .ok (.iconst 0, 1) := by decide +kernel
theorem dX10_readHand_84 : decode cX10_readHand 84 = .ok (.ireturn, 1) := by decide +kernel
theorem dX10_readHand_85 : decode cX10_readHand 85 = .ok (.iinc 2 1, 3) := by decide +kernel
theorem dX10_readHand_88 : decode cX10_readHand 88 = .ok (.goto (-86), 3) := by decide +kernel
theorem dX10_readHand_91 : decode cX10_readHand 91 = .ok (.aload_n 0, 1) := by decide +kernel
theorem dX10_readHand_92 : decode cX10_readHand 92 = .ok (.iconst 0, 1) := by decide +kernel
theorem dX10_readHand_93 : decode cX10_readHand 93 = .ok (.putfield 150, 3) := by decide +kernel
theorem dX10_readHand_96 : decode cX10_readHand 96 = .ok (.aload_n 0, 1) := by decide +kernel
theorem dX10_readHand_97 : decode cX10_readHand 97 = .ok (.getfield 127, 3) := by decide +kernel
theorem dX10_readHand_100 : decode cX10_readHand 100 = .ok (.iload_n 1, 1) := by decide +kernel
theorem dX10_readHand_101 : decode cX10_readHand 101 = .ok (.if_icmp .ne 5, 3) := by decide +kernel
theorem dX10_readHand_104 : decode cX10_readHand 104 = .ok (.iconst 1, 1) := by decide +kernel
theorem dX10_readHand_105 : decode cX10_readHand 105 = .ok (.ireturn, 1) := by decide +kernel
theorem dX10_readHand_106 : decode cX10_readHand 106 = .ok (.aload_n 0, 1) := by decide +kernel
theorem dX10_readHand_107 : decode cX10_readHand 107 = .ok (.bipush 59, 2) := by decide +kernel
theorem dX10_readHand_109 : decode cX10_readHand 109 = .ok (.iload_n 1, 1) := by decide +kernel
theorem dX10_readHand_110 : decode cX10_readHand 110 = .ok (.invokevirtual 156, 3) := by decide +kernel
theorem dX10_readHand_113 : decode cX10_readHand 113 = .ok (.ifCond .ne 5, 3) := by decide +kernel
theorem dX10_readHand_116 : decode cX10_readHand 116 = .ok (.iconst 0, 1) := by decide +kernel
theorem dX10_readHand_117 : decode cX10_readHand 117 = .ok (.ireturn, 1) := by decide +kernel
theorem dX10_readHand_118 : decode cX10_readHand 118 = .ok (.aload_n 0, 1) := by decide +kernel
theorem dX10_readHand_119 : decode cX10_readHand 119 = .ok (.dup, 1) := by decide +kernel
theorem dX10_readHand_120 : decode cX10_readHand 120 = .ok (.getfield 127, 3) := by decide +kernel
theorem dX10_readHand_123 : decode cX10_readHand 123 = .ok (.iconst 1, 1) := by decide +kernel
theorem dX10_readHand_124 : decode cX10_readHand 124 = .ok (.iadd, 1) := by decide +kernel
theorem dX10_readHand_125 : decode cX10_readHand 125 = .ok (.putfield 127, 3) := by decide +kernel
theorem dX10_readHand_128 : decode cX10_readHand 128 = .ok (.aload_n 0, 1) := by decide +kernel
theorem dX10_readHand_129 : decode cX10_readHand 129 = .ok (.bipush 116, 2) := by decide +kernel
theorem dX10_readHand_131 : decode cX10_readHand 131 = .ok (.iload_n 1, 1) := by decide +kernel
theorem dX10_readHand_132 : decode cX10_readHand 132 = .ok (.invokevirtual 156, 3) := by decide +kernel
theorem dX10_readHand_135 : decode cX10_readHand 135 = .ok (.ifCond .ne 5, 3) := by decide +kernel
theorem dX10_readHand_138 : decode cX10_readHand 138 = .ok (.iconst 0, 1) := by decide +kernel
theorem dX10_readHand_139 : decode cX10_readHand 139 = .ok (.ireturn, 1) := by decide +kernel
theorem dX10_readHand_140 : decode cX10_readHand 140 = .ok (.aload_n 0, 1) := by decide +kernel
theorem dX10_readHand_141 : decode cX10_readHand 141 = .ok (.dup, 1) := by decide +kernel
theorem dX10_readHand_142 : decode cX10_readHand 142 = .ok (.getfield 127, 3) := by decide +kernel
theorem dX10_readHand_145 : decode cX10_readHand 145 = .ok (.iconst 1, 1) := by decide +kernel
theorem dX10_readHand_146 : decode cX10_readHand 146 = .ok (.iadd, 1) := by decide +kernel
theorem dX10_readHand_147 : decode cX10_readHand 147 = .ok (.putfield 127, 3) := by decide +kernel
theorem dX10_readHand_150 : decode cX10_readHand 150 = .ok (.aload_n 0, 1) := by decide +kernel
theorem dX10_readHand_151 : decode cX10_readHand 151 = .ok (.aload_n 0, 1) := by decide +kernel
theorem dX10_readHand_152 : decode cX10_readHand 152 = .ok (.aload_n 0, 1) := by decide +kernel
theorem dX10_readHand_153 : decode cX10_readHand 153 = .ok (.getfield 127, 3) := by decide +kernel
theorem dX10_readHand_156 : decode cX10_readHand 156 = .ok (.iload_n 1, 1) := by decide +kernel
theorem dX10_readHand_157 : decode cX10_readHand 157 = .ok (.invokevirtual 163, 3) := by decide +kernel
theorem dX10_readHand_160 : decode cX10_readHand 160 = .ok (.putfield 150, 3) := by decide +kernel
theorem dX10_readHand_163 : decode cX10_readHand 163 = .ok (.aload_n 0, 1) := by decide +kernel
theorem dX10_readHand_164 : decode cX10_readHand 164 = .ok (.getfield 150, 3) := by decide +kernel
theorem dX10_readHand_167 : decode cX10_readHand 167 = .ok (.iconst 1, 1) := by decide +kernel
theorem dX10_readHand_168 : decode cX10_readHand 168 = .ok (.if_icmp .ge 5, 3) := by decide +kernel
theorem dX10_readHand_171 : decode cX10_readHand 171 = .ok (.iconst 0, 1) := by decide +kernel
theorem dX10_readHand_172 : decode cX10_readHand 172 = .ok (.ireturn, 1) := by decide +kernel
theorem dX10_readHand_173 : decode cX10_readHand 173 = .ok (.aload_n 0, 1) := by decide +kernel
theorem dX10_readHand_174 : decode cX10_readHand 174 = .ok (.dup, 1) := by decide +kernel
theorem dX10_readHand_175 : decode cX10_readHand 175 = .ok (.getfield 127, 3) := by decide +kernel
theorem dX10_readHand_178 : decode cX10_readHand 178 = .ok (.iconst 1, 1) := by decide +kernel
theorem dX10_readHand_179 : decode cX10_readHand 179 = .ok (.iadd, 1) := by decide +kernel
theorem dX10_readHand_180 : decode cX10_readHand 180 = .ok (.putfield 127, 3) := by decide +kernel
theorem dX10_readHand_183 : decode cX10_readHand 183 = .ok (.aload_n 0, 1) := by decide +kernel
theorem dX10_readHand_184 : decode cX10_readHand 184 = .ok (.getfield 127, 3) := by decide +kernel
theorem dX10_readHand_187 : decode cX10_readHand 187 = .ok (.iload_n 1, 1) := by decide +kernel
theorem dX10_readHand_188 : decode cX10_readHand 188 = .ok (.if_icmp .ne 7, 3) := by decide +kernel
theorem dX10_readHand_191 : decode cX10_readHand 191 = .ok (.iconst 1, 1) := by decide +kernel
theorem dX10_readHand_192 : decode cX10_readHand 192 = .ok (.goto 4, 3) := by decide +kernel
theorem dX10_readHand_195 : decode cX10_readHand 195 = .ok (.iconst 0, 1) := by decide +kernel
theorem dX10_readHand_196 : decode cX10_readHand 196 = .ok (.ireturn, 1) := by decide +kernel
set_option maxRecDepth 20000 in
theorem ggX10_readRow_X10_digitAt : GoodIn wsX10_readRow wsX10_digitAt := goodIn_r _ [7, 8, 9, 10, 6, 11, 12, 13, 14, 15, 16, 17, 18, 19, 20, 21, 22, 23, 24, 25, 26, 27, 28, 29, 30, 31, 32, 33, 34, 35, 36, 37, 38, 39, 40, 41, 42, 43, 44] (by decide +kernel) (by decide +kernel)
set_option maxRecDepth 20000 in
theorem gX10_readRow_X10_digitAt : GoodIn wsX10_readRow (wsV RX10 163 RX10 yX10_digitAt wsX10_digitAt) := goodIn_app (goodIn_of _ (by decide +kernel)) ggX10_readRow_X10_digitAt
theorem dX10_readRow_0 : decode cX10_readRow 0 = .ok (.iconst 0, 1) := by decide +kernel
theorem dX10_readRow_1 : decode cX10_readRow 1 = .ok (.istore_n 3, 1) := by decide +kernel
theorem dX10_readRow_2 : decode cX10_readRow 2 = .ok (.iconst 0, 1) := by decide +kernel
theorem dX10_readRow_3 : decode cX10_readRow 3 = .ok (.istore 4, 2) := by decide +kernel
theorem dX10_readRow_5 : decode cX10_readRow 5 = .ok (.iload 4, 2) := by decide +kernel
theorem dX10_readRow_7 : decode cX10_readRow 7 = .ok (.iconst 5, 1) := by decide +kernel
theorem dX10_readRow_8 : decode cX10_readRow 8 = .ok (.if_icmp .ge 70, 3) := by decide +kernel
theorem dX10_readRow_11 : decode cX10_readRow 11 = .ok (.aload_n 0, 1) := by decide +kernel
theorem dX10_readRow_12 : decode cX10_readRow 12 = .ok (.aload_n 0, 1) := by decide +kernel
theorem dX10_readRow_13 : decode cX10_readRow 13 = .ok (.getfield 127, 3) := by decide +kernel
theorem dX10_readRow_16 : decode cX10_readRow 16 = .ok (.iload_n 2, 1) := by decide +kernel
theorem dX10_readRow_17 : decode cX10_readRow 17 = .ok (.invokevirtual 163, 3) := by decide +kernel
theorem dX10_readRow_20 : decode cX10_readRow 20 = .ok (.istore 5, 2) := by decide +kernel
theorem dX10_readRow_22 : decode cX10_readRow 22 = .ok (.iload 5, 2) := by decide +kernel
theorem dX10_readRow_24 : decode cX10_readRow 24 = .ok (.bipush (-9), 2) := by decide +kernel
theorem dX10_readRow_26 : decode cX10_readRow 26 = .ok (.if_icmp .eq 16, 3) := by decide +kernel
theorem dX10_readRow_29 : decode cX10_readRow 29 = .ok (.iload 4, 2) := by decide +kernel
theorem dX10_readRow_31 : decode cX10_readRow 31 = .ok (.iconst 4, 1) := by decide +kernel
theorem dX10_readRow_32 : decode cX10_readRow 32 = .ok (.if_icmp .ne 12, 3) := by decide +kernel
theorem dX10_readRow_35 : decode cX10_readRow 35 = .ok (.iload_n 3, 1) := by decide +kernel
theorem dX10_readRow_36 : decode cX10_readRow 36 = .ok (.iload 5, 2) := by decide +kernel
theorem dX10_readRow_38 : decode cX10_readRow 38 = .ok (.iadd, 1) := by decide +kernel
theorem dX10_readRow_39 : decode cX10_readRow 39 = .ok (.ifCond .ne 5, 3) := by decide +kernel
theorem dX10_readRow_42 : decode cX10_readRow 42 = .ok (.iconst 0, 1) := by decide +kernel
theorem dX10_readRow_43 : decode cX10_readRow 43 = .ok (.ireturn, 1) := by decide +kernel
theorem dX10_readRow_44 : decode cX10_readRow 44 = .ok (.aload_n 0, 1) := by decide +kernel
theorem dX10_readRow_45 : decode cX10_readRow 45 = .ok (.getfield 34, 3) := by decide +kernel
theorem dX10_readRow_48 : decode cX10_readRow 48 = .ok (.iconst 5, 1) := by decide +kernel
theorem dX10_readRow_49 : decode cX10_readRow 49 = .ok (.iload_n 1, 1) := by decide +kernel
theorem dX10_readRow_50 : decode cX10_readRow 50 = .ok (.imul, 1) := by decide +kernel
theorem dX10_readRow_51 : decode cX10_readRow 51 = .ok (.iload 4, 2) := by decide +kernel
theorem dX10_readRow_53 : decode cX10_readRow 53 = .ok (.iadd, 1) := by decide +kernel
theorem dX10_readRow_54 : decode cX10_readRow 54 = .ok (.iload 5, 2) := by decide +kernel
theorem dX10_readRow_56 : decode cX10_readRow 56 = .ok (.iastore, 1) := by decide +kernel
theorem dX10_readRow_57 : decode cX10_readRow 57 = .ok (.iload_n 3, 1) := by decide +kernel
theorem dX10_readRow_58 : decode cX10_readRow 58 = .ok (.iload 5, 2) := by decide +kernel
theorem dX10_readRow_60 : decode cX10_readRow 60 = .ok (.iadd, 1) := by decide +kernel
theorem dX10_readRow_61 : decode cX10_readRow 61 = .ok (.istore_n 3, 1) := by decide +kernel
theorem dX10_readRow_62 : decode cX10_readRow 62 = .ok (.aload_n 0, 1) := by decide +kernel
theorem dX10_readRow_63 : decode cX10_readRow 63 = .ok (.dup, 1) := by decide +kernel
theorem dX10_readRow_64 : decode cX10_readRow 64 = .ok (.getfield 127, 3) := by decide +kernel
theorem dX10_readRow_67 : decode cX10_readRow 67 = .ok (.iconst 1, 1) := by decide +kernel
theorem dX10_readRow_68 : decode cX10_readRow 68 = .ok (.iadd, 1) := by decide +kernel
theorem dX10_readRow_69 : decode cX10_readRow 69 = .ok (.putfield 127, 3) := by decide +kernel
theorem dX10_readRow_72 : decode cX10_readRow 72 = .ok (.iinc 4 1, 3) := by decide +kernel
theorem dX10_readRow_75 : decode cX10_readRow 75 = .ok (.goto (-70), 3) := by decide +kernel
theorem dX10_readRow_78 : decode cX10_readRow 78 = .ok (.iconst 1, 1) := by decide +kernel
theorem dX10_readRow_79 : decode cX10_readRow 79 = .ok (.ireturn, 1) := by decide +kernel
set_option maxRecDepth 20000 in
theorem ggX10_isStage_X10_within : GoodIn wsX10_isStage wsX10_within := goodIn_r _ [4] (by decide +kernel) (by decide +kernel)
set_option maxRecDepth 20000 in
theorem gX10_isStage_X10_within : GoodIn wsX10_isStage (va_wsS RX10 81 yX10_within wsX10_within) := goodIn_app (goodIn_of _ (by decide +kernel)) ggX10_isStage_X10_within
theorem dX10_isStage_0 : decode cX10_isStage 0 = .ok (.iload_n 0, 1) := by decide +kernel
theorem dX10_isStage_1 : decode cX10_isStage 1 = .ok (.iconst 0, 1) := by decide +kernel
theorem dX10_isStage_2 : decode cX10_isStage 2 = .ok (.bipush 9, 2) := by decide +kernel
theorem dX10_isStage_4 : decode cX10_isStage 4 = .ok (.invokestatic 81, 3) := by decide +kernel
theorem dX10_isStage_7 : decode cX10_isStage 7 = .ok (.ireturn, 1) := by decide +kernel
theorem dX10_weightOf_0 : decode cX10_weightOf 0 = .ok (.aload_n 0, 1) := by decide +kernel
theorem dX10_weightOf_1 : decode cX10_weightOf 1 = .ok (.getfield 31, 3) := by decide +kernel
theorem dX10_weightOf_4 : decode cX10_weightOf 4 = .ok (.iconst 5, 1) := by decide +kernel
theorem dX10_weightOf_5 : decode cX10_weightOf 5 = .ok (.iload_n 1, 1) := by decide +kernel
theorem dX10_weightOf_6 : decode cX10_weightOf 6 = .ok (.imul, 1) := by decide +kernel
theorem dX10_weightOf_7 : decode cX10_weightOf 7 = .ok (.iload_n 2, 1) := by decide +kernel
theorem dX10_weightOf_8 : decode cX10_weightOf 8 = .ok (.iadd, 1) := by decide +kernel
theorem dX10_weightOf_9 : decode cX10_weightOf 9 = .ok (.iaload, 1) := by decide +kernel
theorem dX10_weightOf_10 : decode cX10_weightOf 10 = .ok (.istore 4, 2) := by decide +kernel
theorem dX10_weightOf_12 : decode cX10_weightOf 12 = .ok (.iload_n 2, 1) := by decide +kernel
theorem dX10_weightOf_13 : decode cX10_weightOf 13 = .ok (.iconst 2, 1) := by decide +kernel
theorem dX10_weightOf_14 : decode cX10_weightOf 14 = .ok (.if_icmp .ne 6, 3) := by decide +kernel
theorem dX10_weightOf_17 : decode cX10_weightOf 17 = .ok (.iload 4, 2) := by decide +kernel
theorem dX10_weightOf_19 : decode cX10_weightOf 19 = .ok (.ireturn, 1) := by decide +kernel
theorem dX10_weightOf_20 : decode cX10_weightOf 20 = .ok (.iload 4, 2) := by decide +kernel
theorem dX10_weightOf_22 : decode cX10_weightOf 22 = .ok (.iload_n 3, 1) := by decide +kernel
theorem dX10_weightOf_23 : decode cX10_weightOf 23 = .ok (.iadd, 1) := by decide +kernel
theorem dX10_weightOf_24 : decode cX10_weightOf 24 = .ok (.bipush 9, 2) := by decide +kernel
theorem dX10_weightOf_26 : decode cX10_weightOf 26 = .ok (.if_icmp .le 8, 3) := by decide +kernel
theorem dX10_weightOf_29 : decode cX10_weightOf 29 = .ok (.bipush 9, 2) := by decide +kernel
theorem dX10_weightOf_31 : decode cX10_weightOf 31 = .ok (.goto 7, 3) := by decide +kernel
theorem dX10_weightOf_34 : decode cX10_weightOf 34 = .ok (.iload 4, 2) := by decide +kernel
theorem dX10_weightOf_36 : decode cX10_weightOf 36 = .ok (.iload_n 3, 1) := by decide +kernel
theorem dX10_weightOf_37 : decode cX10_weightOf 37 = .ok (.iadd, 1) := by decide +kernel
theorem dX10_weightOf_38 : decode cX10_weightOf 38 = .ok (.ireturn, 1) := by decide +kernel
set_option maxRecDepth 20000 in
theorem ggX10_sumOf_X10_weightOf : GoodIn wsX10_sumOf wsX10_weightOf := goodIn_r _ [5, 6, 7, 8, 9, 10, 11, 12, 13, 14, 15, 16, 17, 18, 19, 20, 21, 22, 23, 24, 25, 26, 27, 28, 29, 30, 31, 32, 33, 34, 35, 36, 37, 38, 39] (by decide +kernel) (by decide +kernel)
set_option maxRecDepth 20000 in
theorem gX10_sumOf_X10_weightOf : GoodIn wsX10_sumOf (wsV RX10 167 RX10 yX10_weightOf wsX10_weightOf) := goodIn_app (goodIn_of _ (by decide +kernel)) ggX10_sumOf_X10_weightOf
theorem dX10_sumOf_0 : decode cX10_sumOf 0 = .ok (.iconst 0, 1) := by decide +kernel
theorem dX10_sumOf_1 : decode cX10_sumOf 1 = .ok (.istore_n 3, 1) := by decide +kernel
theorem dX10_sumOf_2 : decode cX10_sumOf 2 = .ok (.iconst 0, 1) := by decide +kernel
theorem dX10_sumOf_3 : decode cX10_sumOf 3 = .ok (.istore 4, 2) := by decide +kernel
theorem dX10_sumOf_5 : decode cX10_sumOf 5 = .ok (.iload 4, 2) := by decide +kernel
theorem dX10_sumOf_7 : decode cX10_sumOf 7 = .ok (.iconst 5, 1) := by decide +kernel
theorem dX10_sumOf_8 : decode cX10_sumOf 8 = .ok (.if_icmp .ge 20, 3) := by decide +kernel
theorem dX10_sumOf_11 : decode cX10_sumOf 11 = .ok (.iload_n 3, 1) := by decide +kernel
theorem dX10_sumOf_12 : decode cX10_sumOf 12 = .ok (.aload_n 0, 1) := by decide +kernel
theorem dX10_sumOf_13 : decode cX10_sumOf 13 = .ok (.iload_n 1, 1) := by decide +kernel
theorem dX10_sumOf_14 : decode cX10_sumOf 14 = .ok (.iload 4, 2) := by decide +kernel
theorem dX10_sumOf_16 : decode cX10_sumOf 16 = .ok (.iload_n 2, 1) := by decide +kernel
theorem dX10_sumOf_17 : decode cX10_sumOf 17 = .ok (.invokevirtual 167, 3) := by decide +kernel
theorem dX10_sumOf_20 : decode cX10_sumOf 20 = .ok (.iadd, 1) := by decide +kernel
theorem dX10_sumOf_21 : decode cX10_sumOf 21 = .ok (.istore_n 3, 1) := by decide +kernel
theorem dX10_sumOf_22 : decode cX10_sumOf 22 = .ok (.iinc 4 1, 3) := by decide +kernel
theorem dX10_sumOf_25 : decode cX10_sumOf 25 = .ok (.goto (-20), 3) := by decide +kernel
theorem dX10_sumOf_28 : decode cX10_sumOf 28 = .ok (.iload_n 3, 1) := by decide +kernel
theorem dX10_sumOf_29 : decode cX10_sumOf 29 = .ok (.ireturn, 1) := by decide +kernel
set_option maxRecDepth 20000 in
theorem ggX10_weight_X10_within : GoodIn wsX10_weight wsX10_within := goodIn_r _ [5] (by decide +kernel) (by decide +kernel)
set_option maxRecDepth 20000 in
theorem gX10_weight_X10_within : GoodIn wsX10_weight (va_wsS RX10 81 yX10_within wsX10_within) := goodIn_app (goodIn_of _ (by decide +kernel)) ggX10_weight_X10_within
set_option maxRecDepth 20000 in
theorem ggX10_weight_X10_isStage : GoodIn wsX10_weight wsX10_isStage := goodIn_r _ [8, 2, 3, 4, 5] (by decide +kernel) (by decide +kernel)
set_option maxRecDepth 20000 in
theorem gX10_weight_X10_isStage : GoodIn wsX10_weight (va_wsS RX10 170 yX10_isStage wsX10_isStage) := goodIn_app (goodIn_of _ (by decide +kernel)) ggX10_weight_X10_isStage
set_option maxRecDepth 20000 in
theorem ggX10_weight_X10_weightOf : GoodIn wsX10_weight wsX10_weightOf := goodIn_r _ [12, 13, 14, 15, 16, 17, 18, 19, 20, 21, 22, 23, 24, 25, 26, 27, 28, 29, 30, 31, 32, 33, 34, 35, 36, 37, 38, 39, 40, 41, 42, 43, 44, 45, 46] (by decide +kernel) (by decide +kernel)
set_option maxRecDepth 20000 in
theorem gX10_weight_X10_weightOf : GoodIn wsX10_weight (wsV RX10 167 RX10 yX10_weightOf wsX10_weightOf) := goodIn_app (goodIn_of _ (by decide +kernel)) ggX10_weight_X10_weightOf
theorem dX10_weight_0 : decode cX10_weight 0 = .ok (.iload_n 1, 1) := by decide +kernel
theorem dX10_weight_1 : decode cX10_weight 1 = .ok (.iconst 0, 1) := by decide +kernel
theorem dX10_weight_2 : decode cX10_weight 2 = .ok (.iconst 2, 1) := by decide +kernel
theorem dX10_weight_3 : decode cX10_weight 3 = .ok (.invokestatic 81, 3) := by decide +kernel
theorem dX10_weight_6 : decode cX10_weight 6 = .ok (.ifCond .ne 5, 3) := by decide +kernel
theorem dX10_weight_9 : decode cX10_weight 9 = .ok (.iconst (-1), 1) := by decide +kernel
theorem dX10_weight_10 : decode cX10_weight 10 = .ok (.ireturn, 1) := by decide +kernel
theorem dX10_weight_11 : decode cX10_weight 11 = .ok (.iload_n 2, 1) := by decide +kernel
theorem dX10_weight_12 : decode cX10_weight 12 = .ok (.bipush (-2), 2) := by decide +kernel
theorem dX10_weight_14 : decode cX10_weight 14 = .ok (.iconst 2, 1) := by decide +kernel
theorem dX10_weight_15 : decode cX10_weight 15 = .ok (.invokestatic 81, 3) := by decide +kernel
theorem dX10_weight_18 : decode cX10_weight 18 = .ok (.ifCond .eq 10, 3) := by decide +kernel
theorem dX10_weight_21 : decode cX10_weight 21 = .ok (.iload_n 3, 1) := by decide +kernel
theorem dX10_weight_22 : decode cX10_weight 22 = .ok (.invokestatic 170, 3) := by decide +kernel
theorem dX10_weight_25 : decode cX10_weight 25 = .ok (.ifCond .ne 6, 3) := by decide +kernel
theorem dX10_weight_28 : decode cX10_weight 28 = .ok (.bipush (-2), 2) := by decide +kernel
theorem dX10_weight_30 : decode cX10_weight 30 = .ok (.ireturn, 1) := by decide +kernel
theorem dX10_weight_31 : decode cX10_weight 31 = .ok (.aload_n 0, 1) := by decide +kernel
theorem dX10_weight_32 : decode cX10_weight 32 = .ok (.getfield 146, 3) := by decide +kernel
theorem dX10_weight_35 : decode cX10_weight 35 = .ok (.ifCond .eq 15, 3) := by decide +kernel
theorem dX10_weight_38 : decode cX10_weight 38 = .ok (.aload_n 0, 1) := by decide +kernel
theorem dX10_weight_39 : decode cX10_weight 39 = .ok (.iload_n 1, 1) := by decide +kernel
theorem dX10_weight_40 : decode cX10_weight 40 = .ok (.iload_n 2, 1) := by decide +kernel
theorem dX10_weight_41 : decode cX10_weight 41 = .ok (.iconst 2, 1) := by decide +kernel
theorem dX10_weight_42 : decode cX10_weight 42 = .ok (.iadd, 1) := by decide +kernel
theorem dX10_weight_43 : decode cX10_weight 43 = .ok (.iload_n 3, 1) := by decide +kernel
theorem dX10_weight_44 : decode cX10_weight 44 = .ok (.invokevirtual 167, 3) := by decide +kernel
theorem dX10_weight_47 : decode cX10_weight 47 = .ok (.goto 5, 3) := by decide +kernel
theorem dX10_weight_50 : decode cX10_weight 50 = .ok (.bipush (-3), 2) := by decide +kernel
theorem dX10_weight_52 : decode cX10_weight 52 = .ok (.ireturn, 1) := by decide +kernel
theorem dX10_stageOf_0 : decode cX10_stageOf 0 = .ok (.aload_n 0, 1) := by decide +kernel
theorem dX10_stageOf_1 : decode cX10_stageOf 1 = .ok (.getfield 153, 3) := by decide +kernel
theorem dX10_stageOf_4 : decode cX10_stageOf 4 = .ok (.ifCond .ne 7, 3) := by decide +kernel
theorem dX10_stageOf_7 : decode cX10_stageOf 7 = .ok (.iconst 0, 1) := by decide +kernel
theorem dX10_stageOf_8 : decode cX10_stageOf 8 = .ok (.goto 9, 3) := by decide +kernel
theorem dX10_stageOf_11 : decode cX10_stageOf 11 = .ok (.iload_n 1, 1) := by decide +kernel
theorem dX10_stageOf_12 : decode cX10_stageOf 12 = .ok (.aload_n 0, 1) := by decide +kernel
theorem dX10_stageOf_13 : decode cX10_stageOf 13 = .ok (.getfield 153, 3) := by decide +kernel
theorem dX10_stageOf_16 : decode cX10_stageOf 16 = .ok (.idiv, 1) := by decide +kernel
theorem dX10_stageOf_17 : decode cX10_stageOf 17 = .ok (.istore_n 2, 1) := by decide +kernel
theorem dX10_stageOf_18 : decode cX10_stageOf 18 = .ok (.iload_n 2, 1) := by decide +kernel
theorem dX10_stageOf_19 : decode cX10_stageOf 19 = .ok (.bipush 9, 2) := by decide +kernel
theorem dX10_stageOf_21 : decode cX10_stageOf 21 = .ok (.if_icmp .le 8, 3) := by decide +kernel
theorem dX10_stageOf_24 : decode cX10_stageOf 24 = .ok (.bipush 9, 2) := by decide +kernel
theorem dX10_stageOf_26 : decode cX10_stageOf 26 = .ok (.goto 4, 3) := by decide +kernel
theorem dX10_stageOf_29 : decode cX10_stageOf 29 = .ok (.iload_n 2, 1) := by decide +kernel
theorem dX10_stageOf_30 : decode cX10_stageOf 30 = .ok (.ireturn, 1) := by decide +kernel
set_option maxRecDepth 20000 in
theorem ggX10_stage_X10_within : GoodIn wsX10_stage wsX10_within := goodIn_r _ [5] (by decide +kernel) (by decide +kernel)
set_option maxRecDepth 20000 in
theorem gX10_stage_X10_within : GoodIn wsX10_stage (va_wsS RX10 81 yX10_within wsX10_within) := goodIn_app (goodIn_of _ (by decide +kernel)) ggX10_stage_X10_within
set_option maxRecDepth 20000 in
theorem ggX10_stage_X10_stageOf : GoodIn wsX10_stage wsX10_stageOf := goodIn_r _ [9, 10, 11, 12, 13, 14, 15, 16, 17, 18, 19, 20, 21, 22, 23, 24, 25, 26, 27, 28, 29, 30, 31, 32, 33, 34, 35, 36, 37, 38, 39, 40, 41, 42, 43] (by decide +kernel) (by decide +kernel)
set_option maxRecDepth 20000 in
theorem gX10_stage_X10_stageOf : GoodIn wsX10_stage (wsV RX10 173 RX10 yX10_stageOf wsX10_stageOf) := goodIn_app (goodIn_of _ (by decide +kernel)) ggX10_stage_X10_stageOf
theorem dX10_stage_0 : decode cX10_stage 0 = .ok (.iload_n 1, 1) := by decide +kernel
theorem dX10_stage_1 : decode cX10_stage 1 = .ok (.iconst 0, 1) := by decide +kernel
theorem dX10_stage_2 : decode cX10_stage 2 = .ok (.sipush 9999, 3) := by decide +kernel
theorem dX10_stage_5 : decode cX10_stage 5 = .ok (.invokestatic 81, 3) := by decide +kernel
theorem dX10_stage_8 : decode cX10_stage 8 = .ok (.ifCond .ne 6, 3) := by decide +kernel
theorem dX10_stage_11 : decode cX10_stage 11 = .ok (.bipush (-2), 2) := by decide +kernel
theorem dX10_stage_13 : decode cX10_stage 13 = .ok (.ireturn, 1) := by decide +kernel
theorem dX10_stage_14 : decode cX10_stage 14 = .ok (.aload_n 0, 1) := by decide +kernel
theorem dX10_stage_15 : decode cX10_stage 15 = .ok (.getfield 146, 3) := by decide +kernel
theorem dX10_stage_18 : decode cX10_stage 18 = .ok (.ifCond .eq 11, 3) := by decide +kernel
theorem dX10_stage_21 : decode cX10_stage 21 = .ok (.aload_n 0, 1) := by decide +kernel
theorem dX10_stage_22 : decode cX10_stage 22 = .ok (.iload_n 1, 1) := by decide +kernel
theorem dX10_stage_23 : decode cX10_stage 23 = .ok (.invokevirtual 173, 3) := by decide +kernel
theorem dX10_stage_26 : decode cX10_stage 26 = .ok (.goto 5, 3) := by decide +kernel
theorem dX10_stage_29 : decode cX10_stage 29 = .ok (.bipush (-3), 2) := by decide +kernel
theorem dX10_stage_31 : decode cX10_stage 31 = .ok (.ireturn, 1) := by decide +kernel
set_option maxRecDepth 20000 in
theorem ggX10_stuckBy_X10_isStuck : GoodIn wsX10_stuckBy wsX10_isStuck := goodIn_r _ [5, 6, 7, 8, 9, 4, 10, 11, 12, 13, 14, 15, 16, 17, 18, 19, 20, 21, 22, 23, 24, 25, 26, 32, 33, 34, 35, 36, 37, 38, 39, 40, 41, 42, 43, 44, 45, 46, 47, 48, 49, 50, 51, 52, 53, 54, 55, 56, 57, 58, 59, 60, 61, 62, 63, 64] (by decide +kernel) (by decide +kernel)
set_option maxRecDepth 20000 in
theorem gX10_stuckBy_X10_isStuck : GoodIn wsX10_stuckBy (wsV RX10 124 RX10 yX10_isStuck wsX10_isStuck) := goodIn_app (goodIn_of _ (by decide +kernel)) ggX10_stuckBy_X10_isStuck
set_option maxRecDepth 20000 in
theorem ggX10_stuckBy_X10_weightOf : GoodIn wsX10_stuckBy wsX10_weightOf := goodIn_r _ [30, 31, 32, 33, 34, 35, 36, 37, 38, 39, 40, 41, 42, 43, 44, 45, 46, 47, 48, 49, 50, 51, 52, 53, 54, 55, 56, 57, 58, 59, 60, 61, 62, 63, 64] (by decide +kernel) (by decide +kernel)
set_option maxRecDepth 20000 in
theorem gX10_stuckBy_X10_weightOf : GoodIn wsX10_stuckBy (wsV RX10 167 RX10 yX10_weightOf wsX10_weightOf) := goodIn_app (goodIn_of _ (by decide +kernel)) ggX10_stuckBy_X10_weightOf
theorem dX10_stuckBy_0 : decode cX10_stuckBy 0 = .ok (.iconst 0, 1) := by decide +kernel
theorem dX10_stuckBy_1 : decode cX10_stuckBy 1 = .ok (.istore 5, 2) := by decide +kernel
theorem dX10_stuckBy_3 : decode cX10_stuckBy 3 = .ok (.iconst 0, 1) := by decide +kernel
theorem dX10_stuckBy_4 : decode cX10_stuckBy 4 = .ok (.istore 6, 2) := by decide +kernel
theorem dX10_stuckBy_6 : decode cX10_stuckBy 6 = .ok (.iload 6, 2) := by decide +kernel
theorem dX10_stuckBy_8 : decode cX10_stuckBy 8 = .ok (.iconst 5, 1) := by decide +kernel
theorem dX10_stuckBy_9 : decode cX10_stuckBy 9 = .ok (.if_icmp .ge 48, 3) := by decide +kernel
theorem dX10_stuckBy_12 : decode cX10_stuckBy 12 = .ok (.iload 5, 2) := by decide +kernel
theorem dX10_stuckBy_14 : decode cX10_stuckBy 14 = .ok (.aload_n 0, 1) := by decide +kernel
theorem dX10_stuckBy_15 : decode cX10_stuckBy 15 = .ok (.iload_n 1, 1) := by decide +kernel
theorem dX10_stuckBy_16 : decode cX10_stuckBy 16 = .ok (.iload_n 2, 1) := by decide +kernel
theorem dX10_stuckBy_17 : decode cX10_stuckBy 17 = .ok (.iload 6, 2) := by decide +kernel
theorem dX10_stuckBy_19 : decode cX10_stuckBy 19 = .ok (.iadd, 1) := by decide +kernel
theorem dX10_stuckBy_20 : decode cX10_stuckBy 20 = .ok (.bipush 24, 2) := by decide +kernel
theorem dX10_stuckBy_22 : decode cX10_stuckBy 22 = .ok (.iadd, 1) := by decide +kernel
theorem dX10_stuckBy_23 : decode cX10_stuckBy 23 = .ok (.iconst 2, 1) := by decide +kernel
theorem dX10_stuckBy_24 : decode cX10_stuckBy 24 = .ok (.isub, 1) := by decide +kernel
theorem dX10_stuckBy_25 : decode cX10_stuckBy 25 = .ok (.bipush 24, 2) := by decide +kernel
theorem dX10_stuckBy_27 : decode cX10_stuckBy 27 = .ok (.irem, 1) := by decide +kernel
theorem dX10_stuckBy_28 : decode cX10_stuckBy 28 = .ok (.iload_n 3, 1) := by decide +kernel
theorem dX10_stuckBy_29 : decode cX10_stuckBy 29 = .ok (.invokevirtual 124, 3) := by decide +kernel
theorem dX10_stuckBy_32 : decode cX10_stuckBy 32 = .ok (.ifCond .eq 15, 3) := by decide +kernel
theorem dX10_stuckBy_35 : decode cX10_stuckBy 35 = .ok (.aload_n 0, 1) := by decide +kernel
theorem dX10_stuckBy_36 : decode cX10_stuckBy 36 = .ok (.iconst 0, 1) := by decide +kernel
theorem dX10_stuckBy_37 : decode cX10_stuckBy 37 = .ok (.iload 6, 2) := by decide +kernel
theorem dX10_stuckBy_39 : decode cX10_stuckBy 39 = .ok (.iload 4, 2) := by decide +kernel
theorem dX10_stuckBy_41 : decode cX10_stuckBy 41 = .ok (.invokevirtual 167, 3) := by decide +kernel
theorem dX10_stuckBy_44 : decode cX10_stuckBy 44 = .ok (.goto 4, 3) := by decide +kernel
theorem dX10_stuckBy_47 : decode cX10_stuckBy 47 = .ok (.iconst 0, 1) := by decide +kernel
theorem dX10_stuckBy_48 : decode cX10_stuckBy 48 = .ok (.iadd, 1) := by decide +kernel
theorem dX10_stuckBy_49 : decode cX10_stuckBy 49 = .ok (.istore 5, 2) := by decide +kernel
theorem dX10_stuckBy_51 : decode cX10_stuckBy 51 = .ok (.iinc 6 1, 3) := by decide +kernel
theorem dX10_stuckBy_54 : decode cX10_stuckBy 54 = .ok (.goto (-48), 3) := by decide +kernel
theorem dX10_stuckBy_57 : decode cX10_stuckBy 57 = .ok (.iload 5, 2) := by decide +kernel
theorem dX10_stuckBy_59 : decode cX10_stuckBy 59 = .ok (.ireturn, 1) := by decide +kernel
set_option maxRecDepth 20000 in
theorem ggX10_likely_X10_isKnife : GoodIn wsX10_likely wsX10_isKnife := goodIn_r _ [7, 8, 68, 69, 70, 71, 72, 73, 74, 75, 76, 77, 78, 79, 80, 81, 82, 83, 84, 85, 86, 87, 88, 89, 90, 91, 92, 93, 94, 95, 96, 97, 98, 99, 100] (by decide +kernel) (by decide +kernel)
set_option maxRecDepth 20000 in
theorem gX10_likely_X10_isKnife : GoodIn wsX10_likely (wsV RX10 88 RX10 yX10_isKnife wsX10_isKnife) := goodIn_app (goodIn_of _ (by decide +kernel)) ggX10_likely_X10_isKnife
set_option maxRecDepth 20000 in
theorem ggX10_likely_X10_isStart : GoodIn wsX10_likely wsX10_isStart := goodIn_r _ [11, 12, 13, 6, 14] (by decide +kernel) (by decide +kernel)
set_option maxRecDepth 20000 in
theorem gX10_likely_X10_isStart : GoodIn wsX10_likely (va_wsS RX10 96 yX10_isStart wsX10_isStart) := goodIn_app (goodIn_of _ (by decide +kernel)) ggX10_likely_X10_isStart
set_option maxRecDepth 20000 in
theorem ggX10_likely_X10_isFeet : GoodIn wsX10_likely wsX10_isFeet := goodIn_r _ [17, 12, 13, 6, 14] (by decide +kernel) (by decide +kernel)
set_option maxRecDepth 20000 in
theorem gX10_likely_X10_isFeet : GoodIn wsX10_likely (va_wsS RX10 99 yX10_isFeet wsX10_isFeet) := goodIn_app (goodIn_of _ (by decide +kernel)) ggX10_likely_X10_isFeet
set_option maxRecDepth 20000 in
theorem ggX10_likely_X10_isStage : GoodIn wsX10_likely wsX10_isStage := goodIn_r _ [20, 12, 13, 6, 14] (by decide +kernel) (by decide +kernel)
set_option maxRecDepth 20000 in
theorem gX10_likely_X10_isStage : GoodIn wsX10_likely (va_wsS RX10 170 yX10_isStage wsX10_isStage) := goodIn_app (goodIn_of _ (by decide +kernel)) ggX10_likely_X10_isStage
set_option maxRecDepth 20000 in
theorem ggX10_likely_X10_isWhich : GoodIn wsX10_likely wsX10_isWhich := goodIn_r _ [23, 12, 13, 6, 14] (by decide +kernel) (by decide +kernel)
set_option maxRecDepth 20000 in
theorem gX10_likely_X10_isWhich : GoodIn wsX10_likely (va_wsS RX10 102 yX10_isWhich wsX10_isWhich) := goodIn_app (goodIn_of _ (by decide +kernel)) ggX10_likely_X10_isWhich
set_option maxRecDepth 20000 in
theorem ggX10_likely_X10_stuckBy : GoodIn wsX10_likely wsX10_stuckBy := goodIn_r _ [27, 28, 29, 30, 6, 31, 32, 33, 34, 35, 36, 37, 38, 39, 40, 41, 42, 43, 44, 45, 46, 47, 48, 49, 50, 51, 52, 53, 54, 55, 56, 57, 68, 69, 70, 71, 72, 73, 74, 75, 76, 77, 78, 79, 80, 81, 82, 83, 84, 85, 86, 87, 88, 89, 90, 91, 92, 93, 94, 95, 96, 97, 98, 99, 100] (by decide +kernel) (by decide +kernel)
set_option maxRecDepth 20000 in
theorem gX10_likely_X10_stuckBy : GoodIn wsX10_likely (wsV RX10 176 RX10 yX10_stuckBy wsX10_stuckBy) := goodIn_app (goodIn_of _ (by decide +kernel)) ggX10_likely_X10_stuckBy
set_option maxRecDepth 20000 in
theorem ggX10_likely_X10_sumOf : GoodIn wsX10_likely wsX10_sumOf := goodIn_r _ [61, 53, 54, 55, 6, 56, 57, 68, 69, 70, 71, 72, 73, 74, 75, 76, 77, 78, 79, 80, 81, 82, 83, 84, 85, 86, 87, 88, 89, 90, 91, 92, 93, 94, 95, 96, 97, 98, 99, 100] (by decide +kernel) (by decide +kernel)
set_option maxRecDepth 20000 in
theorem gX10_likely_X10_sumOf : GoodIn wsX10_likely (wsV RX10 179 RX10 yX10_sumOf wsX10_sumOf) := goodIn_app (goodIn_of _ (by decide +kernel)) ggX10_likely_X10_sumOf
set_option maxRecDepth 20000 in
theorem ggX10_likely_X10_share : GoodIn wsX10_likely wsX10_share := goodIn_r _ [64, 65, 66, 6, 67] (by decide +kernel) (by decide +kernel)
set_option maxRecDepth 20000 in
theorem gX10_likely_X10_share : GoodIn wsX10_likely (va_wsS RX10 109 yX10_share wsX10_share) := goodIn_app (goodIn_of _ (by decide +kernel)) ggX10_likely_X10_share
theorem dX10_likely_0 : decode cX10_likely 0 = .ok (.aload_n 0, 1) := by decide +kernel
theorem dX10_likely_1 : decode cX10_likely 1 = .ok (.iload_n 1, 1) := by decide +kernel
theorem dX10_likely_2 : decode cX10_likely 2 = .ok (.invokevirtual 88, 3) := by decide +kernel
theorem dX10_likely_5 : decode cX10_likely 5 = .ok (.ifCond .eq 40, 3) := by decide +kernel
theorem dX10_likely_8 : decode cX10_likely 8 = .ok (.iload_n 2, 1) := by decide +kernel
theorem dX10_likely_9 : decode cX10_likely 9 = .ok (.invokestatic 96, 3) := by decide +kernel
theorem dX10_likely_12 : decode cX10_likely 12 = .ok (.ifCond .eq 33, 3) := by decide +kernel
theorem dX10_likely_15 : decode cX10_likely 15 = .ok (.iload_n 3, 1) := by decide +kernel
theorem dX10_likely_16 : decode cX10_likely 16 = .ok (.invokestatic 99, 3) := by decide +kernel
theorem dX10_likely_19 : decode cX10_likely 19 = .ok (.ifCond .eq 26, 3) := by decide +kernel
theorem dX10_likely_22 : decode cX10_likely 22 = .ok (.iload 4, 2) := by decide +kernel
theorem dX10_likely_24 : decode cX10_likely 24 = .ok (.invokestatic 170, 3) := by decide +kernel
theorem dX10_likely_27 : decode cX10_likely 27 = .ok (.ifCond .eq 18, 3) := by decide +kernel
theorem dX10_likely_30 : decode cX10_likely 30 = .ok (.iload 5, 2) := by decide +kernel
theorem dX10_likely_32 : decode cX10_likely 32 = .ok (.invokestatic 102, 3) := by decide +kernel
theorem dX10_likely_35 : decode cX10_likely 35 = .ok (.ifCond .eq 10, 3) := by decide +kernel
theorem dX10_likely_38 : decode cX10_likely 38 = .ok (.aload_n 0, 1) := by decide +kernel
theorem dX10_likely_39 : decode cX10_likely 39 = .ok (.getfield 146, 3) := by decide +kernel
theorem dX10_likely_42 : decode cX10_likely 42 = .ok (.ifCond .ne 7, 3) := by decide +kernel
theorem dX10_likely_45 : decode cX10_likely 45 = .ok (.ldc2_w 75, 3) := by decide +kernel
theorem dX10_likely_48 : decode cX10_likely 48 = .ok (.lreturn, 1) := by decide +kernel
theorem dX10_likely_49 : decode cX10_likely 49 = .ok (.aload_n 0, 1) := by decide +kernel
theorem dX10_likely_50 : decode cX10_likely 50 = .ok (.iload_n 1, 1) := by decide +kernel
theorem dX10_likely_51 : decode cX10_likely 51 = .ok (.iload_n 2, 1) := by decide +kernel
theorem dX10_likely_52 : decode cX10_likely 52 = .ok (.iload_n 3, 1) := by decide +kernel
theorem dX10_likely_53 : decode cX10_likely 53 = .ok (.iload 4, 2) := by decide +kernel
theorem dX10_likely_55 : decode cX10_likely 55 = .ok (.invokevirtual 176, 3) := by decide +kernel
theorem dX10_likely_58 : decode cX10_likely 58 = .ok (.i2l, 1) := by decide +kernel
theorem dX10_likely_59 : decode cX10_likely 59 = .ok (.aload_n 0, 1) := by decide +kernel
theorem dX10_likely_60 : decode cX10_likely 60 = .ok (.iconst 0, 1) := by decide +kernel
theorem dX10_likely_61 : decode cX10_likely 61 = .ok (.iload 4, 2) := by decide +kernel
theorem dX10_likely_63 : decode cX10_likely 63 = .ok (.invokevirtual 179, 3) := by decide +kernel
theorem dX10_likely_66 : decode cX10_likely 66 = .ok (.i2l, 1) := by decide +kernel
theorem dX10_likely_67 : decode cX10_likely 67 = .ok (.iload 5, 2) := by decide +kernel
theorem dX10_likely_69 : decode cX10_likely 69 = .ok (.invokestatic 109, 3) := by decide +kernel
theorem dX10_likely_72 : decode cX10_likely 72 = .ok (.lreturn, 1) := by decide +kernel
set_option maxRecDepth 20000 in
theorem ggX10_best_X10_isKnife : GoodIn wsX10_best wsX10_isKnife := goodIn_r _ [6, 7, 48, 49, 50, 51, 52, 53, 54, 55, 56, 57, 58, 59, 60, 61, 62, 63, 64, 65, 66, 67, 68, 69, 70, 71, 72, 73, 74, 75, 76, 77, 78, 79, 80] (by decide +kernel) (by decide +kernel)
set_option maxRecDepth 20000 in
theorem gX10_best_X10_isKnife : GoodIn wsX10_best (wsV RX10 88 RX10 yX10_isKnife wsX10_isKnife) := goodIn_app (goodIn_of _ (by decide +kernel)) ggX10_best_X10_isKnife
set_option maxRecDepth 20000 in
theorem ggX10_best_X10_isStage : GoodIn wsX10_best wsX10_isStage := goodIn_r _ [10, 11, 12, 5, 13] (by decide +kernel) (by decide +kernel)
set_option maxRecDepth 20000 in
theorem gX10_best_X10_isStage : GoodIn wsX10_best (va_wsS RX10 170 yX10_isStage wsX10_isStage) := goodIn_app (goodIn_of _ (by decide +kernel)) ggX10_best_X10_isStage
set_option maxRecDepth 20000 in
theorem ggX10_best_X10_within : GoodIn wsX10_best wsX10_within := goodIn_r _ [13] (by decide +kernel) (by decide +kernel)
set_option maxRecDepth 20000 in
theorem gX10_best_X10_within : GoodIn wsX10_best (va_wsS RX10 81 yX10_within wsX10_within) := goodIn_app (goodIn_of _ (by decide +kernel)) ggX10_best_X10_within
set_option maxRecDepth 20000 in
theorem ggX10_best_X10_stuckBy : GoodIn wsX10_best wsX10_stuckBy := goodIn_r _ [17, 18, 19, 20, 5, 21, 22, 23, 24, 25, 26, 27, 28, 29, 30, 31, 32, 33, 34, 35, 36, 37, 38, 39, 40, 41, 42, 43, 44, 45, 46, 47, 48, 49, 50, 51, 52, 53, 54, 55, 56, 57, 58, 59, 60, 61, 62, 63, 64, 65, 66, 67, 68, 69, 70, 71, 72, 73, 74, 75, 76, 77, 78, 79, 80] (by decide +kernel) (by decide +kernel)
set_option maxRecDepth 20000 in
theorem gX10_best_X10_stuckBy : GoodIn wsX10_best (wsV RX10 176 RX10 yX10_stuckBy wsX10_stuckBy) := goodIn_app (goodIn_of _ (by decide +kernel)) ggX10_best_X10_stuckBy
theorem dX10_best_0 : decode cX10_best 0 = .ok (.aload_n 0, 1) := by decide +kernel
theorem dX10_best_1 : decode cX10_best 1 = .ok (.iload_n 1, 1) := by decide +kernel
theorem dX10_best_2 : decode cX10_best 2 = .ok (.invokevirtual 88, 3) := by decide +kernel
theorem dX10_best_5 : decode cX10_best 5 = .ok (.ifCond .ne 5, 3) := by decide +kernel
theorem dX10_best_8 : decode cX10_best 8 = .ok (.iconst (-1), 1) := by decide +kernel
theorem dX10_best_9 : decode cX10_best 9 = .ok (.ireturn, 1) := by decide +kernel
theorem dX10_best_10 : decode cX10_best 10 = .ok (.iload_n 2, 1) := by decide +kernel
theorem dX10_best_11 : decode cX10_best 11 = .ok (.invokestatic 170, 3) := by decide +kernel
theorem dX10_best_14 : decode cX10_best 14 = .ok (.ifCond .eq 12, 3) := by decide +kernel
theorem dX10_best_17 : decode cX10_best 17 = .ok (.iload_n 3, 1) := by decide +kernel
theorem dX10_best_18 : decode cX10_best 18 = .ok (.iconst 0, 1) := by decide +kernel
theorem dX10_best_19 : decode cX10_best 19 = .ok (.iconst 1, 1) := by decide +kernel
theorem dX10_best_20 : decode cX10_best 20 = .ok (.invokestatic 81, 3) := by decide +kernel
theorem dX10_best_23 : decode cX10_best 23 = .ok (.ifCond .ne 6, 3) := by decide +kernel
theorem dX10_best_26 : decode cX10_best 26 = .ok (.bipush (-2), 2) := by decide +kernel
theorem dX10_best_28 : decode cX10_best 28 = .ok (.ireturn, 1) := by decide +kernel
theorem dX10_best_29 : decode cX10_best 29 = .ok (.aload_n 0, 1) := by decide +kernel
theorem dX10_best_30 : decode cX10_best 30 = .ok (.getfield 146, 3) := by decide +kernel
theorem dX10_best_33 : decode cX10_best 33 = .ok (.ifCond .ne 6, 3) := by decide +kernel
theorem dX10_best_36 : decode cX10_best 36 = .ok (.bipush (-3), 2) := by decide +kernel
theorem dX10_best_38 : decode cX10_best 38 = .ok (.ireturn, 1) := by decide +kernel
theorem dX10_best_39 : decode cX10_best 39 = .ok (.iconst (-1), 1) := by decide +kernel
theorem dX10_best_40 : decode cX10_best 40 = .ok (.istore 4, 2) := by decide +kernel
theorem dX10_best_42 : decode cX10_best 42 = .ok (.iconst 0, 1) := by decide +kernel
theorem dX10_best_43 : decode cX10_best 43 = .ok (.istore 5, 2) := by decide +kernel
theorem dX10_best_45 : decode cX10_best 45 = .ok (.iconst 0, 1) := by decide +kernel
theorem dX10_best_46 : decode cX10_best 46 = .ok (.istore 6, 2) := by decide +kernel
theorem dX10_best_48 : decode cX10_best 48 = .ok (.iconst 1, 1) := by decide +kernel
theorem dX10_best_49 : decode cX10_best 49 = .ok (.istore 7, 2) := by decide +kernel
theorem dX10_best_51 : decode cX10_best 51 = .ok (.iload 7, 2) := by decide +kernel
theorem dX10_best_53 : decode cX10_best 53 = .ok (.bipush 40, 2) := by decide +kernel
theorem dX10_best_55 : decode cX10_best 55 = .ok (.if_icmp .gt 56, 3) := by decide +kernel
theorem dX10_best_58 : decode cX10_best 58 = .ok (.iconst 0, 1) := by decide +kernel
theorem dX10_best_59 : decode cX10_best 59 = .ok (.istore 8, 2) := by decide +kernel
theorem dX10_best_61 : decode cX10_best 61 = .ok (.iload 8, 2) := by decide +kernel
theorem dX10_best_63 : decode cX10_best 63 = .ok (.bipush 24, 2) := by decide +kernel
theorem dX10_best_65 : decode cX10_best 65 = .ok (.if_icmp .ge 40, 3) := by decide +kernel
theorem dX10_best_68 : decode cX10_best 68 = .ok (.aload_n 0, 1) := by decide +kernel
theorem dX10_best_69 : decode cX10_best 69 = .ok (.iload_n 1, 1) := by decide +kernel
theorem dX10_best_70 : decode cX10_best 70 = .ok (.iload 8, 2) := by decide +kernel
theorem dX10_best_72 : decode cX10_best 72 = .ok (.iload 7, 2) := by decide +kernel
theorem dX10_best_74 : decode cX10_best 74 = .ok (.iload_n 2, 1) := by decide +kernel
theorem dX10_best_75 : decode cX10_best 75 = .ok (.invokevirtual 176, 3) := by decide +kernel
theorem dX10_best_78 : decode cX10_best 78 = .ok (.istore 9, 2) := by decide +kernel
theorem dX10_best_80 : decode cX10_best 80 = .ok (.iload 9, 2) := by decide +kernel
theorem dX10_best_82 : decode cX10_best 82 = .ok (.iload 4, 2) := by decide +kernel
theorem dX10_best_84 : decode cX10_best 84 = .ok (.if_icmp .le 15, 3) := by decide +kernel
theorem dX10_best_87 : decode cX10_best 87 = .ok (.iload 9, 2) := by decide +kernel
theorem dX10_best_89 : decode cX10_best 89 = .ok (.istore 4, 2) := by decide +kernel
theorem dX10_best_91 : decode cX10_best 91 = .ok (.iload 7, 2) := by decide +kernel
theorem dX10_best_93 : decode cX10_best 93 = .ok (.istore 5, 2) := by decide +kernel
theorem dX10_best_95 : decode cX10_best 95 = .ok (.iload 8, 2) := by decide +kernel
theorem dX10_best_97 : decode cX10_best 97 = .ok (.istore 6, 2) := by decide +kernel
theorem dX10_best_99 : decode cX10_best 99 = .ok (.iinc 8 1, 3) := by decide +kernel
theorem dX10_best_102 : decode cX10_best 102 = .ok (.goto (-41), 3) := by decide +kernel
theorem dX10_best_105 : decode cX10_best 105 = .ok (.iinc 7 1, 3) := by decide +kernel
theorem dX10_best_108 : decode cX10_best 108 = .ok (.goto (-57), 3) := by decide +kernel
theorem dX10_best_111 : decode cX10_best 111 = .ok (.iload_n 3, 1) := by decide +kernel
theorem dX10_best_112 : decode cX10_best 112 = .ok (.ifCond .ne 8, 3) := by decide +kernel
theorem dX10_best_115 : decode cX10_best 115 = .ok (.iload 5, 2) := by decide +kernel
theorem dX10_best_117 : decode cX10_best 117 = .ok (.goto 5, 3) := by decide +kernel
theorem dX10_best_120 : decode cX10_best 120 = .ok (.iload 6, 2) := by decide +kernel
theorem dX10_best_122 : decode cX10_best 122 = .ok (.ireturn, 1) := by decide +kernel
theorem dX10_isCell_0 : decode cX10_isCell 0 = .ok (.iload_n 1, 1) := by decide +kernel
theorem dX10_isCell_1 : decode cX10_isCell 1 = .ok (.ifCond .lt 20, 3) := by decide +kernel
theorem dX10_isCell_4 : decode cX10_isCell 4 = .ok (.iload_n 1, 1) := by decide +kernel
theorem dX10_isCell_5 : decode cX10_isCell 5 = .ok (.aload_n 0, 1) := by decide +kernel
theorem dX10_isCell_6 : decode cX10_isCell 6 = .ok (.getfield 182, 3) := by decide +kernel
theorem dX10_isCell_9 : decode cX10_isCell 9 = .ok (.aload_n 0, 1) := by decide +kernel
theorem dX10_isCell_10 : decode cX10_isCell 10 = .ok (.getfield 185, 3) := by decide +kernel
theorem dX10_isCell_13 : decode cX10_isCell 13 = .ok (.imul, 1) := by decide +kernel
theorem dX10_isCell_14 : decode cX10_isCell 14 = .ok (.if_icmp .ge 7, 3) := by decide +kernel
theorem dX10_isCell_17 : decode cX10_isCell 17 = .ok (.iconst 1, 1) := by decide +kernel
theorem dX10_isCell_18 : decode cX10_isCell 18 = .ok (.goto 4, 3) := by decide +kernel
theorem dX10_isCell_21 : decode cX10_isCell 21 = .ok (.iconst 0, 1) := by decide +kernel
theorem dX10_isCell_22 : decode cX10_isCell 22 = .ok (.ireturn, 1) := by decide +kernel
set_option maxRecDepth 20000 in
theorem ggX10_board_X10_isSheet : GoodIn wsX10_board wsX10_isSheet := goodIn_r _ [12, 13, 14, 11, 15] (by decide +kernel) (by decide +kernel)
set_option maxRecDepth 20000 in
theorem gX10_board_X10_isSheet : GoodIn wsX10_board (va_wsS RX10 130 yX10_isSheet wsX10_isSheet) := goodIn_app (goodIn_of _ (by decide +kernel)) ggX10_board_X10_isSheet
set_option maxRecDepth 20000 in
theorem ggX10_board_X10_isSort : GoodIn wsX10_board wsX10_isSort := goodIn_r _ [18, 13, 14, 11, 15] (by decide +kernel) (by decide +kernel)
set_option maxRecDepth 20000 in
theorem gX10_board_X10_isSort : GoodIn wsX10_board (va_wsS RX10 133 yX10_isSort wsX10_isSort) := goodIn_app (goodIn_of _ (by decide +kernel)) ggX10_board_X10_isSort
set_option maxRecDepth 20000 in
theorem ggX10_board_X10_against : GoodIn wsX10_board wsX10_against := goodIn_r _ [22, 23, 24, 45, 46, 47, 48, 49, 50, 51, 52, 53, 54, 55, 56, 57, 58, 59, 60, 61, 62, 63, 64, 65, 66, 67, 68, 69, 70, 71, 72, 73, 74, 75, 76, 77] (by decide +kernel) (by decide +kernel)
set_option maxRecDepth 20000 in
theorem gX10_board_X10_against : GoodIn wsX10_board (wsV RX10 136 RX10 yX10_against wsX10_against) := goodIn_app (goodIn_of _ (by decide +kernel)) ggX10_board_X10_against
set_option maxRecDepth 20000 in
theorem ggX10_board_X10_fails : GoodIn wsX10_board wsX10_fails := goodIn_r _ [28, 1, 45, 46, 47, 48, 49, 50, 51, 52, 53, 54, 55, 56, 57, 58, 59, 60, 61, 62, 63, 64, 65, 66, 67, 68, 69, 70, 71, 72, 73, 74, 75, 76, 77] (by decide +kernel) (by decide +kernel)
set_option maxRecDepth 20000 in
theorem gX10_board_X10_fails : GoodIn wsX10_board (wsV RX10 140 RX10 yX10_fails wsX10_fails) := goodIn_app (goodIn_of _ (by decide +kernel)) ggX10_board_X10_fails
set_option maxRecDepth 20000 in
theorem ggX10_board_X10_readBoard : GoodIn wsX10_board wsX10_readBoard := goodIn_r _ [32, 2, 3, 5, 33, 8, 34, 35, 36, 11, 37, 38, 39, 40, 41, 13, 14, 15, 42, 43, 44, 45, 46, 47, 48, 49, 50, 51, 52, 53, 54, 55, 56, 57, 58, 59, 60, 61, 62, 63, 64, 65, 66, 67, 68, 69, 70, 71, 72, 73, 74, 75, 76, 77] (by decide +kernel) (by decide +kernel)
set_option maxRecDepth 20000 in
theorem gX10_board_X10_readBoard : GoodIn wsX10_board (wsV RX10 188 RX10 yX10_readBoard wsX10_readBoard) := goodIn_app (goodIn_of _ (by decide +kernel)) ggX10_board_X10_readBoard
theorem dX10_board_0 : decode cX10_board 0 = .ok (.aload_n 0, 1) := by decide +kernel
theorem dX10_board_1 : decode cX10_board 1 = .ok (.iconst 0, 1) := by decide +kernel
theorem dX10_board_2 : decode cX10_board 2 = .ok (.putfield 71, 3) := by decide +kernel
theorem dX10_board_5 : decode cX10_board 5 = .ok (.iload_n 1, 1) := by decide +kernel
theorem dX10_board_6 : decode cX10_board 6 = .ok (.invokestatic 130, 3) := by decide +kernel
theorem dX10_board_9 : decode cX10_board 9 = .ok (.ifCond .ne 5, 3) := by decide +kernel
theorem dX10_board_12 : decode cX10_board 12 = .ok (.iconst (-1), 1) := by decide +kernel
theorem dX10_board_13 : decode cX10_board 13 = .ok (.ireturn, 1) := by decide +kernel
theorem dX10_board_14 : decode cX10_board 14 = .ok (.iload_n 2, 1) := by decide +kernel
theorem dX10_board_15 : decode cX10_board 15 = .ok (.invokestatic 133, 3) := by decide +kernel
theorem dX10_board_18 : decode cX10_board 18 = .ok (.ifCond .ne 6, 3) := by decide +kernel
theorem dX10_board_21 : decode cX10_board 21 = .ok (.bipush (-2), 2) := by decide +kernel
theorem dX10_board_23 : decode cX10_board 23 = .ok (.ireturn, 1) := by decide +kernel
theorem dX10_board_24 : decode cX10_board 24 = .ok (.aload_n 0, 1) := by decide +kernel
theorem dX10_board_25 : decode cX10_board 25 = .ok (.iload_n 1, 1) := by decide +kernel
theorem dX10_board_26 : decode cX10_board 26 = .ok (.iload_n 2, 1) := by decide +kernel
theorem dX10_board_27 : decode cX10_board 27 = .ok (.iload_n 3, 1) := by decide +kernel
theorem dX10_board_28 : decode cX10_board 28 = .ok (.iload 4, 2) := by decide +kernel
theorem dX10_board_30 : decode cX10_board 30 = .ok (.iconst 1, 1) := by decide +kernel
theorem dX10_board_31 : decode cX10_board 31 = .ok (.invokevirtual 136, 3) := by decide +kernel
theorem dX10_board_34 : decode cX10_board 34 = .ok (.istore 5, 2) := by decide +kernel
theorem dX10_board_36 : decode cX10_board 36 = .ok (.iload 5, 2) := by decide +kernel
theorem dX10_board_38 : decode cX10_board 38 = .ok (.ifCond .eq 10, 3) := by decide +kernel
theorem dX10_board_41 : decode cX10_board 41 = .ok (.aload_n 0, 1) := by decide +kernel
theorem dX10_board_42 : decode cX10_board 42 = .ok (.iload 5, 2) := by decide +kernel
theorem dX10_board_44 : decode cX10_board 44 = .ok (.invokevirtual 140, 3) := by decide +kernel
theorem dX10_board_47 : decode cX10_board 47 = .ok (.ireturn, 1) := by decide +kernel
theorem dX10_board_48 : decode cX10_board 48 = .ok (.bipush 80, 2) := by decide +kernel
theorem dX10_board_50 : decode cX10_board 50 = .ok (.iload_n 1, 1) := by decide +kernel
theorem dX10_board_51 : decode cX10_board 51 = .ok (.imul, 1) := by decide +kernel
theorem dX10_board_52 : decode cX10_board 52 = .ok (.iload_n 3, 1) := by decide +kernel
theorem dX10_board_53 : decode cX10_board 53 = .ok (.iadd, 1) := by decide +kernel
theorem dX10_board_54 : decode cX10_board 54 = .ok (.istore 6, 2) := by decide +kernel
theorem dX10_board_56 : decode cX10_board 56 = .ok (.aload_n 0, 1) := by decide +kernel
theorem dX10_board_57 : decode cX10_board 57 = .ok (.iload 6, 2) := by decide +kernel
theorem dX10_board_59 : decode cX10_board 59 = .ok (.putfield 127, 3) := by decide +kernel
theorem dX10_board_62 : decode cX10_board 62 = .ok (.aload_n 0, 1) := by decide +kernel
theorem dX10_board_63 : decode cX10_board 63 = .ok (.iload 6, 2) := by decide +kernel
theorem dX10_board_65 : decode cX10_board 65 = .ok (.iload 4, 2) := by decide +kernel
theorem dX10_board_67 : decode cX10_board 67 = .ok (.iadd, 1) := by decide +kernel
theorem dX10_board_68 : decode cX10_board 68 = .ok (.invokevirtual 188, 3) := by decide +kernel
theorem dX10_board_71 : decode cX10_board 71 = .ok (.ifCond .ne 14, 3) := by decide +kernel
theorem dX10_board_74 : decode cX10_board 74 = .ok (.bipush (-100), 2) := by decide +kernel
theorem dX10_board_76 : decode cX10_board 76 = .ok (.aload_n 0, 1) := by decide +kernel
theorem dX10_board_77 : decode cX10_board 77 = .ok (.getfield 127, 3) := by decide +kernel
theorem dX10_board_80 : decode cX10_board 80 = .ok (.iload 6, 2) := by decide +kernel
theorem dX10_board_82 : decode cX10_board 82 = .ok (.isub, 1) := by decide +kernel
theorem dX10_board_83 : decode cX10_board 83 = .ok (.isub, 1) := by decide +kernel
theorem dX10_board_84 : decode cX10_board 84 = .ok (.ireturn, 1) := by decide +kernel
theorem dX10_board_85 : decode cX10_board 85 = .ok (.aload_n 0, 1) := by decide +kernel
theorem dX10_board_86 : decode cX10_board 86 = .ok (.aload_n 0, 1) := by decide +kernel
theorem dX10_board_87 : decode cX10_board 87 = .ok (.getfield 191, 3) := by decide +kernel
theorem dX10_board_90 : decode cX10_board 90 = .ok (.putfield 182, 3) := by decide +kernel
theorem dX10_board_93 : decode cX10_board 93 = .ok (.aload_n 0, 1) := by decide +kernel
theorem dX10_board_94 : decode cX10_board 94 = .ok (.aload_n 0, 1) := by decide +kernel
theorem dX10_board_95 : decode cX10_board 95 = .ok (.getfield 194, 3) := by decide +kernel
theorem dX10_board_98 : decode cX10_board 98 = .ok (.putfield 185, 3) := by decide +kernel
theorem dX10_board_101 : decode cX10_board 101 = .ok (.iconst 0, 1) := by decide +kernel
theorem dX10_board_102 : decode cX10_board 102 = .ok (.istore 7, 2) := by decide +kernel
theorem dX10_board_104 : decode cX10_board 104 = .ok (.iload 7, 2) := by decide +kernel
theorem dX10_board_106 : decode cX10_board 106 = .ok (.aload_n 0, 1) := by decide +kernel
theorem dX10_board_107 : decode cX10_board 107 = .ok (.getfield 182, 3) := by decide +kernel
theorem dX10_board_110 : decode cX10_board 110 = .ok (.aload_n 0, 1) := by decide +kernel
theorem dX10_board_111 : decode cX10_board 111 = .ok (.getfield 185, 3) := by decide +kernel
theorem dX10_board_114 : decode cX10_board 114 = .ok (.imul, 1) := by decide +kernel
theorem dX10_board_115 : decode cX10_board 115 = .ok (.if_icmp .ge 23, 3) := by decide +kernel
theorem dX10_board_118 : decode cX10_board 118 = .ok (.aload_n 0, 1) := by decide +kernel
theorem dX10_board_119 : decode cX10_board 119 = .ok (.getfield 37, 3) := by decide +kernel
theorem dX10_board_122 : decode cX10_board 122 = .ok (.iload 7, 2) := by decide +kernel
theorem dX10_board_124 : decode cX10_board 124 = .ok (.aload_n 0, 1) := by decide +kernel
theorem dX10_board_125 : decode cX10_board 125 = .ok (.getfield 40, 3) := by decide +kernel
theorem dX10_board_128 : decode cX10_board 128 = .ok (.iload 7, 2) := by decide +kernel
theorem dX10_board_130 : decode cX10_board 130 = .ok (.iaload, 1) := by decide +kernel
theorem dX10_board_131 : decode cX10_board 131 = .ok (.iastore, 1) := by decide +kernel
theorem dX10_board_132 : decode cX10_board 132 = .ok (.iinc 7 1, 3) := by decide +kernel
theorem dX10_board_135 : decode cX10_board 135 = .ok (.goto (-31), 3) := by decide +kernel
theorem dX10_board_138 : decode cX10_board 138 = .ok (.aload_n 0, 1) := by decide +kernel
theorem dX10_board_139 : decode cX10_board 139 = .ok (.getfield 182, 3) := by decide +kernel
theorem dX10_board_142 : decode cX10_board 142 = .ok (.aload_n 0, 1) := by decide +kernel
theorem dX10_board_143 : decode cX10_board 143 = .ok (.getfield 185, 3) := by decide +kernel
theorem dX10_board_146 : decode cX10_board 146 = .ok (.imul, 1) := by decide +kernel
theorem dX10_board_147 : decode cX10_board 147 = .ok (.ireturn, 1) := by decide +kernel
theorem dX10_letterOf_0 : decode cX10_letterOf 0 = .ok (.iload_n 0, 1) := by decide +kernel
theorem dX10_letterOf_1 : decode cX10_letterOf 1 = .ok (.lookupswitch 51 #[(107, 45), (119, 43), (120, 47), (121, 49)], 43) := by decide +kernel
theorem dX10_letterOf_44 : decode cX10_letterOf 44 = .ok (.iconst 0, 1) := by decide +kernel
theorem dX10_letterOf_45 : decode cX10_letterOf 45 = .ok (.ireturn, 1) := by decide +kernel
theorem dX10_letterOf_46 : decode cX10_letterOf 46 = .ok (.iconst 1, 1) := by decide +kernel
theorem dX10_letterOf_47 : decode cX10_letterOf 47 = .ok (.ireturn, 1) := by decide +kernel
theorem dX10_letterOf_48 : decode cX10_letterOf 48 = .ok (.iconst 2, 1) := by decide +kernel
theorem dX10_letterOf_49 : decode cX10_letterOf 49 = .ok (.ireturn, 1) := by decide +kernel
theorem dX10_letterOf_50 : decode cX10_letterOf 50 = .ok (.iconst 3, 1) := by decide +kernel
theorem dX10_letterOf_51 : decode cX10_letterOf 51 = .ok (.ireturn, 1) := by decide +kernel
theorem dX10_letterOf_52 : decode cX10_letterOf 52 = .ok (.bipush (-9), 2) := by decide +kernel
theorem dX10_letterOf_54 : decode cX10_letterOf 54 = .ok (.ireturn, 1) := by decide +kernel
set_option maxRecDepth 20000 in
theorem ggX10_readBoard_X10_isCode : GoodIn wsX10_readBoard wsX10_isCode := goodIn_r _ [10, 1, 4, 21, 22, 23, 24, 25, 26, 27, 28, 29, 30, 31, 32, 33, 34, 35, 36, 37, 38, 39, 40, 41, 42, 43, 44, 45, 46, 47, 48, 49, 50, 51, 52, 53] (by decide +kernel) (by decide +kernel)
set_option maxRecDepth 20000 in
theorem gX10_readBoard_X10_isCode : GoodIn wsX10_readBoard (wsV RX10 156 RX10 yX10_isCode wsX10_isCode) := goodIn_app (goodIn_of _ (by decide +kernel)) ggX10_readBoard_X10_isCode
set_option maxRecDepth 20000 in
theorem ggX10_readBoard_X10_digitAt : GoodIn wsX10_readBoard wsX10_digitAt := goodIn_r _ [14, 4, 15, 16, 9, 17, 21, 22, 23, 24, 25, 26, 27, 28, 29, 30, 31, 32, 33, 34, 35, 36, 37, 38, 39, 40, 41, 42, 43, 44, 45, 46, 47, 48, 49, 50, 51, 52, 53] (by decide +kernel) (by decide +kernel)
set_option maxRecDepth 20000 in
theorem gX10_readBoard_X10_digitAt : GoodIn wsX10_readBoard (wsV RX10 163 RX10 yX10_digitAt wsX10_digitAt) := goodIn_app (goodIn_of _ (by decide +kernel)) ggX10_readBoard_X10_digitAt
set_option maxRecDepth 20000 in
theorem ggX10_readBoard_X10_within : GoodIn wsX10_readBoard wsX10_within := goodIn_r _ [17] (by decide +kernel) (by decide +kernel)
set_option maxRecDepth 20000 in
theorem gX10_readBoard_X10_within : GoodIn wsX10_readBoard (va_wsS RX10 81 yX10_within wsX10_within) := goodIn_app (goodIn_of _ (by decide +kernel)) ggX10_readBoard_X10_within
set_option maxRecDepth 20000 in
theorem ggX10_readBoard_X10_letterOf : GoodIn wsX10_readBoard wsX10_letterOf := goodIn_r _ [20] (by decide +kernel) (by decide +kernel)
set_option maxRecDepth 20000 in
theorem gX10_readBoard_X10_letterOf : GoodIn wsX10_readBoard (va_wsS RX10 197 yX10_letterOf wsX10_letterOf) := goodIn_app (goodIn_of _ (by decide +kernel)) ggX10_readBoard_X10_letterOf
theorem dX10_readBoard_0 : decode cX10_readBoard 0 = .ok (.aload_n 0, 1) := by decide +kernel
theorem dX10_readBoard_1 : decode cX10_readBoard 1 = .ok (.bipush 98, 2) := by decide +kernel
theorem dX10_readBoard_3 : decode cX10_readBoard 3 = .ok (.iload_n 1, 1) := by decide +kernel
theorem dX10_readBoard_4 : decode cX10_readBoard 4 = .ok (.invokevirtual 156, 3) := by decide +kernel
theorem dX10_readBoard_7 : decode cX10_readBoard 7 = .ok (.ifCond .ne 5, 3) := by decide +kernel
theorem dX10_readBoard_10 : decode cX10_readBoard 10 = .ok (.iconst 0, 1) := by decide +kernel
theorem dX10_readBoard_11 : decode cX10_readBoard 11 = .ok (.ireturn, 1) := by decide +kernel
theorem dX10_readBoard_12 : decode cX10_readBoard 12 = .ok (.aload_n 0, 1) := by decide +kernel
theorem dX10_readBoard_13 : decode cX10_readBoard 13 = .ok (.dup, 1) := by decide +kernel
theorem dX10_readBoard_14 : decode cX10_readBoard 14 = .ok (.getfield 127, 3) := by decide +kernel
theorem dX10_readBoard_17 : decode cX10_readBoard 17 = .ok (.iconst 1, 1) := by decide +kernel
theorem dX10_readBoard_18 : decode cX10_readBoard 18 = .ok (.iadd, 1) := by decide +kernel
theorem dX10_readBoard_19 : decode cX10_readBoard 19 = .ok (.putfield 127, 3) := by decide +kernel
theorem dX10_readBoard_22 : decode cX10_readBoard 22 = .ok (.aload_n 0, 1) := by decide +kernel
theorem dX10_readBoard_23 : decode cX10_readBoard 23 = .ok (.aload_n 0, 1) := by decide +kernel
theorem dX10_readBoard_24 : decode cX10_readBoard 24 = .ok (.aload_n 0, 1) := by decide +kernel
theorem dX10_readBoard_25 : decode cX10_readBoard 25 = .ok (.getfield 127, 3) := by decide +kernel
theorem dX10_readBoard_28 : decode cX10_readBoard 28 = .ok (.iload_n 1, 1) := by decide +kernel
theorem dX10_readBoard_29 : decode cX10_readBoard 29 = .ok (.invokevirtual 163, 3) := by decide +kernel
theorem dX10_readBoard_32 : decode cX10_readBoard 32 = .ok (.putfield 191, 3) := by decide +kernel
theorem dX10_readBoard_35 : decode cX10_readBoard 35 = .ok (.aload_n 0, 1) := by decide +kernel
theorem dX10_readBoard_36 : decode cX10_readBoard 36 = .ok (.getfield 191, 3) := by decide +kernel
theorem dX10_readBoard_39 : decode cX10_readBoard 39 = .ok (.iconst 1, 1) := by decide +kernel
theorem dX10_readBoard_40 : decode cX10_readBoard 40 = .ok (.bipush 6, 2) := by decide +kernel
theorem dX10_readBoard_42 : decode cX10_readBoard 42 = .ok (.invokestatic 81, 3) := by decide +kernel
theorem dX10_readBoard_45 : decode cX10_readBoard 45 = .ok (.ifCond .ne 5, 3) := by decide +kernel
theorem dX10_readBoard_48 : decode cX10_readBoard 48 = .ok (.iconst 0, 1) := by decide +kernel
theorem dX10_readBoard_49 : decode cX10_readBoard 49 = .ok (.ireturn, 1) := by decide +kernel
theorem dX10_readBoard_50 : decode cX10_readBoard 50 = .ok (.aload_n 0, 1) := by decide +kernel
theorem dX10_readBoard_51 : decode cX10_readBoard 51 = .ok (.dup, 1) := by decide +kernel
