theorem dX0_init_0 : decode cX0_init 0 = .ok (.aload_n 0, 1) := by decide +kernel
theorem dX0_init_1 : decode cX0_init 1 = .ok (.invokespecial 3, 3) := by decide +kernel
theorem dX0_init_4 : decode cX0_init 4 = .ok (.aload_n 0, 1) := by decide +kernel
theorem dX0_init_5 : decode cX0_init 5 = .ok (.bipush 36, 2) := by decide +kernel
theorem dX0_init_7 : decode cX0_init 7 = .ok (.newarray .int, 2) := by decide +kernel
theorem dX0_init_9 : decode cX0_init 9 = .ok (.putfield 9, 3) := by decide +kernel
theorem dX0_init_12 : decode cX0_init 12 = .ok (.aload_n 0, 1) := by decide +kernel
theorem dX0_init_13 : decode cX0_init 13 = .ok (.iconst 0, 1) := by decide +kernel
theorem dX0_init_14 : decode cX0_init 14 = .ok (.putfield 15, 3) := by decide +kernel
theorem dX0_init_17 : decode cX0_init 17 = .ok (.aload_n 0, 1) := by decide +kernel
theorem dX0_init_18 : decode cX0_init 18 = .ok (.iconst 0, 1) := by decide +kernel
theorem dX0_init_19 : decode cX0_init 19 = .ok (.putfield 19, 3) := by decide +kernel
theorem dX0_init_22 : decode cX0_init 22 = .ok (.return_, 1) := by decide +kernel
set_option maxRecDepth 20000 in
theorem ggX0_firstFault_X0_goesOn : GoodIn wsX0_firstFault wsX0_goesOn := goodIn_r _ [4, 5, 6, 7, 8, 9, 3, 10] (by decide +kernel) (by decide +kernel)
set_option maxRecDepth 20000 in
theorem gX0_firstFault_X0_goesOn : GoodIn wsX0_firstFault (va_wsS RX0 22 yX0_goesOn wsX0_goesOn) := goodIn_app (goodIn_of _ (by decide +kernel)) ggX0_firstFault_X0_goesOn
theorem dX0_firstFault_0 : decode cX0_firstFault 0 = .ok (.iconst 0, 1) := by decide +kernel
theorem dX0_firstFault_1 : decode cX0_firstFault 1 = .ok (.istore_n 2, 1) := by decide +kernel
theorem dX0_firstFault_2 : decode cX0_firstFault 2 = .ok (.iload_n 2, 1) := by decide +kernel
theorem dX0_firstFault_3 : decode cX0_firstFault 3 = .ok (.iload_n 1, 1) := by decide +kernel
theorem dX0_firstFault_4 : decode cX0_firstFault 4 = .ok (.if_icmp .ge 19, 3) := by decide +kernel
theorem dX0_firstFault_7 : decode cX0_firstFault 7 = .ok (.aload_n 0, 1) := by decide +kernel
theorem dX0_firstFault_8 : decode cX0_firstFault 8 = .ok (.iload_n 2, 1) := by decide +kernel
theorem dX0_firstFault_9 : decode cX0_firstFault 9 = .ok (.invokestatic 22, 3) := by decide +kernel
theorem dX0_firstFault_12 : decode cX0_firstFault 12 = .ok (.ifCond .ne 5, 3) := by decide +kernel
theorem dX0_firstFault_15 : decode cX0_firstFault 15 = .ok (.iload_n 2, 1) := by decide +kernel
theorem dX0_firstFault_16 : decode cX0_firstFault 16 = .ok (.ireturn, 1) := by decide +kernel
theorem dX0_firstFault_17 : decode cX0_firstFault 17 = .ok (.iinc 2 1, 3) := by decide +kernel
theorem dX0_firstFault_20 : decode cX0_firstFault 20 = .ok (.goto (-18), 3) := by decide +kernel
theorem dX0_firstFault_23 : decode cX0_firstFault 23 = .ok (.iload_n 1, 1) := by decide +kernel
theorem dX0_firstFault_24 : decode cX0_firstFault 24 = .ok (.iconst 3, 1) := by decide +kernel
theorem dX0_firstFault_25 : decode cX0_firstFault 25 = .ok (.if_icmp .ge 5, 3) := by decide +kernel
theorem dX0_firstFault_28 : decode cX0_firstFault 28 = .ok (.iload_n 1, 1) := by decide +kernel
theorem dX0_firstFault_29 : decode cX0_firstFault 29 = .ok (.ireturn, 1) := by decide +kernel
theorem dX0_firstFault_30 : decode cX0_firstFault 30 = .ok (.iload_n 1, 1) := by decide +kernel
theorem dX0_firstFault_31 : decode cX0_firstFault 31 = .ok (.iconst 3, 1) := by decide +kernel
theorem dX0_firstFault_32 : decode cX0_firstFault 32 = .ok (.aload_n 0, 1) := by decide +kernel
theorem dX0_firstFault_33 : decode cX0_firstFault 33 = .ok (.iconst 1, 1) := by decide +kernel
theorem dX0_firstFault_34 : decode cX0_firstFault 34 = .ok (.iaload, 1) := by decide +kernel
theorem dX0_firstFault_35 : decode cX0_firstFault 35 = .ok (.bipush 48, 2) := by decide +kernel
theorem dX0_firstFault_37 : decode cX0_firstFault 37 = .ok (.isub, 1) := by decide +kernel
theorem dX0_firstFault_38 : decode cX0_firstFault 38 = .ok (.aload_n 0, 1) := by decide +kernel
theorem dX0_firstFault_39 : decode cX0_firstFault 39 = .ok (.iconst 2, 1) := by decide +kernel
theorem dX0_firstFault_40 : decode cX0_firstFault 40 = .ok (.iaload, 1) := by decide +kernel
theorem dX0_firstFault_41 : decode cX0_firstFault 41 = .ok (.bipush 48, 2) := by decide +kernel
theorem dX0_firstFault_43 : decode cX0_firstFault 43 = .ok (.isub, 1) := by decide +kernel
theorem dX0_firstFault_44 : decode cX0_firstFault 44 = .ok (.iconst 1, 1) := by decide +kernel
theorem dX0_firstFault_45 : decode cX0_firstFault 45 = .ok (.iadd, 1) := by decide +kernel
theorem dX0_firstFault_46 : decode cX0_firstFault 46 = .ok (.imul, 1) := by decide +kernel
theorem dX0_firstFault_47 : decode cX0_firstFault 47 = .ok (.iadd, 1) := by decide +kernel
theorem dX0_firstFault_48 : decode cX0_firstFault 48 = .ok (.if_icmp .ne 8, 3) := by decide +kernel
theorem dX0_firstFault_51 : decode cX0_firstFault 51 = .ok (.bipush (-9), 2) := by decide +kernel
theorem dX0_firstFault_53 : decode cX0_firstFault 53 = .ok (.goto 4, 3) := by decide +kernel
theorem dX0_firstFault_56 : decode cX0_firstFault 56 = .ok (.iload_n 1, 1) := by decide +kernel
theorem dX0_firstFault_57 : decode cX0_firstFault 57 = .ok (.ireturn, 1) := by decide +kernel
set_option maxRecDepth 20000 in
theorem ggX0_goesOn_X9_within : GoodIn wsX0_goesOn wsX9_within := goodIn_r _ [3] (by decide +kernel) (by decide +kernel)
set_option maxRecDepth 20000 in
theorem gX0_goesOn_X9_within_n26 : GoodIn wsX0_goesOn (wsX9_within) := ggX0_goesOn_X9_within
set_option maxRecDepth 20000 in
theorem ggX0_goesOn_X0_letterOf : GoodIn wsX0_goesOn wsX0_letterOf := goodIn_r _ [7] (by decide +kernel) (by decide +kernel)
set_option maxRecDepth 20000 in
theorem gX0_goesOn_X0_letterOf : GoodIn wsX0_goesOn (va_wsS RX0 30 yX0_letterOf wsX0_letterOf) := goodIn_app (goodIn_of _ (by decide +kernel)) ggX0_goesOn_X0_letterOf
theorem dX0_goesOn_0 : decode cX0_goesOn 0 = .ok (.iload_n 1, 1) := by decide +kernel
theorem dX0_goesOn_1 : decode cX0_goesOn 1 = .ok (.aload_n 0, 1) := by decide +kernel
theorem dX0_goesOn_2 : decode cX0_goesOn 2 = .ok (.arraylength, 1) := by decide +kernel
theorem dX0_goesOn_3 : decode cX0_goesOn 3 = .ok (.if_icmp .lt 5, 3) := by decide +kernel
theorem dX0_goesOn_6 : decode cX0_goesOn 6 = .ok (.iconst 0, 1) := by decide +kernel
theorem dX0_goesOn_7 : decode cX0_goesOn 7 = .ok (.ireturn, 1) := by decide +kernel
theorem dX0_goesOn_8 : decode cX0_goesOn 8 = .ok (.aload_n 0, 1) := by decide +kernel
theorem dX0_goesOn_9 : decode cX0_goesOn 9 = .ok (.iload_n 1, 1) := by decide +kernel
theorem dX0_goesOn_10 : decode cX0_goesOn 10 = .ok (.iaload, 1) := by decide +kernel
theorem dX0_goesOn_11 : decode cX0_goesOn 11 = .ok (.istore_n 2, 1) := by decide +kernel
theorem dX0_goesOn_12 : decode cX0_goesOn 12 = .ok (.iload_n 1, 1) := by decide +kernel
theorem dX0_goesOn_13 : decode cX0_goesOn 13 = .ok (.ifCond .ne 15, 3) := by decide +kernel
theorem dX0_goesOn_16 : decode cX0_goesOn 16 = .ok (.iload_n 2, 1) := by decide +kernel
theorem dX0_goesOn_17 : decode cX0_goesOn 17 = .ok (.bipush 98, 2) := by decide +kernel
theorem dX0_goesOn_19 : decode cX0_goesOn 19 = .ok (.if_icmp .ne 7, 3) := by decide +kernel
theorem dX0_goesOn_22 : decode cX0_goesOn 22 = .ok (.iconst 1, 1) := by decide +kernel
theorem dX0_goesOn_23 : decode cX0_goesOn 23 = .ok (.goto 4, 3) := by decide +kernel
theorem dX0_goesOn_26 : decode cX0_goesOn 26 = .ok (.iconst 0, 1) := by decide +kernel
theorem dX0_goesOn_27 : decode cX0_goesOn 27 = .ok (.ireturn, 1) := by decide +kernel
theorem dX0_goesOn_28 : decode cX0_goesOn 28 = .ok (.iload_n 1, 1) := by decide +kernel
theorem dX0_goesOn_29 : decode cX0_goesOn 29 = .ok (.iconst 3, 1) := by decide +kernel
theorem dX0_goesOn_30 : decode cX0_goesOn 30 = .ok (.if_icmp .ge 12, 3) := by decide +kernel
theorem dX0_goesOn_33 : decode cX0_goesOn 33 = .ok (.iload_n 2, 1) := by decide +kernel
theorem dX0_goesOn_34 : decode cX0_goesOn 34 = .ok (.bipush 49, 2) := by decide +kernel
theorem dX0_goesOn_36 : decode cX0_goesOn 36 = .ok (.bipush 54, 2) := by decide +kernel
theorem dX0_goesOn_38 : decode cX0_goesOn 38 = .ok (.invokestatic 26, 3) := by decide +kernel
theorem dX0_goesOn_41 : decode cX0_goesOn 41 = .ok (.ireturn, 1) := by decide +kernel
theorem dX0_goesOn_42 : decode cX0_goesOn 42 = .ok (.aload_n 0, 1) := by decide +kernel
theorem dX0_goesOn_43 : decode cX0_goesOn 43 = .ok (.iconst 2, 1) := by decide +kernel
theorem dX0_goesOn_44 : decode cX0_goesOn 44 = .ok (.iaload, 1) := by decide +kernel
theorem dX0_goesOn_45 : decode cX0_goesOn 45 = .ok (.bipush 48, 2) := by decide +kernel
theorem dX0_goesOn_47 : decode cX0_goesOn 47 = .ok (.isub, 1) := by decide +kernel
theorem dX0_goesOn_48 : decode cX0_goesOn 48 = .ok (.iconst 1, 1) := by decide +kernel
theorem dX0_goesOn_49 : decode cX0_goesOn 49 = .ok (.iadd, 1) := by decide +kernel
theorem dX0_goesOn_50 : decode cX0_goesOn 50 = .ok (.istore_n 3, 1) := by decide +kernel
theorem dX0_goesOn_51 : decode cX0_goesOn 51 = .ok (.iload_n 3, 1) := by decide +kernel
theorem dX0_goesOn_52 : decode cX0_goesOn 52 = .ok (.iconst 2, 1) := by decide +kernel
theorem dX0_goesOn_53 : decode cX0_goesOn 53 = .ok (.if_icmp .ge 5, 3) := by decide +kernel
theorem dX0_goesOn_56 : decode cX0_goesOn 56 = .ok (.iconst 0, 1) := by decide +kernel
theorem dX0_goesOn_57 : decode cX0_goesOn 57 = .ok (.ireturn, 1) := by decide +kernel
theorem dX0_goesOn_58 : decode cX0_goesOn 58 = .ok (.iload_n 1, 1) := by decide +kernel
theorem dX0_goesOn_59 : decode cX0_goesOn 59 = .ok (.iconst 3, 1) := by decide +kernel
theorem dX0_goesOn_60 : decode cX0_goesOn 60 = .ok (.isub, 1) := by decide +kernel
theorem dX0_goesOn_61 : decode cX0_goesOn 61 = .ok (.iload_n 3, 1) := by decide +kernel
theorem dX0_goesOn_62 : decode cX0_goesOn 62 = .ok (.idiv, 1) := by decide +kernel
theorem dX0_goesOn_63 : decode cX0_goesOn 63 = .ok (.istore 4, 2) := by decide +kernel
theorem dX0_goesOn_65 : decode cX0_goesOn 65 = .ok (.iload_n 1, 1) := by decide +kernel
theorem dX0_goesOn_66 : decode cX0_goesOn 66 = .ok (.iconst 3, 1) := by decide +kernel
theorem dX0_goesOn_67 : decode cX0_goesOn 67 = .ok (.isub, 1) := by decide +kernel
theorem dX0_goesOn_68 : decode cX0_goesOn 68 = .ok (.iload_n 3, 1) := by decide +kernel
theorem dX0_goesOn_69 : decode cX0_goesOn 69 = .ok (.irem, 1) := by decide +kernel
theorem dX0_goesOn_70 : decode cX0_goesOn 70 = .ok (.istore 5, 2) := by decide +kernel
theorem dX0_goesOn_72 : decode cX0_goesOn 72 = .ok (.iload 4, 2) := by decide +kernel
theorem dX0_goesOn_74 : decode cX0_goesOn 74 = .ok (.aload_n 0, 1) := by decide +kernel
theorem dX0_goesOn_75 : decode cX0_goesOn 75 = .ok (.iconst 1, 1) := by decide +kernel
theorem dX0_goesOn_76 : decode cX0_goesOn 76 = .ok (.iaload, 1) := by decide +kernel
theorem dX0_goesOn_77 : decode cX0_goesOn 77 = .ok (.bipush 48, 2) := by decide +kernel
theorem dX0_goesOn_79 : decode cX0_goesOn 79 = .ok (.isub, 1) := by decide +kernel
theorem dX0_goesOn_80 : decode cX0_goesOn 80 = .ok (.if_icmp .lt 5, 3) := by decide +kernel
theorem dX0_goesOn_83 : decode cX0_goesOn 83 = .ok (.iconst 0, 1) := by decide +kernel
theorem dX0_goesOn_84 : decode cX0_goesOn 84 = .ok (.ireturn, 1) := by decide +kernel
theorem dX0_goesOn_85 : decode cX0_goesOn 85 = .ok (.iload 5, 2) := by decide +kernel
theorem dX0_goesOn_87 : decode cX0_goesOn 87 = .ok (.ifCond .ne 17, 3) := by decide +kernel
theorem dX0_goesOn_90 : decode cX0_goesOn 90 = .ok (.iload_n 2, 1) := by decide +kernel
theorem dX0_goesOn_91 : decode cX0_goesOn 91 = .ok (.bipush 59, 2) := by decide +kernel
theorem dX0_goesOn_93 : decode cX0_goesOn 93 = .ok (.if_icmp .ne 7, 3) := by decide +kernel
theorem dX0_goesOn_96 : decode cX0_goesOn 96 = .ok (.iconst 1, 1) := by decide +kernel
theorem dX0_goesOn_97 : decode cX0_goesOn 97 = .ok (.goto 20, 3) := by decide +kernel
theorem dX0_goesOn_100 : decode cX0_goesOn 100 = .ok (.iconst 0, 1) := by decide +kernel
theorem dX0_goesOn_101 : decode cX0_goesOn 101 = .ok (.goto 16, 3) := by decide +kernel
theorem dX0_goesOn_104 : decode cX0_goesOn 104 = .ok (.iload_n 2, 1) := by decide +kernel
theorem dX0_goesOn_105 : decode cX0_goesOn 105 = .ok (.invokestatic 30, 3) := by decide +kernel
theorem dX0_goesOn_108 : decode cX0_goesOn 108 = .ok (.iconst (-1), 1) := by decide +kernel
theorem dX0_goesOn_109 : decode cX0_goesOn 109 = .ok (.if_icmp .eq 7, 3) := by decide +kernel
theorem dX0_goesOn_112 : decode cX0_goesOn 112 = .ok (.iconst 1, 1) := by decide +kernel
theorem dX0_goesOn_113 : decode cX0_goesOn 113 = .ok (.goto 4, 3) := by decide +kernel
theorem dX0_goesOn_116 : decode cX0_goesOn 116 = .ok (.iconst 0, 1) := by decide +kernel
theorem dX0_goesOn_117 : decode cX0_goesOn 117 = .ok (.ireturn, 1) := by decide +kernel
theorem dX0_letterOf_0 : decode cX0_letterOf 0 = .ok (.iload_n 0, 1) := by decide +kernel
theorem dX0_letterOf_1 : decode cX0_letterOf 1 = .ok (.lookupswitch 51 #[(107, 45), (119, 43), (120, 47), (121, 49)], 43) := by decide +kernel
theorem dX0_letterOf_44 : decode cX0_letterOf 44 = .ok (.iconst 0, 1) := by decide +kernel
theorem dX0_letterOf_45 : decode cX0_letterOf 45 = .ok (.ireturn, 1) := by decide +kernel
theorem dX0_letterOf_46 : decode cX0_letterOf 46 = .ok (.iconst 1, 1) := by decide +kernel
theorem dX0_letterOf_47 : decode cX0_letterOf 47 = .ok (.ireturn, 1) := by decide +kernel
theorem dX0_letterOf_48 : decode cX0_letterOf 48 = .ok (.iconst 2, 1) := by decide +kernel
theorem dX0_letterOf_49 : decode cX0_letterOf 49 = .ok (.ireturn, 1) := by decide +kernel
theorem dX0_letterOf_50 : decode cX0_letterOf 50 = .ok (.iconst 3, 1) := by decide +kernel
theorem dX0_letterOf_51 : decode cX0_letterOf 51 = .ok (.ireturn, 1) := by decide +kernel
theorem dX0_letterOf_52 : decode cX0_letterOf 52 = .ok (.iconst (-1), 1) := by decide +kernel
theorem dX0_letterOf_53 : decode cX0_letterOf 53 = .ok (.ireturn, 1) := by decide +kernel
set_option maxRecDepth 20000 in
theorem ggX0_read_X0_letterOf : GoodIn wsX0_read wsX0_letterOf := goodIn_r _ [7] (by decide +kernel) (by decide +kernel)
set_option maxRecDepth 20000 in
theorem gX0_read_X0_letterOf : GoodIn wsX0_read (va_wsS RX0 30 yX0_letterOf wsX0_letterOf) := goodIn_app (goodIn_of _ (by decide +kernel)) ggX0_read_X0_letterOf
theorem dX0_read_0 : decode cX0_read 0 = .ok (.iload_n 2, 1) := by decide +kernel
theorem dX0_read_1 : decode cX0_read 1 = .ok (.iconst 3, 1) := by decide +kernel
theorem dX0_read_2 : decode cX0_read 2 = .ok (.if_icmp .lt 9, 3) := by decide +kernel
theorem dX0_read_5 : decode cX0_read 5 = .ok (.iload_n 2, 1) := by decide +kernel
theorem dX0_read_6 : decode cX0_read 6 = .ok (.aload_n 1, 1) := by decide +kernel
theorem dX0_read_7 : decode cX0_read 7 = .ok (.arraylength, 1) := by decide +kernel
theorem dX0_read_8 : decode cX0_read 8 = .ok (.if_icmp .le 4, 3) := by decide +kernel
theorem dX0_read_11 : decode cX0_read 11 = .ok (.return_, 1) := by decide +kernel
theorem dX0_read_12 : decode cX0_read 12 = .ok (.aload_n 0, 1) := by decide +kernel
theorem dX0_read_13 : decode cX0_read 13 = .ok (.aload_n 1, 1) := by decide +kernel
theorem dX0_read_14 : decode cX0_read 14 = .ok (.iconst 1, 1) := by decide +kernel
theorem dX0_read_15 : decode cX0_read 15 = .ok (.iaload, 1) := by decide +kernel
theorem dX0_read_16 : decode cX0_read 16 = .ok (.bipush 48, 2) := by decide +kernel
theorem dX0_read_18 : decode cX0_read 18 = .ok (.isub, 1) := by decide +kernel
theorem dX0_read_19 : decode cX0_read 19 = .ok (.putfield 15, 3) := by decide +kernel
theorem dX0_read_22 : decode cX0_read 22 = .ok (.aload_n 0, 1) := by decide +kernel
theorem dX0_read_23 : decode cX0_read 23 = .ok (.aload_n 1, 1) := by decide +kernel
theorem dX0_read_24 : decode cX0_read 24 = .ok (.iconst 2, 1) := by decide +kernel
theorem dX0_read_25 : decode cX0_read 25 = .ok (.iaload, 1) := by decide +kernel
theorem dX0_read_26 : decode cX0_read 26 = .ok (.bipush 48, 2) := by decide +kernel
theorem dX0_read_28 : decode cX0_read 28 = .ok (.isub, 1) := by decide +kernel
theorem dX0_read_29 : decode cX0_read 29 = .ok (.putfield 19, 3) := by decide +kernel
theorem dX0_read_32 : decode cX0_read 32 = .ok (.iconst 0, 1) := by decide +kernel
theorem dX0_read_33 : decode cX0_read 33 = .ok (.istore_n 3, 1) := by decide +kernel
theorem dX0_read_34 : decode cX0_read 34 = .ok (.iconst 3, 1) := by decide +kernel
theorem dX0_read_35 : decode cX0_read 35 = .ok (.istore 4, 2) := by decide +kernel
theorem dX0_read_37 : decode cX0_read 37 = .ok (.iload 4, 2) := by decide +kernel
theorem dX0_read_39 : decode cX0_read 39 = .ok (.iload_n 2, 1) := by decide +kernel
theorem dX0_read_40 : decode cX0_read 40 = .ok (.if_icmp .ge 40, 3) := by decide +kernel
theorem dX0_read_43 : decode cX0_read 43 = .ok (.aload_n 1, 1) := by decide +kernel
theorem dX0_read_44 : decode cX0_read 44 = .ok (.iload 4, 2) := by decide +kernel
theorem dX0_read_46 : decode cX0_read 46 = .ok (.iaload, 1) := by decide +kernel
theorem dX0_read_47 : decode cX0_read 47 = .ok (.bipush 59, 2) := by decide +kernel
theorem dX0_read_49 : decode cX0_read 49 = .ok (.if_icmp .eq 25, 3) := by decide +kernel
theorem dX0_read_52 : decode cX0_read 52 = .ok (.iload_n 3, 1) := by decide +kernel
theorem dX0_read_53 : decode cX0_read 53 = .ok (.bipush 36, 2) := by decide +kernel
theorem dX0_read_55 : decode cX0_read 55 = .ok (.if_icmp .ge 19, 3) := by decide +kernel
theorem dX0_read_58 : decode cX0_read 58 = .ok (.aload_n 0, 1) := by decide +kernel
theorem dX0_read_59 : decode cX0_read 59 = .ok (.getfield 9, 3) := by decide +kernel
theorem dX0_read_62 : decode cX0_read 62 = .ok (.iload_n 3, 1) := by decide +kernel
theorem dX0_read_63 : decode cX0_read 63 = .ok (.iinc 3 1, 3) := by decide +kernel
theorem dX0_read_66 : decode cX0_read 66 = .ok (.aload_n 1, 1) := by decide +kernel
theorem dX0_read_67 : decode cX0_read 67 = .ok (.iload 4, 2) := by decide +kernel
theorem dX0_read_69 : decode cX0_read 69 = .ok (.iaload, 1) := by decide +kernel
theorem dX0_read_70 : decode cX0_read 70 = .ok (.invokestatic 30, 3) := by decide +kernel
theorem dX0_read_73 : decode cX0_read 73 = .ok (.iastore, 1) := by decide +kernel
theorem dX0_read_74 : decode cX0_read 74 = .ok (.iinc 4 1, 3) := by decide +kernel
theorem dX0_read_77 : decode cX0_read 77 = .ok (.goto (-40), 3) := by decide +kernel
theorem dX0_read_80 : decode cX0_read 80 = .ok (.return_, 1) := by decide +kernel
theorem dX0_count_0 : decode cX0_count 0 = .ok (.aload_n 0, 1) := by decide +kernel
theorem dX0_count_1 : decode cX0_count 1 = .ok (.getfield 15, 3) := by decide +kernel
theorem dX0_count_4 : decode cX0_count 4 = .ok (.aload_n 0, 1) := by decide +kernel
theorem dX0_count_5 : decode cX0_count 5 = .ok (.getfield 19, 3) := by decide +kernel
theorem dX0_count_8 : decode cX0_count 8 = .ok (.imul, 1) := by decide +kernel
theorem dX0_count_9 : decode cX0_count 9 = .ok (.ireturn, 1) := by decide +kernel
set_option maxRecDepth 20000 in
theorem ggX0_knows_X0_count : GoodIn wsX0_knows wsX0_count := goodIn_r _ [5, 6, 7, 11, 12, 13] (by decide +kernel) (by decide +kernel)
set_option maxRecDepth 20000 in
theorem gX0_knows_X0_count : GoodIn wsX0_knows (wsV RX0 34 RX0 yX0_count wsX0_count) := goodIn_app (goodIn_of _ (by decide +kernel)) ggX0_knows_X0_count
set_option maxRecDepth 20000 in
theorem ggX0_knows_X9_within : GoodIn wsX0_knows wsX9_within := goodIn_r _ [10] (by decide +kernel) (by decide +kernel)
set_option maxRecDepth 20000 in
theorem gX0_knows_X9_within_n26 : GoodIn wsX0_knows (wsX9_within) := ggX0_knows_X9_within
theorem dX0_knows_0 : decode cX0_knows 0 = .ok (.iload_n 1, 1) := by decide +kernel
theorem dX0_knows_1 : decode cX0_knows 1 = .ok (.iconst 0, 1) := by decide +kernel
theorem dX0_knows_2 : decode cX0_knows 2 = .ok (.aload_n 0, 1) := by decide +kernel
theorem dX0_knows_3 : decode cX0_knows 3 = .ok (.invokevirtual 34, 3) := by decide +kernel
theorem dX0_knows_6 : decode cX0_knows 6 = .ok (.iconst 1, 1) := by decide +kernel
theorem dX0_knows_7 : decode cX0_knows 7 = .ok (.isub, 1) := by decide +kernel
theorem dX0_knows_8 : decode cX0_knows 8 = .ok (.invokestatic 26, 3) := by decide +kernel
theorem dX0_knows_11 : decode cX0_knows 11 = .ok (.ireturn, 1) := by decide +kernel
theorem dX0_isSquare_0 : decode cX0_isSquare 0 = .ok (.aload_n 0, 1) := by decide +kernel
theorem dX0_isSquare_1 : decode cX0_isSquare 1 = .ok (.getfield 15, 3) := by decide +kernel
theorem dX0_isSquare_4 : decode cX0_isSquare 4 = .ok (.aload_n 0, 1) := by decide +kernel
theorem dX0_isSquare_5 : decode cX0_isSquare 5 = .ok (.getfield 19, 3) := by decide +kernel
theorem dX0_isSquare_8 : decode cX0_isSquare 8 = .ok (.if_icmp .ne 7, 3) := by decide +kernel
theorem dX0_isSquare_11 : decode cX0_isSquare 11 = .ok (.iconst 1, 1) := by decide +kernel
theorem dX0_isSquare_12 : decode cX0_isSquare 12 = .ok (.goto 4, 3) := by decide +kernel
theorem dX0_isSquare_15 : decode cX0_isSquare 15 = .ok (.iconst 0, 1) := by decide +kernel
theorem dX0_isSquare_16 : decode cX0_isSquare 16 = .ok (.ireturn, 1) := by decide +kernel
theorem dX0_rowOf_0 : decode cX0_rowOf 0 = .ok (.aload_n 0, 1) := by decide +kernel
theorem dX0_rowOf_1 : decode cX0_rowOf 1 = .ok (.getfield 19, 3) := by decide +kernel
theorem dX0_rowOf_4 : decode cX0_rowOf 4 = .ok (.iconst 1, 1) := by decide +kernel
theorem dX0_rowOf_5 : decode cX0_rowOf 5 = .ok (.if_icmp .ge 7, 3) := by decide +kernel
theorem dX0_rowOf_8 : decode cX0_rowOf 8 = .ok (.iconst 0, 1) := by decide +kernel
theorem dX0_rowOf_9 : decode cX0_rowOf 9 = .ok (.goto 9, 3) := by decide +kernel
theorem dX0_rowOf_12 : decode cX0_rowOf 12 = .ok (.iload_n 1, 1) := by decide +kernel
theorem dX0_rowOf_13 : decode cX0_rowOf 13 = .ok (.aload_n 0, 1) := by decide +kernel
theorem dX0_rowOf_14 : decode cX0_rowOf 14 = .ok (.getfield 19, 3) := by decide +kernel
theorem dX0_rowOf_17 : decode cX0_rowOf 17 = .ok (.idiv, 1) := by decide +kernel
theorem dX0_rowOf_18 : decode cX0_rowOf 18 = .ok (.ireturn, 1) := by decide +kernel
theorem dX0_columnOf_0 : decode cX0_columnOf 0 = .ok (.aload_n 0, 1) := by decide +kernel
theorem dX0_columnOf_1 : decode cX0_columnOf 1 = .ok (.getfield 19, 3) := by decide +kernel
theorem dX0_columnOf_4 : decode cX0_columnOf 4 = .ok (.iconst 1, 1) := by decide +kernel
theorem dX0_columnOf_5 : decode cX0_columnOf 5 = .ok (.if_icmp .ge 7, 3) := by decide +kernel
theorem dX0_columnOf_8 : decode cX0_columnOf 8 = .ok (.iconst 0, 1) := by decide +kernel
theorem dX0_columnOf_9 : decode cX0_columnOf 9 = .ok (.goto 9, 3) := by decide +kernel
theorem dX0_columnOf_12 : decode cX0_columnOf 12 = .ok (.iload_n 1, 1) := by decide +kernel
theorem dX0_columnOf_13 : decode cX0_columnOf 13 = .ok (.aload_n 0, 1) := by decide +kernel
theorem dX0_columnOf_14 : decode cX0_columnOf 14 = .ok (.getfield 19, 3) := by decide +kernel
theorem dX0_columnOf_17 : decode cX0_columnOf 17 = .ok (.irem, 1) := by decide +kernel
theorem dX0_columnOf_18 : decode cX0_columnOf 18 = .ok (.ireturn, 1) := by decide +kernel
set_option maxRecDepth 20000 in
theorem ggX0_letterAt_X9_within : GoodIn wsX0_letterAt wsX9_within := goodIn_r _ [6] (by decide +kernel) (by decide +kernel)
set_option maxRecDepth 20000 in
theorem gX0_letterAt_X9_within_n26 : GoodIn wsX0_letterAt (wsX9_within) := ggX0_letterAt_X9_within
set_option maxRecDepth 20000 in
theorem ggX0_letterAt_X0_knows : GoodIn wsX0_letterAt wsX0_knows := goodIn_r _ [11, 12, 13, 14, 10, 15, 1, 2, 4, 5, 6, 16, 17, 18] (by decide +kernel) (by decide +kernel)
set_option maxRecDepth 20000 in
theorem gX0_letterAt_X0_knows : GoodIn wsX0_letterAt (wsV RX0 38 RX0 yX0_knows wsX0_knows) := goodIn_app (goodIn_of _ (by decide +kernel)) ggX0_letterAt_X0_knows
theorem dX0_letterAt_0 : decode cX0_letterAt 0 = .ok (.iload_n 1, 1) := by decide +kernel
theorem dX0_letterAt_1 : decode cX0_letterAt 1 = .ok (.iconst 0, 1) := by decide +kernel
theorem dX0_letterAt_2 : decode cX0_letterAt 2 = .ok (.aload_n 0, 1) := by decide +kernel
theorem dX0_letterAt_3 : decode cX0_letterAt 3 = .ok (.getfield 15, 3) := by decide +kernel
theorem dX0_letterAt_6 : decode cX0_letterAt 6 = .ok (.iconst 1, 1) := by decide +kernel
theorem dX0_letterAt_7 : decode cX0_letterAt 7 = .ok (.isub, 1) := by decide +kernel
theorem dX0_letterAt_8 : decode cX0_letterAt 8 = .ok (.invokestatic 26, 3) := by decide +kernel
theorem dX0_letterAt_11 : decode cX0_letterAt 11 = .ok (.ifCond .eq 17, 3) := by decide +kernel
theorem dX0_letterAt_14 : decode cX0_letterAt 14 = .ok (.iload_n 2, 1) := by decide +kernel
theorem dX0_letterAt_15 : decode cX0_letterAt 15 = .ok (.iconst 0, 1) := by decide +kernel
theorem dX0_letterAt_16 : decode cX0_letterAt 16 = .ok (.aload_n 0, 1) := by decide +kernel
theorem dX0_letterAt_17 : decode cX0_letterAt 17 = .ok (.getfield 19, 3) := by decide +kernel
theorem dX0_letterAt_20 : decode cX0_letterAt 20 = .ok (.iconst 1, 1) := by decide +kernel
theorem dX0_letterAt_21 : decode cX0_letterAt 21 = .ok (.isub, 1) := by decide +kernel
theorem dX0_letterAt_22 : decode cX0_letterAt 22 = .ok (.invokestatic 26, 3) := by decide +kernel
theorem dX0_letterAt_25 : decode cX0_letterAt 25 = .ok (.ifCond .ne 5, 3) := by decide +kernel
theorem dX0_letterAt_28 : decode cX0_letterAt 28 = .ok (.iconst (-1), 1) := by decide +kernel
theorem dX0_letterAt_29 : decode cX0_letterAt 29 = .ok (.ireturn, 1) := by decide +kernel
theorem dX0_letterAt_30 : decode cX0_letterAt 30 = .ok (.iload_n 1, 1) := by decide +kernel
theorem dX0_letterAt_31 : decode cX0_letterAt 31 = .ok (.istore 4, 2) := by decide +kernel
theorem dX0_letterAt_33 : decode cX0_letterAt 33 = .ok (.iload_n 2, 1) := by decide +kernel
theorem dX0_letterAt_34 : decode cX0_letterAt 34 = .ok (.istore 5, 2) := by decide +kernel
theorem dX0_letterAt_36 : decode cX0_letterAt 36 = .ok (.iconst 0, 1) := by decide +kernel
theorem dX0_letterAt_37 : decode cX0_letterAt 37 = .ok (.istore 6, 2) := by decide +kernel
theorem dX0_letterAt_39 : decode cX0_letterAt 39 = .ok (.iload 6, 2) := by decide +kernel
theorem dX0_letterAt_41 : decode cX0_letterAt 41 = .ok (.iload_n 3, 1) := by decide +kernel
theorem dX0_letterAt_42 : decode cX0_letterAt 42 = .ok (.if_icmp .ge 28, 3) := by decide +kernel
theorem dX0_letterAt_45 : decode cX0_letterAt 45 = .ok (.iload 4, 2) := by decide +kernel
theorem dX0_letterAt_47 : decode cX0_letterAt 47 = .ok (.istore 7, 2) := by decide +kernel
theorem dX0_letterAt_49 : decode cX0_letterAt 49 = .ok (.aload_n 0, 1) := by decide +kernel
theorem dX0_letterAt_50 : decode cX0_letterAt 50 = .ok (.getfield 15, 3) := by decide +kernel
theorem dX0_letterAt_53 : decode cX0_letterAt 53 = .ok (.iconst 1, 1) := by decide +kernel
theorem dX0_letterAt_54 : decode cX0_letterAt 54 = .ok (.isub, 1) := by decide +kernel
theorem dX0_letterAt_55 : decode cX0_letterAt 55 = .ok (.iload 5, 2) := by decide +kernel
theorem dX0_letterAt_57 : decode cX0_letterAt 57 = .ok (.isub, 1) := by decide +kernel
theorem dX0_letterAt_58 : decode cX0_letterAt 58 = .ok (.istore 4, 2) := by decide +kernel
theorem dX0_letterAt_60 : decode cX0_letterAt 60 = .ok (.iload 7, 2) := by decide +kernel
theorem dX0_letterAt_62 : decode cX0_letterAt 62 = .ok (.istore 5, 2) := by decide +kernel
theorem dX0_letterAt_64 : decode cX0_letterAt 64 = .ok (.iinc 6 1, 3) := by decide +kernel
theorem dX0_letterAt_67 : decode cX0_letterAt 67 = .ok (.goto (-28), 3) := by decide +kernel
theorem dX0_letterAt_70 : decode cX0_letterAt 70 = .ok (.iload 4, 2) := by decide +kernel
theorem dX0_letterAt_72 : decode cX0_letterAt 72 = .ok (.aload_n 0, 1) := by decide +kernel
theorem dX0_letterAt_73 : decode cX0_letterAt 73 = .ok (.getfield 19, 3) := by decide +kernel
theorem dX0_letterAt_76 : decode cX0_letterAt 76 = .ok (.imul, 1) := by decide +kernel
theorem dX0_letterAt_77 : decode cX0_letterAt 77 = .ok (.iload 5, 2) := by decide +kernel
theorem dX0_letterAt_79 : decode cX0_letterAt 79 = .ok (.iadd, 1) := by decide +kernel
theorem dX0_letterAt_80 : decode cX0_letterAt 80 = .ok (.istore 6, 2) := by decide +kernel
theorem dX0_letterAt_82 : decode cX0_letterAt 82 = .ok (.aload_n 0, 1) := by decide +kernel
theorem dX0_letterAt_83 : decode cX0_letterAt 83 = .ok (.iload 6, 2) := by decide +kernel
theorem dX0_letterAt_85 : decode cX0_letterAt 85 = .ok (.invokevirtual 38, 3) := by decide +kernel
theorem dX0_letterAt_88 : decode cX0_letterAt 88 = .ok (.ifCond .eq 13, 3) := by decide +kernel
theorem dX0_letterAt_91 : decode cX0_letterAt 91 = .ok (.aload_n 0, 1) := by decide +kernel
theorem dX0_letterAt_92 : decode cX0_letterAt 92 = .ok (.getfield 9, 3) := by decide +kernel
theorem dX0_letterAt_95 : decode cX0_letterAt 95 = .ok (.iload 6, 2) := by decide +kernel
theorem dX0_letterAt_97 : decode cX0_letterAt 97 = .ok (.iaload, 1) := by decide +kernel
theorem dX0_letterAt_98 : decode cX0_letterAt 98 = .ok (.goto 4, 3) := by decide +kernel
theorem dX0_letterAt_101 : decode cX0_letterAt 101 = .ok (.iconst (-1), 1) := by decide +kernel
theorem dX0_letterAt_102 : decode cX0_letterAt 102 = .ok (.ireturn, 1) := by decide +kernel
set_option maxRecDepth 20000 in
theorem ggX0_isOf_X0_letterAt : GoodIn wsX0_isOf wsX0_letterAt := goodIn_r _ [5, 6, 7, 8, 9, 10, 11, 12, 13, 14, 4, 15, 16, 17, 18, 19, 20, 21, 22] (by decide +kernel) (by decide +kernel)
set_option maxRecDepth 20000 in
theorem gX0_isOf_X0_letterAt : GoodIn wsX0_isOf (wsV RX0 42 RX0 yX0_letterAt wsX0_letterAt) := goodIn_app (goodIn_of _ (by decide +kernel)) ggX0_isOf_X0_letterAt
theorem dX0_isOf_0 : decode cX0_isOf 0 = .ok (.aload_n 0, 1) := by decide +kernel
theorem dX0_isOf_1 : decode cX0_isOf 1 = .ok (.iload_n 2, 1) := by decide +kernel
theorem dX0_isOf_2 : decode cX0_isOf 2 = .ok (.iload_n 3, 1) := by decide +kernel
theorem dX0_isOf_3 : decode cX0_isOf 3 = .ok (.iload 4, 2) := by decide +kernel
theorem dX0_isOf_5 : decode cX0_isOf 5 = .ok (.invokevirtual 42, 3) := by decide +kernel
theorem dX0_isOf_8 : decode cX0_isOf 8 = .ok (.istore 5, 2) := by decide +kernel
theorem dX0_isOf_10 : decode cX0_isOf 10 = .ok (.iload 5, 2) := by decide +kernel
theorem dX0_isOf_12 : decode cX0_isOf 12 = .ok (.iconst (-1), 1) := by decide +kernel
theorem dX0_isOf_13 : decode cX0_isOf 13 = .ok (.if_icmp .eq 17, 3) := by decide +kernel
theorem dX0_isOf_16 : decode cX0_isOf 16 = .ok (.iload_n 1, 1) := by decide +kernel
theorem dX0_isOf_17 : decode cX0_isOf 17 = .ok (.iload 5, 2) := by decide +kernel
theorem dX0_isOf_19 : decode cX0_isOf 19 = .ok (.ishr, 1) := by decide +kernel
theorem dX0_isOf_20 : decode cX0_isOf 20 = .ok (.iconst 1, 1) := by decide +kernel
theorem dX0_isOf_21 : decode cX0_isOf 21 = .ok (.iand, 1) := by decide +kernel
theorem dX0_isOf_22 : decode cX0_isOf 22 = .ok (.iconst 1, 1) := by decide +kernel
theorem dX0_isOf_23 : decode cX0_isOf 23 = .ok (.if_icmp .ne 7, 3) := by decide +kernel
theorem dX0_isOf_26 : decode cX0_isOf 26 = .ok (.iconst 1, 1) := by decide +kernel
theorem dX0_isOf_27 : decode cX0_isOf 27 = .ok (.goto 4, 3) := by decide +kernel
theorem dX0_isOf_30 : decode cX0_isOf 30 = .ok (.iconst 0, 1) := by decide +kernel
theorem dX0_isOf_31 : decode cX0_isOf 31 = .ok (.ireturn, 1) := by decide +kernel
set_option maxRecDepth 20000 in
theorem ggX0_hersAbout_X0_rowOf : GoodIn wsX0_hersAbout wsX0_rowOf := goodIn_r _ [5, 6, 32, 33, 34] (by decide +kernel) (by decide +kernel)
set_option maxRecDepth 20000 in
theorem gX0_hersAbout_X0_rowOf : GoodIn wsX0_hersAbout (wsV RX0 46 RX0 yX0_rowOf wsX0_rowOf) := goodIn_app (goodIn_of _ (by decide +kernel)) ggX0_hersAbout_X0_rowOf
set_option maxRecDepth 20000 in
theorem ggX0_hersAbout_X0_columnOf : GoodIn wsX0_hersAbout wsX0_columnOf := goodIn_r _ [10, 6, 32, 33, 34] (by decide +kernel) (by decide +kernel)
set_option maxRecDepth 20000 in
theorem gX0_hersAbout_X0_columnOf : GoodIn wsX0_hersAbout (wsV RX0 49 RX0 yX0_columnOf wsX0_columnOf) := goodIn_app (goodIn_of _ (by decide +kernel)) ggX0_hersAbout_X0_columnOf
set_option maxRecDepth 20000 in
theorem ggX0_hersAbout_X0_isOf : GoodIn wsX0_hersAbout wsX0_isOf := goodIn_r _ [14, 15, 16, 17, 4, 18, 19, 6, 20, 21, 22, 23, 24, 25, 26, 27, 28, 29, 30, 31, 32, 33, 34] (by decide +kernel) (by decide +kernel)
set_option maxRecDepth 20000 in
theorem gX0_hersAbout_X0_isOf : GoodIn wsX0_hersAbout (wsV RX0 52 RX0 yX0_isOf wsX0_isOf) := goodIn_app (goodIn_of _ (by decide +kernel)) ggX0_hersAbout_X0_isOf
theorem dX0_hersAbout_0 : decode cX0_hersAbout 0 = .ok (.aload_n 0, 1) := by decide +kernel
theorem dX0_hersAbout_1 : decode cX0_hersAbout 1 = .ok (.iload_n 1, 1) := by decide +kernel
theorem dX0_hersAbout_2 : decode cX0_hersAbout 2 = .ok (.invokevirtual 46, 3) := by decide +kernel
theorem dX0_hersAbout_5 : decode cX0_hersAbout 5 = .ok (.istore_n 2, 1) := by decide +kernel
theorem dX0_hersAbout_6 : decode cX0_hersAbout 6 = .ok (.aload_n 0, 1) := by decide +kernel
theorem dX0_hersAbout_7 : decode cX0_hersAbout 7 = .ok (.iload_n 1, 1) := by decide +kernel
theorem dX0_hersAbout_8 : decode cX0_hersAbout 8 = .ok (.invokevirtual 49, 3) := by decide +kernel
theorem dX0_hersAbout_11 : decode cX0_hersAbout 11 = .ok (.istore_n 3, 1) := by decide +kernel
theorem dX0_hersAbout_12 : decode cX0_hersAbout 12 = .ok (.iconst 0, 1) := by decide +kernel
theorem dX0_hersAbout_13 : decode cX0_hersAbout 13 = .ok (.istore 4, 2) := by decide +kernel
theorem dX0_hersAbout_15 : decode cX0_hersAbout 15 = .ok (.iconst (-1), 1) := by decide +kernel
theorem dX0_hersAbout_16 : decode cX0_hersAbout 16 = .ok (.istore 5, 2) := by decide +kernel
theorem dX0_hersAbout_18 : decode cX0_hersAbout 18 = .ok (.iload 5, 2) := by decide +kernel
theorem dX0_hersAbout_20 : decode cX0_hersAbout 20 = .ok (.iconst 1, 1) := by decide +kernel
theorem dX0_hersAbout_21 : decode cX0_hersAbout 21 = .ok (.if_icmp .gt 67, 3) := by decide +kernel
theorem dX0_hersAbout_24 : decode cX0_hersAbout 24 = .ok (.iconst (-1), 1) := by decide +kernel
theorem dX0_hersAbout_25 : decode cX0_hersAbout 25 = .ok (.istore 6, 2) := by decide +kernel
theorem dX0_hersAbout_27 : decode cX0_hersAbout 27 = .ok (.iload 6, 2) := by decide +kernel
theorem dX0_hersAbout_29 : decode cX0_hersAbout 29 = .ok (.iconst 1, 1) := by decide +kernel
theorem dX0_hersAbout_30 : decode cX0_hersAbout 30 = .ok (.if_icmp .gt 52, 3) := by decide +kernel
theorem dX0_hersAbout_33 : decode cX0_hersAbout 33 = .ok (.iload 5, 2) := by decide +kernel
theorem dX0_hersAbout_35 : decode cX0_hersAbout 35 = .ok (.ifCond .ne 12, 3) := by decide +kernel
theorem dX0_hersAbout_38 : decode cX0_hersAbout 38 = .ok (.iload 6, 2) := by decide +kernel
theorem dX0_hersAbout_40 : decode cX0_hersAbout 40 = .ok (.ifCond .ne 7, 3) := by decide +kernel
theorem dX0_hersAbout_43 : decode cX0_hersAbout 43 = .ok (.iconst 1, 1) := by decide +kernel
theorem dX0_hersAbout_44 : decode cX0_hersAbout 44 = .ok (.goto 4, 3) := by decide +kernel
theorem dX0_hersAbout_47 : decode cX0_hersAbout 47 = .ok (.iconst 0, 1) := by decide +kernel
theorem dX0_hersAbout_48 : decode cX0_hersAbout 48 = .ok (.istore 7, 2) := by decide +kernel
theorem dX0_hersAbout_50 : decode cX0_hersAbout 50 = .ok (.iload 7, 2) := by decide +kernel
theorem dX0_hersAbout_52 : decode cX0_hersAbout 52 = .ok (.ifCond .ne 24, 3) := by decide +kernel
theorem dX0_hersAbout_55 : decode cX0_hersAbout 55 = .ok (.aload_n 0, 1) := by decide +kernel
theorem dX0_hersAbout_56 : decode cX0_hersAbout 56 = .ok (.bipush 12, 2) := by decide +kernel
theorem dX0_hersAbout_58 : decode cX0_hersAbout 58 = .ok (.iload_n 2, 1) := by decide +kernel
theorem dX0_hersAbout_59 : decode cX0_hersAbout 59 = .ok (.iload 5, 2) := by decide +kernel
theorem dX0_hersAbout_61 : decode cX0_hersAbout 61 = .ok (.iadd, 1) := by decide +kernel
theorem dX0_hersAbout_62 : decode cX0_hersAbout 62 = .ok (.iload_n 3, 1) := by decide +kernel
theorem dX0_hersAbout_63 : decode cX0_hersAbout 63 = .ok (.iload 6, 2) := by decide +kernel
theorem dX0_hersAbout_65 : decode cX0_hersAbout 65 = .ok (.iadd, 1) := by decide +kernel
theorem dX0_hersAbout_66 : decode cX0_hersAbout 66 = .ok (.iconst 0, 1) := by decide +kernel
theorem dX0_hersAbout_67 : decode cX0_hersAbout 67 = .ok (.invokevirtual 52, 3) := by decide +kernel
theorem dX0_hersAbout_70 : decode cX0_hersAbout 70 = .ok (.ifCond .eq 6, 3) := by decide +kernel
theorem dX0_hersAbout_73 : decode cX0_hersAbout 73 = .ok (.iinc 4 1, 3) := by decide +kernel
theorem dX0_hersAbout_76 : decode cX0_hersAbout 76 = .ok (.iinc 6 1, 3) := by decide +kernel
theorem dX0_hersAbout_79 : decode cX0_hersAbout 79 = .ok (.goto (-52), 3) := by decide +kernel
theorem dX0_hersAbout_82 : decode cX0_hersAbout 82 = .ok (.iinc 5 1, 3) := by decide +kernel
theorem dX0_hersAbout_85 : decode cX0_hersAbout 85 = .ok (.goto (-67), 3) := by decide +kernel
theorem dX0_hersAbout_88 : decode cX0_hersAbout 88 = .ok (.iload 4, 2) := by decide +kernel
theorem dX0_hersAbout_90 : decode cX0_hersAbout 90 = .ok (.ireturn, 1) := by decide +kernel
theorem dX1_init_0 : decode cX1_init 0 = .ok (.aload_n 0, 1) := by decide +kernel
theorem dX1_init_1 : decode cX1_init 1 = .ok (.invokespecial 3, 3) := by decide +kernel
theorem dX1_init_4 : decode cX1_init 4 = .ok (.aload_n 0, 1) := by decide +kernel
theorem dX1_init_5 : decode cX1_init 5 = .ok (.bipush 15, 2) := by decide +kernel
theorem dX1_init_7 : decode cX1_init 7 = .ok (.newarray .int, 2) := by decide +kernel
theorem dX1_init_9 : decode cX1_init 9 = .ok (.putfield 9, 3) := by decide +kernel
theorem dX1_init_12 : decode cX1_init 12 = .ok (.aload_n 0, 1) := by decide +kernel
theorem dX1_init_13 : decode cX1_init 13 = .ok (.iconst 0, 1) := by decide +kernel
theorem dX1_init_14 : decode cX1_init 14 = .ok (.putfield 15, 3) := by decide +kernel
theorem dX1_init_17 : decode cX1_init 17 = .ok (.aload_n 0, 1) := by decide +kernel
theorem dX1_init_18 : decode cX1_init 18 = .ok (.iconst 0, 1) := by decide +kernel
theorem dX1_init_19 : decode cX1_init 19 = .ok (.putfield 19, 3) := by decide +kernel
theorem dX1_init_22 : decode cX1_init 22 = .ok (.return_, 1) := by decide +kernel
set_option maxRecDepth 20000 in
theorem ggX1_firstFault_X1_goesOn : GoodIn wsX1_firstFault wsX1_goesOn := goodIn_r _ [4, 5, 6, 7, 8, 9, 10, 3, 11, 12, 13, 14, 15] (by decide +kernel) (by decide +kernel)
set_option maxRecDepth 20000 in
theorem gX1_firstFault_X1_goesOn : GoodIn wsX1_firstFault (va_wsS RX1 23 yX1_goesOn wsX1_goesOn) := goodIn_app (goodIn_of _ (by decide +kernel)) ggX1_firstFault_X1_goesOn
theorem dX1_firstFault_0 : decode cX1_firstFault 0 = .ok (.iconst 0, 1) := by decide +kernel
theorem dX1_firstFault_1 : decode cX1_firstFault 1 = .ok (.istore_n 2, 1) := by decide +kernel
theorem dX1_firstFault_2 : decode cX1_firstFault 2 = .ok (.iload_n 2, 1) := by decide +kernel
theorem dX1_firstFault_3 : decode cX1_firstFault 3 = .ok (.iload_n 1, 1) := by decide +kernel
theorem dX1_firstFault_4 : decode cX1_firstFault 4 = .ok (.if_icmp .ge 19, 3) := by decide +kernel
theorem dX1_firstFault_7 : decode cX1_firstFault 7 = .ok (.aload_n 0, 1) := by decide +kernel
theorem dX1_firstFault_8 : decode cX1_firstFault 8 = .ok (.iload_n 2, 1) := by decide +kernel
theorem dX1_firstFault_9 : decode cX1_firstFault 9 = .ok (.invokestatic 23, 3) := by decide +kernel
theorem dX1_firstFault_12 : decode cX1_firstFault 12 = .ok (.ifCond .ne 5, 3) := by decide +kernel
theorem dX1_firstFault_15 : decode cX1_firstFault 15 = .ok (.iload_n 2, 1) := by decide +kernel
theorem dX1_firstFault_16 : decode cX1_firstFault 16 = .ok (.ireturn, 1) := by decide +kernel
theorem dX1_firstFault_17 : decode cX1_firstFault 17 = .ok (.iinc 2 1, 3) := by decide +kernel
theorem dX1_firstFault_20 : decode cX1_firstFault 20 = .ok (.goto (-18), 3) := by decide +kernel
theorem dX1_firstFault_23 : decode cX1_firstFault 23 = .ok (.iload_n 1, 1) := by decide +kernel
theorem dX1_firstFault_24 : decode cX1_firstFault 24 = .ok (.bipush 20, 2) := by decide +kernel
theorem dX1_firstFault_26 : decode cX1_firstFault 26 = .ok (.if_icmp .eq 9, 3) := by decide +kernel
theorem dX1_firstFault_29 : decode cX1_firstFault 29 = .ok (.iload_n 1, 1) := by decide +kernel
theorem dX1_firstFault_30 : decode cX1_firstFault 30 = .ok (.bipush 23, 2) := by decide +kernel
theorem dX1_firstFault_32 : decode cX1_firstFault 32 = .ok (.if_icmp .ne 8, 3) := by decide +kernel
theorem dX1_firstFault_35 : decode cX1_firstFault 35 = .ok (.bipush (-9), 2) := by decide +kernel
theorem dX1_firstFault_37 : decode cX1_firstFault 37 = .ok (.goto 4, 3) := by decide +kernel
theorem dX1_firstFault_40 : decode cX1_firstFault 40 = .ok (.iload_n 1, 1) := by decide +kernel
theorem dX1_firstFault_41 : decode cX1_firstFault 41 = .ok (.ireturn, 1) := by decide +kernel
set_option maxRecDepth 20000 in
theorem ggX1_goesOn_X9_within : GoodIn wsX1_goesOn wsX9_within := goodIn_r _ [4] (by decide +kernel) (by decide +kernel)
set_option maxRecDepth 20000 in
theorem gX1_goesOn_X9_within_n31 : GoodIn wsX1_goesOn (wsX9_within) := ggX1_goesOn_X9_within
set_option maxRecDepth 20000 in
theorem ggX1_goesOn_X1_areZeros : GoodIn wsX1_goesOn wsX1_areZeros := goodIn_r _ [8, 9, 10, 11, 12] (by decide +kernel) (by decide +kernel)
set_option maxRecDepth 20000 in
theorem gX1_goesOn_X1_areZeros : GoodIn wsX1_goesOn (va_wsS RX1 35 yX1_areZeros wsX1_areZeros) := goodIn_app (goodIn_of _ (by decide +kernel)) ggX1_goesOn_X1_areZeros
theorem dX1_goesOn_0 : decode cX1_goesOn 0 = .ok (.iload_n 1, 1) := by decide +kernel
theorem dX1_goesOn_1 : decode cX1_goesOn 1 = .ok (.bipush 23, 2) := by decide +kernel
theorem dX1_goesOn_3 : decode cX1_goesOn 3 = .ok (.if_icmp .ge 9, 3) := by decide +kernel
theorem dX1_goesOn_6 : decode cX1_goesOn 6 = .ok (.iload_n 1, 1) := by decide +kernel
theorem dX1_goesOn_7 : decode cX1_goesOn 7 = .ok (.aload_n 0, 1) := by decide +kernel
theorem dX1_goesOn_8 : decode cX1_goesOn 8 = .ok (.arraylength, 1) := by decide +kernel
theorem dX1_goesOn_9 : decode cX1_goesOn 9 = .ok (.if_icmp .lt 5, 3) := by decide +kernel
theorem dX1_goesOn_12 : decode cX1_goesOn 12 = .ok (.iconst 0, 1) := by decide +kernel
theorem dX1_goesOn_13 : decode cX1_goesOn 13 = .ok (.ireturn, 1) := by decide +kernel
theorem dX1_goesOn_14 : decode cX1_goesOn 14 = .ok (.aload_n 0, 1) := by decide +kernel
theorem dX1_goesOn_15 : decode cX1_goesOn 15 = .ok (.iload_n 1, 1) := by decide +kernel
theorem dX1_goesOn_16 : decode cX1_goesOn 16 = .ok (.iaload, 1) := by decide +kernel
theorem dX1_goesOn_17 : decode cX1_goesOn 17 = .ok (.istore_n 2, 1) := by decide +kernel
theorem dX1_goesOn_18 : decode cX1_goesOn 18 = .ok (.iload_n 1, 1) := by decide +kernel
theorem dX1_goesOn_19 : decode cX1_goesOn 19 = .ok (.bipush 7, 2) := by decide +kernel
theorem dX1_goesOn_21 : decode cX1_goesOn 21 = .ok (.idiv, 1) := by decide +kernel
theorem dX1_goesOn_22 : decode cX1_goesOn 22 = .ok (.istore_n 3, 1) := by decide +kernel
theorem dX1_goesOn_23 : decode cX1_goesOn 23 = .ok (.iload_n 1, 1) := by decide +kernel
theorem dX1_goesOn_24 : decode cX1_goesOn 24 = .ok (.bipush 7, 2) := by decide +kernel
theorem dX1_goesOn_26 : decode cX1_goesOn 26 = .ok (.irem, 1) := by decide +kernel
theorem dX1_goesOn_27 : decode cX1_goesOn 27 = .ok (.istore 4, 2) := by decide +kernel
theorem dX1_goesOn_29 : decode cX1_goesOn 29 = .ok (.iload 4, 2) := by decide +kernel
theorem dX1_goesOn_31 : decode cX1_goesOn 31 = .ok (.ifCond .ne 18, 3) := by decide +kernel
theorem dX1_goesOn_34 : decode cX1_goesOn 34 = .ok (.iload_n 2, 1) := by decide +kernel
theorem dX1_goesOn_35 : decode cX1_goesOn 35 = .ok (.getstatic 27, 3) := by decide +kernel
theorem dX1_goesOn_38 : decode cX1_goesOn 38 = .ok (.iload_n 3, 1) := by decide +kernel
theorem dX1_goesOn_39 : decode cX1_goesOn 39 = .ok (.caload, 1) := by decide +kernel
theorem dX1_goesOn_40 : decode cX1_goesOn 40 = .ok (.if_icmp .ne 7, 3) := by decide +kernel
theorem dX1_goesOn_43 : decode cX1_goesOn 43 = .ok (.iconst 1, 1) := by decide +kernel
theorem dX1_goesOn_44 : decode cX1_goesOn 44 = .ok (.goto 4, 3) := by decide +kernel
theorem dX1_goesOn_47 : decode cX1_goesOn 47 = .ok (.iconst 0, 1) := by decide +kernel
theorem dX1_goesOn_48 : decode cX1_goesOn 48 = .ok (.ireturn, 1) := by decide +kernel
theorem dX1_goesOn_49 : decode cX1_goesOn 49 = .ok (.iload 4, 2) := by decide +kernel
theorem dX1_goesOn_51 : decode cX1_goesOn 51 = .ok (.bipush 6, 2) := by decide +kernel
theorem dX1_goesOn_53 : decode cX1_goesOn 53 = .ok (.if_icmp .ne 15, 3) := by decide +kernel
theorem dX1_goesOn_56 : decode cX1_goesOn 56 = .ok (.iload_n 2, 1) := by decide +kernel
theorem dX1_goesOn_57 : decode cX1_goesOn 57 = .ok (.bipush 59, 2) := by decide +kernel
theorem dX1_goesOn_59 : decode cX1_goesOn 59 = .ok (.if_icmp .ne 7, 3) := by decide +kernel
theorem dX1_goesOn_62 : decode cX1_goesOn 62 = .ok (.iconst 1, 1) := by decide +kernel
theorem dX1_goesOn_63 : decode cX1_goesOn 63 = .ok (.goto 4, 3) := by decide +kernel
theorem dX1_goesOn_66 : decode cX1_goesOn 66 = .ok (.iconst 0, 1) := by decide +kernel
theorem dX1_goesOn_67 : decode cX1_goesOn 67 = .ok (.ireturn, 1) := by decide +kernel
theorem dX1_goesOn_68 : decode cX1_goesOn 68 = .ok (.iload_n 3, 1) := by decide +kernel
theorem dX1_goesOn_69 : decode cX1_goesOn 69 = .ok (.iconst 3, 1) := by decide +kernel
theorem dX1_goesOn_70 : decode cX1_goesOn 70 = .ok (.if_icmp .ne 12, 3) := by decide +kernel
theorem dX1_goesOn_73 : decode cX1_goesOn 73 = .ok (.iload_n 2, 1) := by decide +kernel
theorem dX1_goesOn_74 : decode cX1_goesOn 74 = .ok (.bipush 49, 2) := by decide +kernel
theorem dX1_goesOn_76 : decode cX1_goesOn 76 = .ok (.bipush 57, 2) := by decide +kernel
theorem dX1_goesOn_78 : decode cX1_goesOn 78 = .ok (.invokestatic 31, 3) := by decide +kernel
theorem dX1_goesOn_81 : decode cX1_goesOn 81 = .ok (.ireturn, 1) := by decide +kernel
theorem dX1_goesOn_82 : decode cX1_goesOn 82 = .ok (.iload_n 2, 1) := by decide +kernel
theorem dX1_goesOn_83 : decode cX1_goesOn 83 = .ok (.bipush 48, 2) := by decide +kernel
theorem dX1_goesOn_85 : decode cX1_goesOn 85 = .ok (.bipush 57, 2) := by decide +kernel
theorem dX1_goesOn_87 : decode cX1_goesOn 87 = .ok (.invokestatic 31, 3) := by decide +kernel
theorem dX1_goesOn_90 : decode cX1_goesOn 90 = .ok (.ifCond .ne 5, 3) := by decide +kernel
theorem dX1_goesOn_93 : decode cX1_goesOn 93 = .ok (.iconst 0, 1) := by decide +kernel
theorem dX1_goesOn_94 : decode cX1_goesOn 94 = .ok (.ireturn, 1) := by decide +kernel
theorem dX1_goesOn_95 : decode cX1_goesOn 95 = .ok (.iload 4, 2) := by decide +kernel
theorem dX1_goesOn_97 : decode cX1_goesOn 97 = .ok (.iconst 5, 1) := by decide +kernel
theorem dX1_goesOn_98 : decode cX1_goesOn 98 = .ok (.if_icmp .lt 20, 3) := by decide +kernel
theorem dX1_goesOn_101 : decode cX1_goesOn 101 = .ok (.iload_n 2, 1) := by decide +kernel
theorem dX1_goesOn_102 : decode cX1_goesOn 102 = .ok (.bipush 48, 2) := by decide +kernel
theorem dX1_goesOn_104 : decode cX1_goesOn 104 = .ok (.if_icmp .ne 14, 3) := by decide +kernel
theorem dX1_goesOn_107 : decode cX1_goesOn 107 = .ok (.aload_n 0, 1) := by decide +kernel
theorem dX1_goesOn_108 : decode cX1_goesOn 108 = .ok (.iload_n 1, 1) := by decide +kernel
theorem dX1_goesOn_109 : decode cX1_goesOn 109 = .ok (.iconst 4, 1) := by decide +kernel
theorem dX1_goesOn_110 : decode cX1_goesOn 110 = .ok (.isub, 1) := by decide +kernel
theorem dX1_goesOn_111 : decode cX1_goesOn 111 = .ok (.iload_n 1, 1) := by decide +kernel
theorem dX1_goesOn_112 : decode cX1_goesOn 112 = .ok (.invokestatic 35, 3) := by decide +kernel
theorem dX1_goesOn_115 : decode cX1_goesOn 115 = .ok (.ifCond .ne 7, 3) := by decide +kernel
theorem dX1_goesOn_118 : decode cX1_goesOn 118 = .ok (.iconst 1, 1) := by decide +kernel
theorem dX1_goesOn_119 : decode cX1_goesOn 119 = .ok (.goto 4, 3) := by decide +kernel
theorem dX1_goesOn_122 : decode cX1_goesOn 122 = .ok (.iconst 0, 1) := by decide +kernel
theorem dX1_goesOn_123 : decode cX1_goesOn 123 = .ok (.ireturn, 1) := by decide +kernel
theorem dX1_areZeros_0 : decode cX1_areZeros 0 = .ok (.iconst 0, 1) := by decide +kernel
theorem dX1_areZeros_1 : decode cX1_areZeros 1 = .ok (.iload_n 1, 1) := by decide +kernel
theorem dX1_areZeros_2 : decode cX1_areZeros 2 = .ok (.invokestatic 39, 3) := by decide +kernel
theorem dX1_areZeros_5 : decode cX1_areZeros 5 = .ok (.istore_n 3, 1) := by decide +kernel
theorem dX1_areZeros_6 : decode cX1_areZeros 6 = .ok (.iload_n 3, 1) := by decide +kernel
theorem dX1_areZeros_7 : decode cX1_areZeros 7 = .ok (.iload_n 2, 1) := by decide +kernel
theorem dX1_areZeros_8 : decode cX1_areZeros 8 = .ok (.if_icmp .ge 25, 3) := by decide +kernel
theorem dX1_areZeros_11 : decode cX1_areZeros 11 = .ok (.iload_n 3, 1) := by decide +kernel
theorem dX1_areZeros_12 : decode cX1_areZeros 12 = .ok (.aload_n 0, 1) := by decide +kernel
theorem dX1_areZeros_13 : decode cX1_areZeros 13 = .ok (.arraylength, 1) := by decide +kernel
theorem dX1_areZeros_14 : decode cX1_areZeros 14 = .ok (.if_icmp .ge 19, 3) := by decide +kernel
theorem dX1_areZeros_17 : decode cX1_areZeros 17 = .ok (.aload_n 0, 1) := by decide +kernel
theorem dX1_areZeros_18 : decode cX1_areZeros 18 = .ok (.iload_n 3, 1) := by decide +kernel
theorem dX1_areZeros_19 : decode cX1_areZeros 19 = .ok (.iaload, 1) := by decide +kernel
theorem dX1_areZeros_20 : decode cX1_areZeros 20 = .ok (.bipush 48, 2) := by decide +kernel
theorem dX1_areZeros_22 : decode cX1_areZeros 22 = .ok (.if_icmp .eq 5, 3) := by decide +kernel
theorem dX1_areZeros_25 : decode cX1_areZeros 25 = .ok (.iconst 0, 1) := by decide +kernel
theorem dX1_areZeros_26 : decode cX1_areZeros 26 = .ok (.ireturn, 1) := by decide +kernel
theorem dX1_areZeros_27 : decode cX1_areZeros 27 = .ok (.iinc 3 1, 3) := by decide +kernel
theorem dX1_areZeros_30 : decode cX1_areZeros 30 = .ok (.goto (-24), 3) := by decide +kernel
theorem dX1_areZeros_33 : decode cX1_areZeros 33 = .ok (.iconst 1, 1) := by decide +kernel
theorem dX1_areZeros_34 : decode cX1_areZeros 34 = .ok (.ireturn, 1) := by decide +kernel
theorem dX1_read_0 : decode cX1_read 0 = .ok (.iload_n 2, 1) := by decide +kernel
theorem dX1_read_1 : decode cX1_read 1 = .ok (.bipush 20, 2) := by decide +kernel
theorem dX1_read_3 : decode cX1_read 3 = .ok (.if_icmp .lt 10, 3) := by decide +kernel
theorem dX1_read_6 : decode cX1_read 6 = .ok (.aload_n 1, 1) := by decide +kernel
theorem dX1_read_7 : decode cX1_read 7 = .ok (.arraylength, 1) := by decide +kernel
theorem dX1_read_8 : decode cX1_read 8 = .ok (.bipush 23, 2) := by decide +kernel
theorem dX1_read_10 : decode cX1_read 10 = .ok (.if_icmp .ge 4, 3) := by decide +kernel
theorem dX1_read_13 : decode cX1_read 13 = .ok (.return_, 1) := by decide +kernel
theorem dX1_read_14 : decode cX1_read 14 = .ok (.iconst 0, 1) := by decide +kernel
theorem dX1_read_15 : decode cX1_read 15 = .ok (.istore_n 3, 1) := by decide +kernel
theorem dX1_read_16 : decode cX1_read 16 = .ok (.iload_n 3, 1) := by decide +kernel
theorem dX1_read_17 : decode cX1_read 17 = .ok (.iconst 3, 1) := by decide +kernel
theorem dX1_read_18 : decode cX1_read 18 = .ok (.if_icmp .ge 49, 3) := by decide +kernel
theorem dX1_read_21 : decode cX1_read 21 = .ok (.iconst 0, 1) := by decide +kernel
theorem dX1_read_22 : decode cX1_read 22 = .ok (.istore 4, 2) := by decide +kernel
theorem dX1_read_24 : decode cX1_read 24 = .ok (.iload 4, 2) := by decide +kernel
theorem dX1_read_26 : decode cX1_read 26 = .ok (.iconst 5, 1) := by decide +kernel
theorem dX1_read_27 : decode cX1_read 27 = .ok (.if_icmp .ge 34, 3) := by decide +kernel
theorem dX1_read_30 : decode cX1_read 30 = .ok (.aload_n 0, 1) := by decide +kernel
theorem dX1_read_31 : decode cX1_read 31 = .ok (.getfield 9, 3) := by decide +kernel
theorem dX1_read_34 : decode cX1_read 34 = .ok (.iconst 5, 1) := by decide +kernel
theorem dX1_read_35 : decode cX1_read 35 = .ok (.iload_n 3, 1) := by decide +kernel
theorem dX1_read_36 : decode cX1_read 36 = .ok (.imul, 1) := by decide +kernel
theorem dX1_read_37 : decode cX1_read 37 = .ok (.iload 4, 2) := by decide +kernel
theorem dX1_read_39 : decode cX1_read 39 = .ok (.iadd, 1) := by decide +kernel
theorem dX1_read_40 : decode cX1_read 40 = .ok (.aload_n 1, 1) := by decide +kernel
theorem dX1_read_41 : decode cX1_read 41 = .ok (.bipush 7, 2) := by decide +kernel
theorem dX1_read_43 : decode cX1_read 43 = .ok (.iload_n 3, 1) := by decide +kernel
theorem dX1_read_44 : decode cX1_read 44 = .ok (.imul, 1) := by decide +kernel
theorem dX1_read_45 : decode cX1_read 45 = .ok (.iconst 1, 1) := by decide +kernel
theorem dX1_read_46 : decode cX1_read 46 = .ok (.iadd, 1) := by decide +kernel
theorem dX1_read_47 : decode cX1_read 47 = .ok (.iload 4, 2) := by decide +kernel
theorem dX1_read_49 : decode cX1_read 49 = .ok (.iadd, 1) := by decide +kernel
theorem dX1_read_50 : decode cX1_read 50 = .ok (.iaload, 1) := by decide +kernel
theorem dX1_read_51 : decode cX1_read 51 = .ok (.bipush 48, 2) := by decide +kernel
theorem dX1_read_53 : decode cX1_read 53 = .ok (.isub, 1) := by decide +kernel
theorem dX1_read_54 : decode cX1_read 54 = .ok (.iastore, 1) := by decide +kernel
theorem dX1_read_55 : decode cX1_read 55 = .ok (.iinc 4 1, 3) := by decide +kernel
theorem dX1_read_58 : decode cX1_read 58 = .ok (.goto (-34), 3) := by decide +kernel
theorem dX1_read_61 : decode cX1_read 61 = .ok (.iinc 3 1, 3) := by decide +kernel
theorem dX1_read_64 : decode cX1_read 64 = .ok (.goto (-48), 3) := by decide +kernel
theorem dX1_read_67 : decode cX1_read 67 = .ok (.aload_n 0, 1) := by decide +kernel
theorem dX1_read_68 : decode cX1_read 68 = .ok (.iload_n 2, 1) := by decide +kernel
theorem dX1_read_69 : decode cX1_read 69 = .ok (.bipush 23, 2) := by decide +kernel
theorem dX1_read_71 : decode cX1_read 71 = .ok (.if_icmp .ne 13, 3) := by decide +kernel
theorem dX1_read_74 : decode cX1_read 74 = .ok (.aload_n 1, 1) := by decide +kernel
theorem dX1_read_75 : decode cX1_read 75 = .ok (.bipush 22, 2) := by decide +kernel
theorem dX1_read_77 : decode cX1_read 77 = .ok (.iaload, 1) := by decide +kernel
theorem dX1_read_78 : decode cX1_read 78 = .ok (.bipush 48, 2) := by decide +kernel
theorem dX1_read_80 : decode cX1_read 80 = .ok (.isub, 1) := by decide +kernel
theorem dX1_read_81 : decode cX1_read 81 = .ok (.goto 4, 3) := by decide +kernel
theorem dX1_read_84 : decode cX1_read 84 = .ok (.iconst 0, 1) := by decide +kernel
theorem dX1_read_85 : decode cX1_read 85 = .ok (.putfield 19, 3) := by decide +kernel
theorem dX1_read_88 : decode cX1_read 88 = .ok (.aload_n 0, 1) := by decide +kernel
theorem dX1_read_89 : decode cX1_read 89 = .ok (.iconst 1, 1) := by decide +kernel
theorem dX1_read_90 : decode cX1_read 90 = .ok (.putfield 15, 3) := by decide +kernel
theorem dX1_read_93 : decode cX1_read 93 = .ok (.return_, 1) := by decide +kernel
theorem dX1_weighs_0 : decode cX1_weighs 0 = .ok (.aload_n 0, 1) := by decide +kernel
theorem dX1_weighs_1 : decode cX1_weighs 1 = .ok (.getfield 9, 3) := by decide +kernel
theorem dX1_weighs_4 : decode cX1_weighs 4 = .ok (.iconst 5, 1) := by decide +kernel
theorem dX1_weighs_5 : decode cX1_weighs 5 = .ok (.iload_n 1, 1) := by decide +kernel
theorem dX1_weighs_6 : decode cX1_weighs 6 = .ok (.imul, 1) := by decide +kernel
theorem dX1_weighs_7 : decode cX1_weighs 7 = .ok (.iload_n 2, 1) := by decide +kernel
theorem dX1_weighs_8 : decode cX1_weighs 8 = .ok (.iadd, 1) := by decide +kernel
theorem dX1_weighs_9 : decode cX1_weighs 9 = .ok (.iconst 2, 1) := by decide +kernel
theorem dX1_weighs_10 : decode cX1_weighs 10 = .ok (.iadd, 1) := by decide +kernel
theorem dX1_weighs_11 : decode cX1_weighs 11 = .ok (.iaload, 1) := by decide +kernel
theorem dX1_weighs_12 : decode cX1_weighs 12 = .ok (.istore 4, 2) := by decide +kernel
theorem dX1_weighs_14 : decode cX1_weighs 14 = .ok (.iload_n 2, 1) := by decide +kernel
theorem dX1_weighs_15 : decode cX1_weighs 15 = .ok (.ifCond .ne 8, 3) := by decide +kernel
theorem dX1_weighs_18 : decode cX1_weighs 18 = .ok (.iload 4, 2) := by decide +kernel
theorem dX1_weighs_20 : decode cX1_weighs 20 = .ok (.goto 12, 3) := by decide +kernel
theorem dX1_weighs_23 : decode cX1_weighs 23 = .ok (.bipush 9, 2) := by decide +kernel
theorem dX1_weighs_25 : decode cX1_weighs 25 = .ok (.iload 4, 2) := by decide +kernel
theorem dX1_weighs_27 : decode cX1_weighs 27 = .ok (.iload_n 3, 1) := by decide +kernel
theorem dX1_weighs_28 : decode cX1_weighs 28 = .ok (.iadd, 1) := by decide +kernel
theorem dX1_weighs_29 : decode cX1_weighs 29 = .ok (.invokestatic 45, 3) := by decide +kernel
theorem dX1_weighs_32 : decode cX1_weighs 32 = .ok (.ireturn, 1) := by decide +kernel
set_option maxRecDepth 20000 in
theorem ggX1_sumOf_X1_weighs : GoodIn wsX1_sumOf wsX1_weighs := goodIn_r _ [5, 6, 7, 8, 9, 10, 11, 12, 13] (by decide +kernel) (by decide +kernel)
set_option maxRecDepth 20000 in
theorem gX1_sumOf_X1_weighs : GoodIn wsX1_sumOf (wsV RX1 48 RX1 yX1_weighs wsX1_weighs) := goodIn_app (goodIn_of _ (by decide +kernel)) ggX1_sumOf_X1_weighs
theorem dX1_sumOf_0 : decode cX1_sumOf 0 = .ok (.iconst 0, 1) := by decide +kernel
theorem dX1_sumOf_1 : decode cX1_sumOf 1 = .ok (.istore_n 3, 1) := by decide +kernel
theorem dX1_sumOf_2 : decode cX1_sumOf 2 = .ok (.bipush (-2), 2) := by decide +kernel
theorem dX1_sumOf_4 : decode cX1_sumOf 4 = .ok (.istore 4, 2) := by decide +kernel
theorem dX1_sumOf_6 : decode cX1_sumOf 6 = .ok (.iload 4, 2) := by decide +kernel
theorem dX1_sumOf_8 : decode cX1_sumOf 8 = .ok (.iconst 2, 1) := by decide +kernel
theorem dX1_sumOf_9 : decode cX1_sumOf 9 = .ok (.if_icmp .gt 20, 3) := by decide +kernel
theorem dX1_sumOf_12 : decode cX1_sumOf 12 = .ok (.iload_n 3, 1) := by decide +kernel
theorem dX1_sumOf_13 : decode cX1_sumOf 13 = .ok (.aload_n 0, 1) := by decide +kernel
theorem dX1_sumOf_14 : decode cX1_sumOf 14 = .ok (.iload_n 1, 1) := by decide +kernel
theorem dX1_sumOf_15 : decode cX1_sumOf 15 = .ok (.iload 4, 2) := by decide +kernel
theorem dX1_sumOf_17 : decode cX1_sumOf 17 = .ok (.iload_n 2, 1) := by decide +kernel
theorem dX1_sumOf_18 : decode cX1_sumOf 18 = .ok (.invokevirtual 48, 3) := by decide +kernel
theorem dX1_sumOf_21 : decode cX1_sumOf 21 = .ok (.iadd, 1) := by decide +kernel
theorem dX1_sumOf_22 : decode cX1_sumOf 22 = .ok (.istore_n 3, 1) := by decide +kernel
theorem dX1_sumOf_23 : decode cX1_sumOf 23 = .ok (.iinc 4 1, 3) := by decide +kernel
theorem dX1_sumOf_26 : decode cX1_sumOf 26 = .ok (.goto (-20), 3) := by decide +kernel
theorem dX1_sumOf_29 : decode cX1_sumOf 29 = .ok (.iload_n 3, 1) := by decide +kernel
theorem dX1_sumOf_30 : decode cX1_sumOf 30 = .ok (.ireturn, 1) := by decide +kernel
theorem dX1_stageOf_0 : decode cX1_stageOf 0 = .ok (.aload_n 0, 1) := by decide +kernel
theorem dX1_stageOf_1 : decode cX1_stageOf 1 = .ok (.getfield 19, 3) := by decide +kernel
theorem dX1_stageOf_4 : decode cX1_stageOf 4 = .ok (.iconst 1, 1) := by decide +kernel
theorem dX1_stageOf_5 : decode cX1_stageOf 5 = .ok (.if_icmp .ge 7, 3) := by decide +kernel
theorem dX1_stageOf_8 : decode cX1_stageOf 8 = .ok (.iconst 0, 1) := by decide +kernel
theorem dX1_stageOf_9 : decode cX1_stageOf 9 = .ok (.goto 14, 3) := by decide +kernel
theorem dX1_stageOf_12 : decode cX1_stageOf 12 = .ok (.bipush 9, 2) := by decide +kernel
theorem dX1_stageOf_14 : decode cX1_stageOf 14 = .ok (.iload_n 1, 1) := by decide +kernel
theorem dX1_stageOf_15 : decode cX1_stageOf 15 = .ok (.aload_n 0, 1) := by decide +kernel
theorem dX1_stageOf_16 : decode cX1_stageOf 16 = .ok (.getfield 19, 3) := by decide +kernel
theorem dX1_stageOf_19 : decode cX1_stageOf 19 = .ok (.idiv, 1) := by decide +kernel
theorem dX1_stageOf_20 : decode cX1_stageOf 20 = .ok (.invokestatic 45, 3) := by decide +kernel
theorem dX1_stageOf_23 : decode cX1_stageOf 23 = .ok (.ireturn, 1) := by decide +kernel
set_option maxRecDepth 20000 in
theorem ggX2_init_X3_init : GoodIn wsX2_init wsX3_init := goodIn_r _ [4, 5, 6, 7, 8, 9, 10, 11, 12, 13, 14, 15, 16, 17, 18, 19, 20, 21, 22, 23, 3, 24, 25, 26, 27, 28, 29, 30, 31, 32, 33, 34, 35, 36, 37, 38, 39, 40, 41, 42, 43, 44, 45] (by decide +kernel) (by decide +kernel)
set_option maxRecDepth 20000 in
theorem gX2_init_X3_init : GoodIn wsX2_init (wsX3_init) := ggX2_init_X3_init
theorem dX2_init_0 : decode cX2_init 0 = .ok (.aload_n 0, 1) := by decide +kernel
theorem dX2_init_1 : decode cX2_init 1 = .ok (.iload_n 1, 1) := by decide +kernel
theorem dX2_init_2 : decode cX2_init 2 = .ok (.iload_n 2, 1) := by decide +kernel
theorem dX2_init_3 : decode cX2_init 3 = .ok (.iload_n 3, 1) := by decide +kernel
theorem dX2_init_4 : decode cX2_init 4 = .ok (.iload 4, 2) := by decide +kernel
theorem dX2_init_6 : decode cX2_init 6 = .ok (.iload 4, 2) := by decide +kernel
theorem dX2_init_8 : decode cX2_init 8 = .ok (.iconst 1, 1) := by decide +kernel
theorem dX2_init_9 : decode cX2_init 9 = .ok (.iadd, 1) := by decide +kernel
theorem dX2_init_10 : decode cX2_init 10 = .ok (.invokespecial 1, 3) := by decide +kernel
theorem dX2_init_13 : decode cX2_init 13 = .ok (.return_, 1) := by decide +kernel
theorem dX2_kindNumber_0 : decode cX2_kindNumber 0 = .ok (.iconst 1, 1) := by decide +kernel
theorem dX2_kindNumber_1 : decode cX2_kindNumber 1 = .ok (.ireturn, 1) := by decide +kernel
set_option maxRecDepth 20000 in
theorem ggX2_telling_X7_leave : GoodIn wsX2_telling wsX7_leave := goodIn_r _ [5, 6, 16] (by decide +kernel) (by decide +kernel)
set_option maxRecDepth 20000 in
theorem gX2_telling_X7_leave : GoodIn wsX2_telling (wsV RX2 7 RX7 yX7_leave wsX7_leave) := goodIn_app (goodIn_of _ (by decide +kernel)) ggX2_telling_X7_leave
set_option maxRecDepth 20000 in
theorem ggX2_telling_X3_tellingOfKnife : GoodIn wsX2_telling wsX3_tellingOfKnife := goodIn_r _ [12, 13, 14, 2, 3, 4, 5, 6, 17, 18, 19, 20, 21, 22, 23, 24, 25, 26, 27, 28, 29, 30, 31, 32, 33, 34, 16] (by decide +kernel) (by decide +kernel)
set_option maxRecDepth 20000 in
theorem gX2_telling_X3_tellingOfKnife_u13X2 : GoodIn wsX2_telling (va_wsU RX2 13 RX2 "KnifeBoard$Knife" ⟨"KnifeBoard$Hatchet", "tellingOfKnife", "(LKnifeBoard$Trace;)I"⟩ yX3_tellingOfKnife wsX3_tellingOfKnife) := goodIn_app (goodIn_of _ (by decide +kernel)) ggX2_telling_X3_tellingOfKnife
set_option maxRecDepth 20000 in
theorem gX2_telling_X3_tellingOfKnife_u13X8 : GoodIn wsX2_telling (va_wsU RX2 13 RX8 "KnifeBoard$Knife" ⟨"KnifeBoard$Hatchet", "tellingOfKnife", "(LKnifeBoard$Trace;)I"⟩ yX3_tellingOfKnife wsX3_tellingOfKnife) := goodIn_app (goodIn_of _ (by decide +kernel)) ggX2_telling_X3_tellingOfKnife
theorem dX2_telling_0 : decode cX2_telling 0 = .ok (.aload_n 1, 1) := by decide +kernel
theorem dX2_telling_1 : decode cX2_telling 1 = .ok (.iconst 2, 1) := by decide +kernel
theorem dX2_telling_2 : decode cX2_telling 2 = .ok (.invokevirtual 7, 3) := by decide +kernel
theorem dX2_telling_5 : decode cX2_telling 5 = .ok (.aload_n 0, 1) := by decide +kernel
theorem dX2_telling_6 : decode cX2_telling 6 = .ok (.aload_n 1, 1) := by decide +kernel
theorem dX2_telling_7 : decode cX2_telling 7 = .ok (.invokevirtual 13, 3) := by decide +kernel
theorem dX2_telling_10 : decode cX2_telling 10 = .ok (.bipush 100, 2) := by decide +kernel
theorem dX2_telling_12 : decode cX2_telling 12 = .ok (.iadd, 1) := by decide +kernel
theorem dX2_telling_13 : decode cX2_telling 13 = .ok (.ireturn, 1) := by decide +kernel
set_option maxRecDepth 20000 in
theorem ggX3_init_X3_cameLying : GoodIn wsX3_init wsX3_cameLying := goodIn_r _ [21, 7, 8, 9, 10, 22, 23, 24] (by decide +kernel) (by decide +kernel)
set_option maxRecDepth 20000 in
theorem gX3_init_X3_cameLying : GoodIn wsX3_init (va_wsS RX3 40 yX3_cameLying wsX3_cameLying) := goodIn_app (goodIn_of _ (by decide +kernel)) ggX3_init_X3_cameLying
theorem dX3_init_0 : decode cX3_init 0 = .ok (.aload_n 0, 1) := by decide +kernel
theorem dX3_init_1 : decode cX3_init 1 = .ok (.invokespecial 3, 3) := by decide +kernel
theorem dX3_init_4 : decode cX3_init 4 = .ok (.aload_n 0, 1) := by decide +kernel
theorem dX3_init_5 : decode cX3_init 5 = .ok (.sipush 216, 3) := by decide +kernel
theorem dX3_init_8 : decode cX3_init 8 = .ok (.newarray .int, 2) := by decide +kernel
theorem dX3_init_10 : decode cX3_init 10 = .ok (.putfield 9, 3) := by decide +kernel
theorem dX3_init_13 : decode cX3_init 13 = .ok (.aload_n 0, 1) := by decide +kernel
theorem dX3_init_14 : decode cX3_init 14 = .ok (.iload_n 1, 1) := by decide +kernel
theorem dX3_init_15 : decode cX3_init 15 = .ok (.putfield 15, 3) := by decide +kernel
theorem dX3_init_18 : decode cX3_init 18 = .ok (.aload_n 0, 1) := by decide +kernel
theorem dX3_init_19 : decode cX3_init 19 = .ok (.iconst 1, 1) := by decide +kernel
theorem dX3_init_20 : decode cX3_init 20 = .ok (.bipush 9, 2) := by decide +kernel
theorem dX3_init_22 : decode cX3_init 22 = .ok (.iload_n 2, 1) := by decide +kernel
theorem dX3_init_23 : decode cX3_init 23 = .ok (.invokestatic 19, 3) := by decide +kernel
theorem dX3_init_26 : decode cX3_init 26 = .ok (.invokestatic 25, 3) := by decide +kernel
theorem dX3_init_29 : decode cX3_init 29 = .ok (.putfield 28, 3) := by decide +kernel
theorem dX3_init_32 : decode cX3_init 32 = .ok (.aload_n 0, 1) := by decide +kernel
theorem dX3_init_33 : decode cX3_init 33 = .ok (.iload_n 3, 1) := by decide +kernel
theorem dX3_init_34 : decode cX3_init 34 = .ok (.putfield 31, 3) := by decide +kernel
theorem dX3_init_37 : decode cX3_init 37 = .ok (.aload_n 0, 1) := by decide +kernel
theorem dX3_init_38 : decode cX3_init 38 = .ok (.iload 4, 2) := by decide +kernel
theorem dX3_init_40 : decode cX3_init 40 = .ok (.putfield 34, 3) := by decide +kernel
theorem dX3_init_43 : decode cX3_init 43 = .ok (.aload_n 0, 1) := by decide +kernel
theorem dX3_init_44 : decode cX3_init 44 = .ok (.iload 5, 2) := by decide +kernel
theorem dX3_init_46 : decode cX3_init 46 = .ok (.putfield 37, 3) := by decide +kernel
theorem dX3_init_49 : decode cX3_init 49 = .ok (.iconst 0, 1) := by decide +kernel
theorem dX3_init_50 : decode cX3_init 50 = .ok (.istore 6, 2) := by decide +kernel
theorem dX3_init_52 : decode cX3_init 52 = .ok (.iload 6, 2) := by decide +kernel
theorem dX3_init_54 : decode cX3_init 54 = .ok (.bipush 24, 2) := by decide +kernel
theorem dX3_init_56 : decode cX3_init 56 = .ok (.aload_n 0, 1) := by decide +kernel
theorem dX3_init_57 : decode cX3_init 57 = .ok (.getfield 28, 3) := by decide +kernel
theorem dX3_init_60 : decode cX3_init 60 = .ok (.imul, 1) := by decide +kernel
theorem dX3_init_61 : decode cX3_init 61 = .ok (.if_icmp .ge 27, 3) := by decide +kernel
theorem dX3_init_64 : decode cX3_init 64 = .ok (.aload_n 0, 1) := by decide +kernel
theorem dX3_init_65 : decode cX3_init 65 = .ok (.getfield 9, 3) := by decide +kernel
theorem dX3_init_68 : decode cX3_init 68 = .ok (.iload 6, 2) := by decide +kernel
theorem dX3_init_70 : decode cX3_init 70 = .ok (.iload 6, 2) := by decide +kernel
theorem dX3_init_72 : decode cX3_init 72 = .ok (.aload_n 0, 1) := by decide +kernel
theorem dX3_init_73 : decode cX3_init 73 = .ok (.getfield 28, 3) := by decide +kernel
theorem dX3_init_76 : decode cX3_init 76 = .ok (.iload 5, 2) := by decide +kernel
theorem dX3_init_78 : decode cX3_init 78 = .ok (.invokestatic 40, 3) := by decide +kernel
theorem dX3_init_81 : decode cX3_init 81 = .ok (.iastore, 1) := by decide +kernel
theorem dX3_init_82 : decode cX3_init 82 = .ok (.iinc 6 1, 3) := by decide +kernel
theorem dX3_init_85 : decode cX3_init 85 = .ok (.goto (-33), 3) := by decide +kernel
theorem dX3_init_88 : decode cX3_init 88 = .ok (.return_, 1) := by decide +kernel
theorem dX3_cameLying_0 : decode cX3_cameLying 0 = .ok (.iload_n 0, 1) := by decide +kernel
theorem dX3_cameLying_1 : decode cX3_cameLying 1 = .ok (.bipush 24, 2) := by decide +kernel
theorem dX3_cameLying_3 : decode cX3_cameLying 3 = .ok (.iload_n 1, 1) := by decide +kernel
theorem dX3_cameLying_4 : decode cX3_cameLying 4 = .ok (.imul, 1) := by decide +kernel
theorem dX3_cameLying_5 : decode cX3_cameLying 5 = .ok (.iload_n 0, 1) := by decide +kernel
theorem dX3_cameLying_6 : decode cX3_cameLying 6 = .ok (.isub, 1) := by decide +kernel
theorem dX3_cameLying_7 : decode cX3_cameLying 7 = .ok (.invokestatic 19, 3) := by decide +kernel
theorem dX3_cameLying_10 : decode cX3_cameLying 10 = .ok (.iload_n 2, 1) := by decide +kernel
theorem dX3_cameLying_11 : decode cX3_cameLying 11 = .ok (.iload_n 1, 1) := by decide +kernel
theorem dX3_cameLying_12 : decode cX3_cameLying 12 = .ok (.imul, 1) := by decide +kernel
theorem dX3_cameLying_13 : decode cX3_cameLying 13 = .ok (.if_icmp .gt 5, 3) := by decide +kernel
theorem dX3_cameLying_16 : decode cX3_cameLying 16 = .ok (.iconst 0, 1) := by decide +kernel
theorem dX3_cameLying_17 : decode cX3_cameLying 17 = .ok (.ireturn, 1) := by decide +kernel
theorem dX3_cameLying_18 : decode cX3_cameLying 18 = .ok (.iload_n 0, 1) := by decide +kernel
theorem dX3_cameLying_19 : decode cX3_cameLying 19 = .ok (.bipush 12, 2) := by decide +kernel
theorem dX3_cameLying_21 : decode cX3_cameLying 21 = .ok (.iload_n 1, 1) := by decide +kernel
theorem dX3_cameLying_22 : decode cX3_cameLying 22 = .ok (.imul, 1) := by decide +kernel
theorem dX3_cameLying_23 : decode cX3_cameLying 23 = .ok (.isub, 1) := by decide +kernel
theorem dX3_cameLying_24 : decode cX3_cameLying 24 = .ok (.invokestatic 44, 3) := by decide +kernel
theorem dX3_cameLying_27 : decode cX3_cameLying 27 = .ok (.iload_n 2, 1) := by decide +kernel
theorem dX3_cameLying_28 : decode cX3_cameLying 28 = .ok (.iload_n 1, 1) := by decide +kernel
theorem dX3_cameLying_29 : decode cX3_cameLying 29 = .ok (.imul, 1) := by decide +kernel
theorem dX3_cameLying_30 : decode cX3_cameLying 30 = .ok (.if_icmp .gt 5, 3) := by decide +kernel
theorem dX3_cameLying_33 : decode cX3_cameLying 33 = .ok (.iconst 1, 1) := by decide +kernel
theorem dX3_cameLying_34 : decode cX3_cameLying 34 = .ok (.ireturn, 1) := by decide +kernel
theorem dX3_cameLying_35 : decode cX3_cameLying 35 = .ok (.iload_n 0, 1) := by decide +kernel
theorem dX3_cameLying_36 : decode cX3_cameLying 36 = .ok (.bipush 6, 2) := by decide +kernel
theorem dX3_cameLying_38 : decode cX3_cameLying 38 = .ok (.iload_n 1, 1) := by decide +kernel
theorem dX3_cameLying_39 : decode cX3_cameLying 39 = .ok (.imul, 1) := by decide +kernel
theorem dX3_cameLying_40 : decode cX3_cameLying 40 = .ok (.isub, 1) := by decide +kernel
theorem dX3_cameLying_41 : decode cX3_cameLying 41 = .ok (.invokestatic 44, 3) := by decide +kernel
theorem dX3_cameLying_44 : decode cX3_cameLying 44 = .ok (.iload_n 0, 1) := by decide +kernel
theorem dX3_cameLying_45 : decode cX3_cameLying 45 = .ok (.bipush 18, 2) := by decide +kernel
theorem dX3_cameLying_47 : decode cX3_cameLying 47 = .ok (.iload_n 1, 1) := by decide +kernel
theorem dX3_cameLying_48 : decode cX3_cameLying 48 = .ok (.imul, 1) := by decide +kernel
theorem dX3_cameLying_49 : decode cX3_cameLying 49 = .ok (.isub, 1) := by decide +kernel
theorem dX3_cameLying_50 : decode cX3_cameLying 50 = .ok (.invokestatic 44, 3) := by decide +kernel
theorem dX3_cameLying_53 : decode cX3_cameLying 53 = .ok (.invokestatic 19, 3) := by decide +kernel
theorem dX3_cameLying_56 : decode cX3_cameLying 56 = .ok (.istore_n 3, 1) := by decide +kernel
theorem dX3_cameLying_57 : decode cX3_cameLying 57 = .ok (.iload_n 3, 1) := by decide +kernel
theorem dX3_cameLying_58 : decode cX3_cameLying 58 = .ok (.iconst 2, 1) := by decide +kernel
theorem dX3_cameLying_59 : decode cX3_cameLying 59 = .ok (.iload_n 1, 1) := by decide +kernel
theorem dX3_cameLying_60 : decode cX3_cameLying 60 = .ok (.imul, 1) := by decide +kernel
theorem dX3_cameLying_61 : decode cX3_cameLying 61 = .ok (.if_icmp .gt 7, 3) := by decide +kernel
theorem dX3_cameLying_64 : decode cX3_cameLying 64 = .ok (.iconst 2, 1) := by decide +kernel
theorem dX3_cameLying_65 : decode cX3_cameLying 65 = .ok (.goto 4, 3) := by decide +kernel
theorem dX3_cameLying_68 : decode cX3_cameLying 68 = .ok (.iconst 3, 1) := by decide +kernel
theorem dX3_cameLying_69 : decode cX3_cameLying 69 = .ok (.ireturn, 1) := by decide +kernel
set_option maxRecDepth 20000 in
theorem ggX3_roundBy_J9_floorMod_7cf53 : GoodIn wsX3_roundBy wsJ9_floorMod_7cf53 := goodIn_r _ [5] (by decide +kernel) (by decide +kernel)
set_option maxRecDepth 20000 in
theorem gX3_roundBy_J9_floorMod_7cf53 : GoodIn wsX3_roundBy (va_wsS RX3 48 yJ9_floorMod_7cf53 wsJ9_floorMod_7cf53) := goodIn_app (goodIn_of _ (by decide +kernel)) ggX3_roundBy_J9_floorMod_7cf53
theorem dX3_roundBy_0 : decode cX3_roundBy 0 = .ok (.iload_n 1, 1) := by decide +kernel
theorem dX3_roundBy_1 : decode cX3_roundBy 1 = .ok (.aload_n 0, 1) := by decide +kernel
theorem dX3_roundBy_2 : decode cX3_roundBy 2 = .ok (.getfield 28, 3) := by decide +kernel
theorem dX3_roundBy_5 : decode cX3_roundBy 5 = .ok (.imul, 1) := by decide +kernel
theorem dX3_roundBy_6 : decode cX3_roundBy 6 = .ok (.iload_n 2, 1) := by decide +kernel
theorem dX3_roundBy_7 : decode cX3_roundBy 7 = .ok (.iload_n 3, 1) := by decide +kernel
theorem dX3_roundBy_8 : decode cX3_roundBy 8 = .ok (.imul, 1) := by decide +kernel
theorem dX3_roundBy_9 : decode cX3_roundBy 9 = .ok (.iadd, 1) := by decide +kernel
theorem dX3_roundBy_10 : decode cX3_roundBy 10 = .ok (.bipush 24, 2) := by decide +kernel
theorem dX3_roundBy_12 : decode cX3_roundBy 12 = .ok (.aload_n 0, 1) := by decide +kernel
theorem dX3_roundBy_13 : decode cX3_roundBy 13 = .ok (.getfield 28, 3) := by decide +kernel
theorem dX3_roundBy_16 : decode cX3_roundBy 16 = .ok (.imul, 1) := by decide +kernel
theorem dX3_roundBy_17 : decode cX3_roundBy 17 = .ok (.invokestatic 48, 3) := by decide +kernel
theorem dX3_roundBy_20 : decode cX3_roundBy 20 = .ok (.ireturn, 1) := by decide +kernel
set_option maxRecDepth 20000 in
theorem ggX3_cameBy_X3_roundBy : GoodIn wsX3_cameBy wsX3_roundBy := goodIn_r _ [7, 8, 9, 10, 11, 12, 16, 17, 18, 19, 20, 21, 22, 23, 24, 25, 26, 27, 28, 29, 30, 31, 32, 33] (by decide +kernel) (by decide +kernel)
set_option maxRecDepth 20000 in
theorem gX3_cameBy_X3_roundBy_u51X2 : GoodIn wsX3_cameBy (va_wsU RX3 51 RX2 "KnifeBoard$Knife" ⟨"KnifeBoard$Knife", "roundBy", "(III)I"⟩ yX3_roundBy wsX3_roundBy) := goodIn_app (goodIn_of _ (by decide +kernel)) ggX3_cameBy_X3_roundBy
set_option maxRecDepth 20000 in
theorem gX3_cameBy_X3_roundBy : GoodIn wsX3_cameBy (wsV RX3 51 RX3 yX3_roundBy wsX3_roundBy) := goodIn_app (goodIn_of _ (by decide +kernel)) ggX3_cameBy_X3_roundBy
set_option maxRecDepth 20000 in
theorem gX3_cameBy_X3_roundBy_u51X8 : GoodIn wsX3_cameBy (va_wsU RX3 51 RX8 "KnifeBoard$Knife" ⟨"KnifeBoard$Knife", "roundBy", "(III)I"⟩ yX3_roundBy wsX3_roundBy) := goodIn_app (goodIn_of _ (by decide +kernel)) ggX3_cameBy_X3_roundBy
theorem dX3_cameBy_0 : decode cX3_cameBy 0 = .ok (.aload_n 0, 1) := by decide +kernel
theorem dX3_cameBy_1 : decode cX3_cameBy 1 = .ok (.getfield 9, 3) := by decide +kernel
theorem dX3_cameBy_4 : decode cX3_cameBy 4 = .ok (.aload_n 0, 1) := by decide +kernel
theorem dX3_cameBy_5 : decode cX3_cameBy 5 = .ok (.iload_n 1, 1) := by decide +kernel
theorem dX3_cameBy_6 : decode cX3_cameBy 6 = .ok (.iload_n 2, 1) := by decide +kernel
theorem dX3_cameBy_7 : decode cX3_cameBy 7 = .ok (.iload_n 3, 1) := by decide +kernel
theorem dX3_cameBy_8 : decode cX3_cameBy 8 = .ok (.invokevirtual 51, 3) := by decide +kernel
theorem dX3_cameBy_11 : decode cX3_cameBy 11 = .ok (.iaload, 1) := by decide +kernel
theorem dX3_cameBy_12 : decode cX3_cameBy 12 = .ok (.ireturn, 1) := by decide +kernel
set_option maxRecDepth 20000 in
theorem ggX3_holdsFast_X3_cameBy : GoodIn wsX3_holdsFast wsX3_cameBy := goodIn_r _ [7, 8, 9, 10, 11, 12, 6, 13, 14, 15, 16, 17, 18, 19, 20, 21, 37, 38, 39, 40, 41, 42, 43, 44, 45, 46, 47, 48, 49, 50, 51, 52, 53, 54] (by decide +kernel) (by decide +kernel)
set_option maxRecDepth 20000 in
theorem gX3_holdsFast_X3_cameBy_u54X2 : GoodIn wsX3_holdsFast (va_wsU RX3 54 RX2 "KnifeBoard$Knife" ⟨"KnifeBoard$Knife", "cameBy", "(III)I"⟩ yX3_cameBy wsX3_cameBy) := goodIn_app (goodIn_of _ (by decide +kernel)) ggX3_holdsFast_X3_cameBy
set_option maxRecDepth 20000 in
theorem gX3_holdsFast_X3_cameBy : GoodIn wsX3_holdsFast (wsV RX3 54 RX3 yX3_cameBy wsX3_cameBy) := goodIn_app (goodIn_of _ (by decide +kernel)) ggX3_holdsFast_X3_cameBy
set_option maxRecDepth 20000 in
theorem gX3_holdsFast_X3_cameBy_u54X8 : GoodIn wsX3_holdsFast (va_wsU RX3 54 RX8 "KnifeBoard$Knife" ⟨"KnifeBoard$Knife", "cameBy", "(III)I"⟩ yX3_cameBy wsX3_cameBy) := goodIn_app (goodIn_of _ (by decide +kernel)) ggX3_holdsFast_X3_cameBy
set_option maxRecDepth 20000 in
theorem ggX3_holdsFast_X3_sticksSo : GoodIn wsX3_holdsFast wsX3_sticksSo := goodIn_r _ [29] (by decide +kernel) (by decide +kernel)
set_option maxRecDepth 20000 in
theorem gX3_holdsFast_X3_sticksSo_u57X2 : GoodIn wsX3_holdsFast (va_wsU RX3 57 RX2 "KnifeBoard$Knife" ⟨"KnifeBoard$Knife", "sticksSo", "(I)Z"⟩ yX3_sticksSo wsX3_sticksSo) := goodIn_app (goodIn_of _ (by decide +kernel)) ggX3_holdsFast_X3_sticksSo
set_option maxRecDepth 20000 in
theorem gX3_holdsFast_X3_sticksSo : GoodIn wsX3_holdsFast (wsV RX3 57 RX3 yX3_sticksSo wsX3_sticksSo) := goodIn_app (goodIn_of _ (by decide +kernel)) ggX3_holdsFast_X3_sticksSo
set_option maxRecDepth 20000 in
theorem ggX3_holdsFast_X8_sticksSo : GoodIn wsX3_holdsFast wsX8_sticksSo := goodIn_r _ [36] (by decide +kernel) (by decide +kernel)
set_option maxRecDepth 20000 in
theorem gX3_holdsFast_X8_sticksSo_u57X8 : GoodIn wsX3_holdsFast (va_wsO RX3 57 RX8 "KnifeBoard$Knife" ⟨"KnifeBoard$Knife", "sticksSo", "(I)Z"⟩ yX8_sticksSo wsX8_sticksSo) := goodIn_app (goodIn_of _ (by decide +kernel)) ggX3_holdsFast_X8_sticksSo
theorem dX3_holdsFast_0 : decode cX3_holdsFast 0 = .ok (.aload_n 0, 1) := by decide +kernel
theorem dX3_holdsFast_1 : decode cX3_holdsFast 1 = .ok (.aload_n 0, 1) := by decide +kernel
theorem dX3_holdsFast_2 : decode cX3_holdsFast 2 = .ok (.iload_n 1, 1) := by decide +kernel
theorem dX3_holdsFast_3 : decode cX3_holdsFast 3 = .ok (.aload_n 0, 1) := by decide +kernel
theorem dX3_holdsFast_4 : decode cX3_holdsFast 4 = .ok (.getfield 31, 3) := by decide +kernel
theorem dX3_holdsFast_7 : decode cX3_holdsFast 7 = .ok (.iload_n 2, 1) := by decide +kernel
theorem dX3_holdsFast_8 : decode cX3_holdsFast 8 = .ok (.invokevirtual 54, 3) := by decide +kernel
theorem dX3_holdsFast_11 : decode cX3_holdsFast 11 = .ok (.invokevirtual 57, 3) := by decide +kernel
theorem dX3_holdsFast_14 : decode cX3_holdsFast 14 = .ok (.ireturn, 1) := by decide +kernel
theorem dX3_flightOf_0 : decode cX3_flightOf 0 = .ok (.iload_n 1, 1) := by decide +kernel
theorem dX3_flightOf_1 : decode cX3_flightOf 1 = .ok (.aload_n 0, 1) := by decide +kernel
theorem dX3_flightOf_2 : decode cX3_flightOf 2 = .ok (.getfield 28, 3) := by decide +kernel
theorem dX3_flightOf_5 : decode cX3_flightOf 5 = .ok (.iadd, 1) := by decide +kernel
theorem dX3_flightOf_6 : decode cX3_flightOf 6 = .ok (.iconst 1, 1) := by decide +kernel
theorem dX3_flightOf_7 : decode cX3_flightOf 7 = .ok (.isub, 1) := by decide +kernel
theorem dX3_flightOf_8 : decode cX3_flightOf 8 = .ok (.aload_n 0, 1) := by decide +kernel
theorem dX3_flightOf_9 : decode cX3_flightOf 9 = .ok (.getfield 28, 3) := by decide +kernel
theorem dX3_flightOf_12 : decode cX3_flightOf 12 = .ok (.idiv, 1) := by decide +kernel
theorem dX3_flightOf_13 : decode cX3_flightOf 13 = .ok (.ireturn, 1) := by decide +kernel
theorem dX3_sticksSo_0 : decode cX3_sticksSo 0 = .ok (.iload_n 1, 1) := by decide +kernel
theorem dX3_sticksSo_1 : decode cX3_sticksSo 1 = .ok (.ifCond .ne 7, 3) := by decide +kernel
theorem dX3_sticksSo_4 : decode cX3_sticksSo 4 = .ok (.iconst 1, 1) := by decide +kernel
theorem dX3_sticksSo_5 : decode cX3_sticksSo 5 = .ok (.goto 4, 3) := by decide +kernel
theorem dX3_sticksSo_8 : decode cX3_sticksSo 8 = .ok (.iconst 0, 1) := by decide +kernel
theorem dX3_sticksSo_9 : decode cX3_sticksSo 9 = .ok (.ireturn, 1) := by decide +kernel
theorem dX3_kindNumber_0 : decode cX3_kindNumber 0 = .ok (.iconst 0, 1) := by decide +kernel
theorem dX3_kindNumber_1 : decode cX3_kindNumber 1 = .ok (.ireturn, 1) := by decide +kernel
set_option maxRecDepth 20000 in
theorem ggX3_telling_X3_tellingOfKnife : GoodIn wsX3_telling wsX3_tellingOfKnife := goodIn_r _ [6, 7, 8, 9, 10, 11, 12, 13, 17, 18, 19, 20, 21, 22, 23, 24, 25, 26, 27, 28, 29, 30, 31, 32, 33, 34, 35] (by decide +kernel) (by decide +kernel)
set_option maxRecDepth 20000 in
theorem gX3_telling_X3_tellingOfKnife_u61X2 : GoodIn wsX3_telling (va_wsU RX3 61 RX2 "KnifeBoard$Knife" ⟨"KnifeBoard$Knife", "tellingOfKnife", "(LKnifeBoard$Trace;)I"⟩ yX3_tellingOfKnife wsX3_tellingOfKnife) := goodIn_app (goodIn_of _ (by decide +kernel)) ggX3_telling_X3_tellingOfKnife
set_option maxRecDepth 20000 in
theorem gX3_telling_X3_tellingOfKnife : GoodIn wsX3_telling (wsV RX3 61 RX3 yX3_tellingOfKnife wsX3_tellingOfKnife) := goodIn_app (goodIn_of _ (by decide +kernel)) ggX3_telling_X3_tellingOfKnife
set_option maxRecDepth 20000 in
theorem gX3_telling_X3_tellingOfKnife_u61X8 : GoodIn wsX3_telling (va_wsU RX3 61 RX8 "KnifeBoard$Knife" ⟨"KnifeBoard$Knife", "tellingOfKnife", "(LKnifeBoard$Trace;)I"⟩ yX3_tellingOfKnife wsX3_tellingOfKnife) := goodIn_app (goodIn_of _ (by decide +kernel)) ggX3_telling_X3_tellingOfKnife
theorem dX3_telling_0 : decode cX3_telling 0 = .ok (.aload_n 0, 1) := by decide +kernel
theorem dX3_telling_1 : decode cX3_telling 1 = .ok (.aload_n 1, 1) := by decide +kernel
theorem dX3_telling_2 : decode cX3_telling 2 = .ok (.invokevirtual 61, 3) := by decide +kernel
theorem dX3_telling_5 : decode cX3_telling 5 = .ok (.ireturn, 1) := by decide +kernel
set_option maxRecDepth 20000 in
theorem ggX3_tellingOfKnife_X7_leave : GoodIn wsX3_tellingOfKnife wsX7_leave := goodIn_r _ [6, 7, 26] (by decide +kernel) (by decide +kernel)
set_option maxRecDepth 20000 in
theorem gX3_tellingOfKnife_X7_leave : GoodIn wsX3_tellingOfKnife (wsV RX3 65 RX7 yX7_leave wsX7_leave) := goodIn_app (goodIn_of _ (by decide +kernel)) ggX3_tellingOfKnife_X7_leave
theorem dX3_tellingOfKnife_0 : decode cX3_tellingOfKnife 0 = .ok (.aload_n 1, 1) := by decide +kernel
theorem dX3_tellingOfKnife_1 : decode cX3_tellingOfKnife 1 = .ok (.iconst 1, 1) := by decide +kernel
theorem dX3_tellingOfKnife_2 : decode cX3_tellingOfKnife 2 = .ok (.invokevirtual 65, 3) := by decide +kernel
theorem dX3_tellingOfKnife_5 : decode cX3_tellingOfKnife 5 = .ok (.aload_n 0, 1) := by decide +kernel
theorem dX3_tellingOfKnife_6 : decode cX3_tellingOfKnife 6 = .ok (.getfield 28, 3) := by decide +kernel
theorem dX3_tellingOfKnife_9 : decode cX3_tellingOfKnife 9 = .ok (.ireturn, 1) := by decide +kernel
set_option maxRecDepth 20000 in
theorem ggX3_whetting_X7_leave : GoodIn wsX3_whetting wsX7_leave := goodIn_r _ [6, 7, 26] (by decide +kernel) (by decide +kernel)
set_option maxRecDepth 20000 in
theorem gX3_whetting_X7_leave : GoodIn wsX3_whetting (wsV RX3 65 RX7 yX7_leave wsX7_leave) := goodIn_app (goodIn_of _ (by decide +kernel)) ggX3_whetting_X7_leave
theorem dX3_whetting_0 : decode cX3_whetting 0 = .ok (.aload_n 1, 1) := by decide +kernel
theorem dX3_whetting_1 : decode cX3_whetting 1 = .ok (.iconst 4, 1) := by decide +kernel
theorem dX3_whetting_2 : decode cX3_whetting 2 = .ok (.invokevirtual 65, 3) := by decide +kernel
theorem dX3_whetting_5 : decode cX3_whetting 5 = .ok (.aload_n 0, 1) := by decide +kernel
theorem dX3_whetting_6 : decode cX3_whetting 6 = .ok (.getfield 15, 3) := by decide +kernel
theorem dX3_whetting_9 : decode cX3_whetting 9 = .ok (.ireturn, 1) := by decide +kernel
theorem dX4_init_0 : decode cX4_init 0 = .ok (.aload_n 0, 1) := by decide +kernel
theorem dX4_init_1 : decode cX4_init 1 = .ok (.invokespecial 3, 3) := by decide +kernel
theorem dX4_init_4 : decode cX4_init 4 = .ok (.aload_n 0, 1) := by decide +kernel
theorem dX4_init_5 : decode cX4_init 5 = .ok (.bipush 10, 2) := by decide +kernel
theorem dX4_init_7 : decode cX4_init 7 = .ok (.newarray .int, 2) := by decide +kernel
theorem dX4_init_9 : decode cX4_init 9 = .ok (.putfield 9, 3) := by decide +kernel
theorem dX4_init_12 : decode cX4_init 12 = .ok (.aload_n 0, 1) := by decide +kernel
theorem dX4_init_13 : decode cX4_init 13 = .ok (.bipush 10, 2) := by decide +kernel
theorem dX4_init_15 : decode cX4_init 15 = .ok (.newarray .int, 2) := by decide +kernel
theorem dX4_init_17 : decode cX4_init 17 = .ok (.putfield 15, 3) := by decide +kernel
theorem dX4_init_20 : decode cX4_init 20 = .ok (.aload_n 0, 1) := by decide +kernel
theorem dX4_init_21 : decode cX4_init 21 = .ok (.iconst 0, 1) := by decide +kernel
theorem dX4_init_22 : decode cX4_init 22 = .ok (.putfield 18, 3) := by decide +kernel
theorem dX4_init_25 : decode cX4_init 25 = .ok (.aload_n 0, 1) := by decide +kernel
theorem dX4_init_26 : decode cX4_init 26 = .ok (.sipush 576, 3) := by decide +kernel
theorem dX4_init_29 : decode cX4_init 29 = .ok (.newarray .int, 2) := by decide +kernel
theorem dX4_init_31 : decode cX4_init 31 = .ok (.putfield 22, 3) := by decide +kernel
theorem dX4_init_34 : decode cX4_init 34 = .ok (.aload_n 0, 1) := by decide +kernel
theorem dX4_init_35 : decode cX4_init 35 = .ok (.sipush 576, 3) := by decide +kernel
theorem dX4_init_38 : decode cX4_init 38 = .ok (.newarray .int, 2) := by decide +kernel
theorem dX4_init_40 : decode cX4_init 40 = .ok (.putfield 25, 3) := by decide +kernel
theorem dX4_init_43 : decode cX4_init 43 = .ok (.aload_n 0, 1) := by decide +kernel
theorem dX4_init_44 : decode cX4_init 44 = .ok (.iconst 4, 1) := by decide +kernel
theorem dX4_init_45 : decode cX4_init 45 = .ok (.newarray .int, 2) := by decide +kernel
theorem dX4_init_47 : decode cX4_init 47 = .ok (.putfield 28, 3) := by decide +kernel
theorem dX4_init_50 : decode cX4_init 50 = .ok (.aload_n 0, 1) := by decide +kernel
theorem dX4_init_51 : decode cX4_init 51 = .ok (.iconst 0, 1) := by decide +kernel
theorem dX4_init_52 : decode cX4_init 52 = .ok (.putfield 31, 3) := by decide +kernel
theorem dX4_init_55 : decode cX4_init 55 = .ok (.return_, 1) := by decide +kernel
set_option maxRecDepth 20000 in
theorem ggX4_add_X9_within : GoodIn wsX4_add wsX9_within := goodIn_r _ [6] (by decide +kernel) (by decide +kernel)
set_option maxRecDepth 20000 in
theorem gX4_add_X9_within_n34 : GoodIn wsX4_add (wsX9_within) := ggX4_add_X9_within
theorem dX4_add_0 : decode cX4_add 0 = .ok (.aload_n 0, 1) := by decide +kernel
theorem dX4_add_1 : decode cX4_add 1 = .ok (.getfield 18, 3) := by decide +kernel
theorem dX4_add_4 : decode cX4_add 4 = .ok (.iconst 0, 1) := by decide +kernel
theorem dX4_add_5 : decode cX4_add 5 = .ok (.bipush 9, 2) := by decide +kernel
theorem dX4_add_7 : decode cX4_add 7 = .ok (.invokestatic 34, 3) := by decide +kernel
theorem dX4_add_10 : decode cX4_add 10 = .ok (.ifCond .ne 4, 3) := by decide +kernel
theorem dX4_add_13 : decode cX4_add 13 = .ok (.return_, 1) := by decide +kernel
theorem dX4_add_14 : decode cX4_add 14 = .ok (.aload_n 0, 1) := by decide +kernel
theorem dX4_add_15 : decode cX4_add 15 = .ok (.getfield 9, 3) := by decide +kernel
theorem dX4_add_18 : decode cX4_add 18 = .ok (.aload_n 0, 1) := by decide +kernel
theorem dX4_add_19 : decode cX4_add 19 = .ok (.getfield 18, 3) := by decide +kernel
theorem dX4_add_22 : decode cX4_add 22 = .ok (.iload_n 1, 1) := by decide +kernel
theorem dX4_add_23 : decode cX4_add 23 = .ok (.iastore, 1) := by decide +kernel
theorem dX4_add_24 : decode cX4_add 24 = .ok (.aload_n 0, 1) := by decide +kernel
theorem dX4_add_25 : decode cX4_add 25 = .ok (.getfield 15, 3) := by decide +kernel
theorem dX4_add_28 : decode cX4_add 28 = .ok (.aload_n 0, 1) := by decide +kernel
theorem dX4_add_29 : decode cX4_add 29 = .ok (.getfield 18, 3) := by decide +kernel
theorem dX4_add_32 : decode cX4_add 32 = .ok (.iload_n 2, 1) := by decide +kernel
theorem dX4_add_33 : decode cX4_add 33 = .ok (.iastore, 1) := by decide +kernel
theorem dX4_add_34 : decode cX4_add 34 = .ok (.aload_n 0, 1) := by decide +kernel
theorem dX4_add_35 : decode cX4_add 35 = .ok (.dup, 1) := by decide +kernel
theorem dX4_add_36 : decode cX4_add 36 = .ok (.getfield 18, 3) := by decide +kernel
theorem dX4_add_39 : decode cX4_add 39 = .ok (.iconst 1, 1) := by decide +kernel
theorem dX4_add_40 : decode cX4_add 40 = .ok (.iadd, 1) := by decide +kernel
theorem dX4_add_41 : decode cX4_add 41 = .ok (.putfield 18, 3) := by decide +kernel
theorem dX4_add_44 : decode cX4_add 44 = .ok (.return_, 1) := by decide +kernel
set_option maxRecDepth 20000 in
theorem ggX4_seekThrown_X4_isSo : GoodIn wsX4_seekThrown wsX4_isSo := goodIn_r _ [8, 9, 10, 11, 12, 13, 14, 15, 16, 17, 18, 19, 20, 21, 22, 23, 24, 25, 26, 27, 28, 29, 30, 31, 32, 33, 34, 35, 36, 37, 38, 39, 40, 41, 42, 43, 44, 45, 46, 47, 48, 49, 50, 51, 52, 53, 54, 55, 56, 57, 58, 59] (by decide +kernel) (by decide +kernel)
set_option maxRecDepth 20000 in
theorem gX4_seekThrown_X4_isSo : GoodIn wsX4_seekThrown (wsV RX4 38 RX4 yX4_isSo wsX4_isSo) := goodIn_app (goodIn_of _ (by decide +kernel)) ggX4_seekThrown_X4_isSo
theorem dX4_seekThrown_0 : decode cX4_seekThrown 0 = .ok (.aload_n 0, 1) := by decide +kernel
theorem dX4_seekThrown_1 : decode cX4_seekThrown 1 = .ok (.iconst 0, 1) := by decide +kernel
theorem dX4_seekThrown_2 : decode cX4_seekThrown 2 = .ok (.putfield 31, 3) := by decide +kernel
theorem dX4_seekThrown_5 : decode cX4_seekThrown 5 = .ok (.iconst 0, 1) := by decide +kernel
theorem dX4_seekThrown_6 : decode cX4_seekThrown 6 = .ok (.istore_n 2, 1) := by decide +kernel
theorem dX4_seekThrown_7 : decode cX4_seekThrown 7 = .ok (.iload_n 2, 1) := by decide +kernel
theorem dX4_seekThrown_8 : decode cX4_seekThrown 8 = .ok (.bipush 23, 2) := by decide +kernel
theorem dX4_seekThrown_10 : decode cX4_seekThrown 10 = .ok (.if_icmp .gt 73, 3) := by decide +kernel
theorem dX4_seekThrown_13 : decode cX4_seekThrown 13 = .ok (.iconst 1, 1) := by decide +kernel
theorem dX4_seekThrown_14 : decode cX4_seekThrown 14 = .ok (.istore_n 3, 1) := by decide +kernel
theorem dX4_seekThrown_15 : decode cX4_seekThrown 15 = .ok (.iload_n 3, 1) := by decide +kernel
theorem dX4_seekThrown_16 : decode cX4_seekThrown 16 = .ok (.bipush 24, 2) := by decide +kernel
theorem dX4_seekThrown_18 : decode cX4_seekThrown 18 = .ok (.if_icmp .gt 59, 3) := by decide +kernel
theorem dX4_seekThrown_21 : decode cX4_seekThrown 21 = .ok (.aload_n 0, 1) := by decide +kernel
theorem dX4_seekThrown_22 : decode cX4_seekThrown 22 = .ok (.getfield 31, 3) := by decide +kernel
theorem dX4_seekThrown_25 : decode cX4_seekThrown 25 = .ok (.sipush 576, 3) := by decide +kernel
theorem dX4_seekThrown_28 : decode cX4_seekThrown 28 = .ok (.if_icmp .ge 43, 3) := by decide +kernel
theorem dX4_seekThrown_31 : decode cX4_seekThrown 31 = .ok (.aload_n 0, 1) := by decide +kernel
theorem dX4_seekThrown_32 : decode cX4_seekThrown 32 = .ok (.aload_n 1, 1) := by decide +kernel
theorem dX4_seekThrown_33 : decode cX4_seekThrown 33 = .ok (.iload_n 2, 1) := by decide +kernel
theorem dX4_seekThrown_34 : decode cX4_seekThrown 34 = .ok (.iload_n 3, 1) := by decide +kernel
theorem dX4_seekThrown_35 : decode cX4_seekThrown 35 = .ok (.invokevirtual 38, 3) := by decide +kernel
theorem dX4_seekThrown_38 : decode cX4_seekThrown 38 = .ok (.ifCond .eq 33, 3) := by decide +kernel
theorem dX4_seekThrown_41 : decode cX4_seekThrown 41 = .ok (.aload_n 0, 1) := by decide +kernel
theorem dX4_seekThrown_42 : decode cX4_seekThrown 42 = .ok (.getfield 22, 3) := by decide +kernel
theorem dX4_seekThrown_45 : decode cX4_seekThrown 45 = .ok (.aload_n 0, 1) := by decide +kernel
theorem dX4_seekThrown_46 : decode cX4_seekThrown 46 = .ok (.getfield 31, 3) := by decide +kernel
theorem dX4_seekThrown_49 : decode cX4_seekThrown 49 = .ok (.iload_n 2, 1) := by decide +kernel
theorem dX4_seekThrown_50 : decode cX4_seekThrown 50 = .ok (.iastore, 1) := by decide +kernel
theorem dX4_seekThrown_51 : decode cX4_seekThrown 51 = .ok (.aload_n 0, 1) := by decide +kernel
theorem dX4_seekThrown_52 : decode cX4_seekThrown 52 = .ok (.getfield 25, 3) := by decide +kernel
theorem dX4_seekThrown_55 : decode cX4_seekThrown 55 = .ok (.aload_n 0, 1) := by decide +kernel
theorem dX4_seekThrown_56 : decode cX4_seekThrown 56 = .ok (.getfield 31, 3) := by decide +kernel
theorem dX4_seekThrown_59 : decode cX4_seekThrown 59 = .ok (.iload_n 3, 1) := by decide +kernel
theorem dX4_seekThrown_60 : decode cX4_seekThrown 60 = .ok (.iastore, 1) := by decide +kernel
theorem dX4_seekThrown_61 : decode cX4_seekThrown 61 = .ok (.aload_n 0, 1) := by decide +kernel
theorem dX4_seekThrown_62 : decode cX4_seekThrown 62 = .ok (.dup, 1) := by decide +kernel
theorem dX4_seekThrown_63 : decode cX4_seekThrown 63 = .ok (.getfield 31, 3) := by decide +kernel
theorem dX4_seekThrown_66 : decode cX4_seekThrown 66 = .ok (.iconst 1, 1) := by decide +kernel
theorem dX4_seekThrown_67 : decode cX4_seekThrown 67 = .ok (.iadd, 1) := by decide +kernel
theorem dX4_seekThrown_68 : decode cX4_seekThrown 68 = .ok (.putfield 31, 3) := by decide +kernel
theorem dX4_seekThrown_71 : decode cX4_seekThrown 71 = .ok (.iinc 3 1, 3) := by decide +kernel
theorem dX4_seekThrown_74 : decode cX4_seekThrown 74 = .ok (.goto (-59), 3) := by decide +kernel
theorem dX4_seekThrown_77 : decode cX4_seekThrown 77 = .ok (.iinc 2 1, 3) := by decide +kernel
theorem dX4_seekThrown_80 : decode cX4_seekThrown 80 = .ok (.goto (-73), 3) := by decide +kernel
theorem dX4_seekThrown_83 : decode cX4_seekThrown 83 = .ok (.return_, 1) := by decide +kernel
set_option maxRecDepth 20000 in
theorem ggX4_isSo_X3_cameBy : GoodIn wsX4_isSo wsX3_cameBy := goodIn_r _ [9, 10, 11, 12, 13, 14, 8, 15, 16, 17, 18, 19, 20, 21, 22, 23, 34, 35, 36, 37, 38, 39, 40, 41, 42, 43, 44, 45, 46, 47, 48, 49, 50, 51] (by decide +kernel) (by decide +kernel)
set_option maxRecDepth 20000 in
theorem gX4_isSo_X3_cameBy_u42X2 : GoodIn wsX4_isSo (va_wsU RX4 42 RX2 "KnifeBoard$Knife" ⟨"KnifeBoard$Knife", "cameBy", "(III)I"⟩ yX3_cameBy wsX3_cameBy) := goodIn_app (goodIn_of _ (by decide +kernel)) ggX4_isSo_X3_cameBy
set_option maxRecDepth 20000 in
theorem gX4_isSo_X3_cameBy : GoodIn wsX4_isSo (wsV RX4 42 RX3 yX3_cameBy wsX3_cameBy) := goodIn_app (goodIn_of _ (by decide +kernel)) ggX4_isSo_X3_cameBy
set_option maxRecDepth 20000 in
theorem gX4_isSo_X3_cameBy_u42X8 : GoodIn wsX4_isSo (va_wsU RX4 42 RX8 "KnifeBoard$Knife" ⟨"KnifeBoard$Knife", "cameBy", "(III)I"⟩ yX3_cameBy wsX3_cameBy) := goodIn_app (goodIn_of _ (by decide +kernel)) ggX4_isSo_X3_cameBy
theorem dX4_isSo_0 : decode cX4_isSo 0 = .ok (.iconst 0, 1) := by decide +kernel
theorem dX4_isSo_1 : decode cX4_isSo 1 = .ok (.istore 4, 2) := by decide +kernel
theorem dX4_isSo_3 : decode cX4_isSo 3 = .ok (.iload 4, 2) := by decide +kernel
theorem dX4_isSo_5 : decode cX4_isSo 5 = .ok (.aload_n 0, 1) := by decide +kernel
theorem dX4_isSo_6 : decode cX4_isSo 6 = .ok (.getfield 18, 3) := by decide +kernel
theorem dX4_isSo_9 : decode cX4_isSo 9 = .ok (.if_icmp .ge 34, 3) := by decide +kernel
theorem dX4_isSo_12 : decode cX4_isSo 12 = .ok (.aload_n 1, 1) := by decide +kernel
theorem dX4_isSo_13 : decode cX4_isSo 13 = .ok (.iload_n 2, 1) := by decide +kernel
theorem dX4_isSo_14 : decode cX4_isSo 14 = .ok (.iload_n 3, 1) := by decide +kernel
theorem dX4_isSo_15 : decode cX4_isSo 15 = .ok (.aload_n 0, 1) := by decide +kernel
theorem dX4_isSo_16 : decode cX4_isSo 16 = .ok (.getfield 9, 3) := by decide +kernel
theorem dX4_isSo_19 : decode cX4_isSo 19 = .ok (.iload 4, 2) := by decide +kernel
theorem dX4_isSo_21 : decode cX4_isSo 21 = .ok (.iaload, 1) := by decide +kernel
theorem dX4_isSo_22 : decode cX4_isSo 22 = .ok (.invokevirtual 42, 3) := by decide +kernel
theorem dX4_isSo_25 : decode cX4_isSo 25 = .ok (.aload_n 0, 1) := by decide +kernel
theorem dX4_isSo_26 : decode cX4_isSo 26 = .ok (.getfield 15, 3) := by decide +kernel
theorem dX4_isSo_29 : decode cX4_isSo 29 = .ok (.iload 4, 2) := by decide +kernel
theorem dX4_isSo_31 : decode cX4_isSo 31 = .ok (.iaload, 1) := by decide +kernel
theorem dX4_isSo_32 : decode cX4_isSo 32 = .ok (.if_icmp .eq 5, 3) := by decide +kernel
theorem dX4_isSo_35 : decode cX4_isSo 35 = .ok (.iconst 0, 1) := by decide +kernel
theorem dX4_isSo_36 : decode cX4_isSo 36 = .ok (.ireturn, 1) := by decide +kernel
theorem dX4_isSo_37 : decode cX4_isSo 37 = .ok (.iinc 4 1, 3) := by decide +kernel
theorem dX4_isSo_40 : decode cX4_isSo 40 = .ok (.goto (-37), 3) := by decide +kernel
theorem dX4_isSo_43 : decode cX4_isSo 43 = .ok (.iconst 1, 1) := by decide +kernel
theorem dX4_isSo_44 : decode cX4_isSo 44 = .ok (.ireturn, 1) := by decide +kernel
theorem dX4_firstThrown_0 : decode cX4_firstThrown 0 = .ok (.aload_n 0, 1) := by decide +kernel
theorem dX4_firstThrown_1 : decode cX4_firstThrown 1 = .ok (.getfield 31, 3) := by decide +kernel
theorem dX4_firstThrown_4 : decode cX4_firstThrown 4 = .ok (.ifCond .ne 8, 3) := by decide +kernel
theorem dX4_firstThrown_7 : decode cX4_firstThrown 7 = .ok (.bipush (-9), 2) := by decide +kernel
theorem dX4_firstThrown_9 : decode cX4_firstThrown 9 = .ok (.goto 19, 3) := by decide +kernel
theorem dX4_firstThrown_12 : decode cX4_firstThrown 12 = .ok (.bipush 100, 2) := by decide +kernel
theorem dX4_firstThrown_14 : decode cX4_firstThrown 14 = .ok (.aload_n 0, 1) := by decide +kernel
theorem dX4_firstThrown_15 : decode cX4_firstThrown 15 = .ok (.getfield 22, 3) := by decide +kernel
theorem dX4_firstThrown_18 : decode cX4_firstThrown 18 = .ok (.iconst 0, 1) := by decide +kernel
theorem dX4_firstThrown_19 : decode cX4_firstThrown 19 = .ok (.iaload, 1) := by decide +kernel
theorem dX4_firstThrown_20 : decode cX4_firstThrown 20 = .ok (.imul, 1) := by decide +kernel
theorem dX4_firstThrown_21 : decode cX4_firstThrown 21 = .ok (.aload_n 0, 1) := by decide +kernel
theorem dX4_firstThrown_22 : decode cX4_firstThrown 22 = .ok (.getfield 25, 3) := by decide +kernel
theorem dX4_firstThrown_25 : decode cX4_firstThrown 25 = .ok (.iconst 0, 1) := by decide +kernel
theorem dX4_firstThrown_26 : decode cX4_firstThrown 26 = .ok (.iaload, 1) := by decide +kernel
theorem dX4_firstThrown_27 : decode cX4_firstThrown 27 = .ok (.iadd, 1) := by decide +kernel
theorem dX4_firstThrown_28 : decode cX4_firstThrown 28 = .ok (.ireturn, 1) := by decide +kernel
set_option maxRecDepth 20000 in
theorem ggX4_leftAtWorst_X3_cameBy : GoodIn wsX4_leftAtWorst wsX3_cameBy := goodIn_r _ [14, 15, 16, 17, 18, 19, 13, 20, 21, 22, 23, 24, 25, 26, 27, 28, 39, 40, 41, 42, 43, 44, 45, 46, 47, 48, 49, 50, 51, 52, 53, 54, 55, 56] (by decide +kernel) (by decide +kernel)
set_option maxRecDepth 20000 in
theorem gX4_leftAtWorst_X3_cameBy_u42X2 : GoodIn wsX4_leftAtWorst (va_wsU RX4 42 RX2 "KnifeBoard$Knife" ⟨"KnifeBoard$Knife", "cameBy", "(III)I"⟩ yX3_cameBy wsX3_cameBy) := goodIn_app (goodIn_of _ (by decide +kernel)) ggX4_leftAtWorst_X3_cameBy
set_option maxRecDepth 20000 in
theorem gX4_leftAtWorst_X3_cameBy : GoodIn wsX4_leftAtWorst (wsV RX4 42 RX3 yX3_cameBy wsX3_cameBy) := goodIn_app (goodIn_of _ (by decide +kernel)) ggX4_leftAtWorst_X3_cameBy
set_option maxRecDepth 20000 in
theorem gX4_leftAtWorst_X3_cameBy_u42X8 : GoodIn wsX4_leftAtWorst (va_wsU RX4 42 RX8 "KnifeBoard$Knife" ⟨"KnifeBoard$Knife", "cameBy", "(III)I"⟩ yX3_cameBy wsX3_cameBy) := goodIn_app (goodIn_of _ (by decide +kernel)) ggX4_leftAtWorst_X3_cameBy
theorem dX4_leftAtWorst_0 : decode cX4_leftAtWorst 0 = .ok (.iconst 0, 1) := by decide +kernel
theorem dX4_leftAtWorst_1 : decode cX4_leftAtWorst 1 = .ok (.istore_n 3, 1) := by decide +kernel
theorem dX4_leftAtWorst_2 : decode cX4_leftAtWorst 2 = .ok (.iload_n 3, 1) := by decide +kernel
theorem dX4_leftAtWorst_3 : decode cX4_leftAtWorst 3 = .ok (.iconst 3, 1) := by decide +kernel
theorem dX4_leftAtWorst_4 : decode cX4_leftAtWorst 4 = .ok (.if_icmp .gt 16, 3) := by decide +kernel
theorem dX4_leftAtWorst_7 : decode cX4_leftAtWorst 7 = .ok (.aload_n 0, 1) := by decide +kernel
theorem dX4_leftAtWorst_8 : decode cX4_leftAtWorst 8 = .ok (.getfield 28, 3) := by decide +kernel
theorem dX4_leftAtWorst_11 : decode cX4_leftAtWorst 11 = .ok (.iload_n 3, 1) := by decide +kernel
theorem dX4_leftAtWorst_12 : decode cX4_leftAtWorst 12 = .ok (.iconst 0, 1) := by decide +kernel
theorem dX4_leftAtWorst_13 : decode cX4_leftAtWorst 13 = .ok (.iastore, 1) := by decide +kernel
theorem dX4_leftAtWorst_14 : decode cX4_leftAtWorst 14 = .ok (.iinc 3 1, 3) := by decide +kernel
theorem dX4_leftAtWorst_17 : decode cX4_leftAtWorst 17 = .ok (.goto (-15), 3) := by decide +kernel
theorem dX4_leftAtWorst_20 : decode cX4_leftAtWorst 20 = .ok (.iconst 0, 1) := by decide +kernel
theorem dX4_leftAtWorst_21 : decode cX4_leftAtWorst 21 = .ok (.istore_n 3, 1) := by decide +kernel
theorem dX4_leftAtWorst_22 : decode cX4_leftAtWorst 22 = .ok (.iload_n 3, 1) := by decide +kernel
theorem dX4_leftAtWorst_23 : decode cX4_leftAtWorst 23 = .ok (.aload_n 0, 1) := by decide +kernel
theorem dX4_leftAtWorst_24 : decode cX4_leftAtWorst 24 = .ok (.getfield 31, 3) := by decide +kernel
theorem dX4_leftAtWorst_27 : decode cX4_leftAtWorst 27 = .ok (.if_icmp .ge 35, 3) := by decide +kernel
theorem dX4_leftAtWorst_30 : decode cX4_leftAtWorst 30 = .ok (.aload_n 0, 1) := by decide +kernel
theorem dX4_leftAtWorst_31 : decode cX4_leftAtWorst 31 = .ok (.getfield 28, 3) := by decide +kernel
theorem dX4_leftAtWorst_34 : decode cX4_leftAtWorst 34 = .ok (.aload_n 1, 1) := by decide +kernel
theorem dX4_leftAtWorst_35 : decode cX4_leftAtWorst 35 = .ok (.aload_n 0, 1) := by decide +kernel
theorem dX4_leftAtWorst_36 : decode cX4_leftAtWorst 36 = .ok (.getfield 22, 3) := by decide +kernel
theorem dX4_leftAtWorst_39 : decode cX4_leftAtWorst 39 = .ok (.iload_n 3, 1) := by decide +kernel
theorem dX4_leftAtWorst_40 : decode cX4_leftAtWorst 40 = .ok (.iaload, 1) := by decide +kernel
theorem dX4_leftAtWorst_41 : decode cX4_leftAtWorst 41 = .ok (.aload_n 0, 1) := by decide +kernel
theorem dX4_leftAtWorst_42 : decode cX4_leftAtWorst 42 = .ok (.getfield 25, 3) := by decide +kernel
theorem dX4_leftAtWorst_45 : decode cX4_leftAtWorst 45 = .ok (.iload_n 3, 1) := by decide +kernel
theorem dX4_leftAtWorst_46 : decode cX4_leftAtWorst 46 = .ok (.iaload, 1) := by decide +kernel
theorem dX4_leftAtWorst_47 : decode cX4_leftAtWorst 47 = .ok (.iload_n 2, 1) := by decide +kernel
theorem dX4_leftAtWorst_48 : decode cX4_leftAtWorst 48 = .ok (.invokevirtual 42, 3) := by decide +kernel
theorem dX4_leftAtWorst_51 : decode cX4_leftAtWorst 51 = .ok (.dup2, 1) := by decide +kernel
theorem dX4_leftAtWorst_52 : decode cX4_leftAtWorst 52 = .ok (.iaload, 1) := by decide +kernel
theorem dX4_leftAtWorst_53 : decode cX4_leftAtWorst 53 = .ok (.iconst 1, 1) := by decide +kernel
theorem dX4_leftAtWorst_54 : decode cX4_leftAtWorst 54 = .ok (.iadd, 1) := by decide +kernel
theorem dX4_leftAtWorst_55 : decode cX4_leftAtWorst 55 = .ok (.iastore, 1) := by decide +kernel
theorem dX4_leftAtWorst_56 : decode cX4_leftAtWorst 56 = .ok (.iinc 3 1, 3) := by decide +kernel
theorem dX4_leftAtWorst_59 : decode cX4_leftAtWorst 59 = .ok (.goto (-37), 3) := by decide +kernel
theorem dX4_leftAtWorst_62 : decode cX4_leftAtWorst 62 = .ok (.aload_n 0, 1) := by decide +kernel
theorem dX4_leftAtWorst_63 : decode cX4_leftAtWorst 63 = .ok (.getfield 28, 3) := by decide +kernel
theorem dX4_leftAtWorst_66 : decode cX4_leftAtWorst 66 = .ok (.iconst 0, 1) := by decide +kernel
theorem dX4_leftAtWorst_67 : decode cX4_leftAtWorst 67 = .ok (.iaload, 1) := by decide +kernel
theorem dX4_leftAtWorst_68 : decode cX4_leftAtWorst 68 = .ok (.aload_n 0, 1) := by decide +kernel
theorem dX4_leftAtWorst_69 : decode cX4_leftAtWorst 69 = .ok (.getfield 28, 3) := by decide +kernel
theorem dX4_leftAtWorst_72 : decode cX4_leftAtWorst 72 = .ok (.iconst 1, 1) := by decide +kernel
theorem dX4_leftAtWorst_73 : decode cX4_leftAtWorst 73 = .ok (.iaload, 1) := by decide +kernel
theorem dX4_leftAtWorst_74 : decode cX4_leftAtWorst 74 = .ok (.invokestatic 48, 3) := by decide +kernel
theorem dX4_leftAtWorst_77 : decode cX4_leftAtWorst 77 = .ok (.aload_n 0, 1) := by decide +kernel
theorem dX4_leftAtWorst_78 : decode cX4_leftAtWorst 78 = .ok (.getfield 28, 3) := by decide +kernel
theorem dX4_leftAtWorst_81 : decode cX4_leftAtWorst 81 = .ok (.iconst 2, 1) := by decide +kernel
theorem dX4_leftAtWorst_82 : decode cX4_leftAtWorst 82 = .ok (.iaload, 1) := by decide +kernel
theorem dX4_leftAtWorst_83 : decode cX4_leftAtWorst 83 = .ok (.aload_n 0, 1) := by decide +kernel
theorem dX4_leftAtWorst_84 : decode cX4_leftAtWorst 84 = .ok (.getfield 28, 3) := by decide +kernel
theorem dX4_leftAtWorst_87 : decode cX4_leftAtWorst 87 = .ok (.iconst 3, 1) := by decide +kernel
theorem dX4_leftAtWorst_88 : decode cX4_leftAtWorst 88 = .ok (.iaload, 1) := by decide +kernel
theorem dX4_leftAtWorst_89 : decode cX4_leftAtWorst 89 = .ok (.invokestatic 48, 3) := by decide +kernel
theorem dX4_leftAtWorst_92 : decode cX4_leftAtWorst 92 = .ok (.invokestatic 48, 3) := by decide +kernel
theorem dX4_leftAtWorst_95 : decode cX4_leftAtWorst 95 = .ok (.ireturn, 1) := by decide +kernel
theorem dX5_init_0 : decode cX5_init 0 = .ok (.aload_n 0, 1) := by decide +kernel
theorem dX5_init_1 : decode cX5_init 1 = .ok (.invokespecial 3, 3) := by decide +kernel
theorem dX5_init_4 : decode cX5_init 4 = .ok (.aload_n 0, 1) := by decide +kernel
theorem dX5_init_5 : decode cX5_init 5 = .ok (.bipush 6, 2) := by decide +kernel
theorem dX5_init_7 : decode cX5_init 7 = .ok (.newarray .int, 2) := by decide +kernel
theorem dX5_init_9 : decode cX5_init 9 = .ok (.putfield 9, 3) := by decide +kernel
theorem dX5_init_12 : decode cX5_init 12 = .ok (.aload_n 0, 1) := by decide +kernel
theorem dX5_init_13 : decode cX5_init 13 = .ok (.bipush 36, 2) := by decide +kernel
theorem dX5_init_15 : decode cX5_init 15 = .ok (.newarray .int, 2) := by decide +kernel
theorem dX5_init_17 : decode cX5_init 17 = .ok (.putfield 15, 3) := by decide +kernel
theorem dX5_init_20 : decode cX5_init 20 = .ok (.aload_n 0, 1) := by decide +kernel
theorem dX5_init_21 : decode cX5_init 21 = .ok (.bipush 64, 2) := by decide +kernel
theorem dX5_init_23 : decode cX5_init 23 = .ok (.newarray .int, 2) := by decide +kernel
theorem dX5_init_25 : decode cX5_init 25 = .ok (.putfield 18, 3) := by decide +kernel
theorem dX5_init_28 : decode cX5_init 28 = .ok (.aload_n 0, 1) := by decide +kernel
theorem dX5_init_29 : decode cX5_init 29 = .ok (.iconst 0, 1) := by decide +kernel
theorem dX5_init_30 : decode cX5_init 30 = .ok (.putfield 21, 3) := by decide +kernel
theorem dX5_init_33 : decode cX5_init 33 = .ok (.return_, 1) := by decide +kernel
theorem dX5_begin_0 : decode cX5_begin 0 = .ok (.aload_n 0, 1) := by decide +kernel
theorem dX5_begin_1 : decode cX5_begin 1 = .ok (.iconst 0, 1) := by decide +kernel
theorem dX5_begin_2 : decode cX5_begin 2 = .ok (.iload_n 2, 1) := by decide +kernel
theorem dX5_begin_3 : decode cX5_begin 3 = .ok (.bipush 6, 2) := by decide +kernel
theorem dX5_begin_5 : decode cX5_begin 5 = .ok (.invokestatic 25, 3) := by decide +kernel
theorem dX5_begin_8 : decode cX5_begin 8 = .ok (.aload_n 1, 1) := by decide +kernel
theorem dX5_begin_9 : decode cX5_begin 9 = .ok (.arraylength, 1) := by decide +kernel
theorem dX5_begin_10 : decode cX5_begin 10 = .ok (.invokestatic 25, 3) := by decide +kernel
theorem dX5_begin_13 : decode cX5_begin 13 = .ok (.invokestatic 31, 3) := by decide +kernel
theorem dX5_begin_16 : decode cX5_begin 16 = .ok (.putfield 21, 3) := by decide +kernel
theorem dX5_begin_19 : decode cX5_begin 19 = .ok (.iconst 0, 1) := by decide +kernel
theorem dX5_begin_20 : decode cX5_begin 20 = .ok (.istore_n 3, 1) := by decide +kernel
theorem dX5_begin_21 : decode cX5_begin 21 = .ok (.iload_n 3, 1) := by decide +kernel
theorem dX5_begin_22 : decode cX5_begin 22 = .ok (.aload_n 0, 1) := by decide +kernel
theorem dX5_begin_23 : decode cX5_begin 23 = .ok (.getfield 21, 3) := by decide +kernel
theorem dX5_begin_26 : decode cX5_begin 26 = .ok (.if_icmp .ge 64, 3) := by decide +kernel
theorem dX5_begin_29 : decode cX5_begin 29 = .ok (.iload_n 3, 1) := by decide +kernel
theorem dX5_begin_30 : decode cX5_begin 30 = .ok (.istore 4, 2) := by decide +kernel
theorem dX5_begin_32 : decode cX5_begin 32 = .ok (.iload 4, 2) := by decide +kernel
theorem dX5_begin_34 : decode cX5_begin 34 = .ok (.ifCond .le 40, 3) := by decide +kernel
theorem dX5_begin_37 : decode cX5_begin 37 = .ok (.aload_n 0, 1) := by decide +kernel
theorem dX5_begin_38 : decode cX5_begin 38 = .ok (.getfield 9, 3) := by decide +kernel
theorem dX5_begin_41 : decode cX5_begin 41 = .ok (.iload 4, 2) := by decide +kernel
theorem dX5_begin_43 : decode cX5_begin 43 = .ok (.iconst 1, 1) := by decide +kernel
theorem dX5_begin_44 : decode cX5_begin 44 = .ok (.isub, 1) := by decide +kernel
theorem dX5_begin_45 : decode cX5_begin 45 = .ok (.iaload, 1) := by decide +kernel
theorem dX5_begin_46 : decode cX5_begin 46 = .ok (.aload_n 1, 1) := by decide +kernel
theorem dX5_begin_47 : decode cX5_begin 47 = .ok (.iload_n 3, 1) := by decide +kernel
theorem dX5_begin_48 : decode cX5_begin 48 = .ok (.iaload, 1) := by decide +kernel
theorem dX5_begin_49 : decode cX5_begin 49 = .ok (.if_icmp .le 25, 3) := by decide +kernel
theorem dX5_begin_52 : decode cX5_begin 52 = .ok (.aload_n 0, 1) := by decide +kernel
theorem dX5_begin_53 : decode cX5_begin 53 = .ok (.getfield 9, 3) := by decide +kernel
theorem dX5_begin_56 : decode cX5_begin 56 = .ok (.iload 4, 2) := by decide +kernel
theorem dX5_begin_58 : decode cX5_begin 58 = .ok (.aload_n 0, 1) := by decide +kernel
theorem dX5_begin_59 : decode cX5_begin 59 = .ok (.getfield 9, 3) := by decide +kernel
theorem dX5_begin_62 : decode cX5_begin 62 = .ok (.iload 4, 2) := by decide +kernel
theorem dX5_begin_64 : decode cX5_begin 64 = .ok (.iconst 1, 1) := by decide +kernel
theorem dX5_begin_65 : decode cX5_begin 65 = .ok (.isub, 1) := by decide +kernel
theorem dX5_begin_66 : decode cX5_begin 66 = .ok (.iaload, 1) := by decide +kernel
theorem dX5_begin_67 : decode cX5_begin 67 = .ok (.iastore, 1) := by decide +kernel
theorem dX5_begin_68 : decode cX5_begin 68 = .ok (.iinc 4 (-1), 3) := by decide +kernel
theorem dX5_begin_71 : decode cX5_begin 71 = .ok (.goto (-39), 3) := by decide +kernel
theorem dX5_begin_74 : decode cX5_begin 74 = .ok (.aload_n 0, 1) := by decide +kernel
theorem dX5_begin_75 : decode cX5_begin 75 = .ok (.getfield 9, 3) := by decide +kernel
theorem dX5_begin_78 : decode cX5_begin 78 = .ok (.iload 4, 2) := by decide +kernel
theorem dX5_begin_80 : decode cX5_begin 80 = .ok (.aload_n 1, 1) := by decide +kernel
theorem dX5_begin_81 : decode cX5_begin 81 = .ok (.iload_n 3, 1) := by decide +kernel
theorem dX5_begin_82 : decode cX5_begin 82 = .ok (.iaload, 1) := by decide +kernel
theorem dX5_begin_83 : decode cX5_begin 83 = .ok (.iastore, 1) := by decide +kernel
theorem dX5_begin_84 : decode cX5_begin 84 = .ok (.iinc 3 1, 3) := by decide +kernel
theorem dX5_begin_87 : decode cX5_begin 87 = .ok (.goto (-66), 3) := by decide +kernel
theorem dX5_begin_90 : decode cX5_begin 90 = .ok (.return_, 1) := by decide +kernel
theorem dX5_sortedCell_0 : decode cX5_sortedCell 0 = .ok (.aload_n 0, 1) := by decide +kernel
theorem dX5_sortedCell_1 : decode cX5_sortedCell 1 = .ok (.getfield 9, 3) := by decide +kernel
theorem dX5_sortedCell_4 : decode cX5_sortedCell 4 = .ok (.iload_n 1, 1) := by decide +kernel
theorem dX5_sortedCell_5 : decode cX5_sortedCell 5 = .ok (.iaload, 1) := by decide +kernel
theorem dX5_sortedCell_6 : decode cX5_sortedCell 6 = .ok (.ireturn, 1) := by decide +kernel
theorem dX5_setCost_0 : decode cX5_setCost 0 = .ok (.aload_n 0, 1) := by decide +kernel
theorem dX5_setCost_1 : decode cX5_setCost 1 = .ok (.getfield 15, 3) := by decide +kernel
theorem dX5_setCost_4 : decode cX5_setCost 4 = .ok (.bipush 6, 2) := by decide +kernel
theorem dX5_setCost_6 : decode cX5_setCost 6 = .ok (.iload_n 1, 1) := by decide +kernel
theorem dX5_setCost_7 : decode cX5_setCost 7 = .ok (.imul, 1) := by decide +kernel
theorem dX5_setCost_8 : decode cX5_setCost 8 = .ok (.iload_n 2, 1) := by decide +kernel
theorem dX5_setCost_9 : decode cX5_setCost 9 = .ok (.iadd, 1) := by decide +kernel
theorem dX5_setCost_10 : decode cX5_setCost 10 = .ok (.iload_n 3, 1) := by decide +kernel
theorem dX5_setCost_11 : decode cX5_setCost 11 = .ok (.iastore, 1) := by decide +kernel
theorem dX5_setCost_12 : decode cX5_setCost 12 = .ok (.return_, 1) := by decide +kernel
set_option maxRecDepth 20000 in
theorem ggX5_weighRests_X5_nextOf : GoodIn wsX5_weighRests wsX5_nextOf := goodIn_r _ [7, 1, 8, 9, 10, 11, 12, 13, 14, 6, 15, 16, 2, 17, 18, 19, 20, 21, 22, 23, 24, 25, 26, 27] (by decide +kernel) (by decide +kernel)
set_option maxRecDepth 20000 in
theorem gX5_weighRests_X5_nextOf : GoodIn wsX5_weighRests (wsV RX5 34 RX5 yX5_nextOf wsX5_nextOf) := goodIn_app (goodIn_of _ (by decide +kernel)) ggX5_weighRests_X5_nextOf
set_option maxRecDepth 20000 in
theorem ggX5_weighRests_X5_costBy : GoodIn wsX5_weighRests wsX5_costBy := goodIn_r _ [15, 16, 2, 17, 18, 19, 20, 21, 22, 23, 24, 25, 26, 27] (by decide +kernel) (by decide +kernel)
set_option maxRecDepth 20000 in
theorem gX5_weighRests_X5_costBy : GoodIn wsX5_weighRests (wsV RX5 38 RX5 yX5_costBy wsX5_costBy) := goodIn_app (goodIn_of _ (by decide +kernel)) ggX5_weighRests_X5_costBy
theorem dX5_weighRests_0 : decode cX5_weighRests 0 = .ok (.iconst 1, 1) := by decide +kernel
theorem dX5_weighRests_1 : decode cX5_weighRests 1 = .ok (.aload_n 0, 1) := by decide +kernel
theorem dX5_weighRests_2 : decode cX5_weighRests 2 = .ok (.getfield 21, 3) := by decide +kernel
theorem dX5_weighRests_5 : decode cX5_weighRests 5 = .ok (.ishl, 1) := by decide +kernel
theorem dX5_weighRests_6 : decode cX5_weighRests 6 = .ok (.iconst 1, 1) := by decide +kernel
theorem dX5_weighRests_7 : decode cX5_weighRests 7 = .ok (.isub, 1) := by decide +kernel
theorem dX5_weighRests_8 : decode cX5_weighRests 8 = .ok (.istore_n 1, 1) := by decide +kernel
theorem dX5_weighRests_9 : decode cX5_weighRests 9 = .ok (.aload_n 0, 1) := by decide +kernel
theorem dX5_weighRests_10 : decode cX5_weighRests 10 = .ok (.getfield 18, 3) := by decide +kernel
theorem dX5_weighRests_13 : decode cX5_weighRests 13 = .ok (.iload_n 1, 1) := by decide +kernel
theorem dX5_weighRests_14 : decode cX5_weighRests 14 = .ok (.iconst 0, 1) := by decide +kernel
theorem dX5_weighRests_15 : decode cX5_weighRests 15 = .ok (.iastore, 1) := by decide +kernel
theorem dX5_weighRests_16 : decode cX5_weighRests 16 = .ok (.iload_n 1, 1) := by decide +kernel
theorem dX5_weighRests_17 : decode cX5_weighRests 17 = .ok (.iconst 1, 1) := by decide +kernel
theorem dX5_weighRests_18 : decode cX5_weighRests 18 = .ok (.isub, 1) := by decide +kernel
theorem dX5_weighRests_19 : decode cX5_weighRests 19 = .ok (.istore_n 2, 1) := by decide +kernel
theorem dX5_weighRests_20 : decode cX5_weighRests 20 = .ok (.iload_n 2, 1) := by decide +kernel
theorem dX5_weighRests_21 : decode cX5_weighRests 21 = .ok (.ifCond .lt 25, 3) := by decide +kernel
theorem dX5_weighRests_24 : decode cX5_weighRests 24 = .ok (.aload_n 0, 1) := by decide +kernel
theorem dX5_weighRests_25 : decode cX5_weighRests 25 = .ok (.getfield 18, 3) := by decide +kernel
theorem dX5_weighRests_28 : decode cX5_weighRests 28 = .ok (.iload_n 2, 1) := by decide +kernel
theorem dX5_weighRests_29 : decode cX5_weighRests 29 = .ok (.aload_n 0, 1) := by decide +kernel
theorem dX5_weighRests_30 : decode cX5_weighRests 30 = .ok (.iload_n 2, 1) := by decide +kernel
theorem dX5_weighRests_31 : decode cX5_weighRests 31 = .ok (.aload_n 0, 1) := by decide +kernel
theorem dX5_weighRests_32 : decode cX5_weighRests 32 = .ok (.iload_n 2, 1) := by decide +kernel
theorem dX5_weighRests_33 : decode cX5_weighRests 33 = .ok (.invokevirtual 34, 3) := by decide +kernel
theorem dX5_weighRests_36 : decode cX5_weighRests 36 = .ok (.invokevirtual 38, 3) := by decide +kernel
theorem dX5_weighRests_39 : decode cX5_weighRests 39 = .ok (.iastore, 1) := by decide +kernel
theorem dX5_weighRests_40 : decode cX5_weighRests 40 = .ok (.iinc 2 (-1), 3) := by decide +kernel
theorem dX5_weighRests_43 : decode cX5_weighRests 43 = .ok (.goto (-23), 3) := by decide +kernel
theorem dX5_weighRests_46 : decode cX5_weighRests 46 = .ok (.return_, 1) := by decide +kernel
theorem dX5_leastSum_0 : decode cX5_leastSum 0 = .ok (.aload_n 0, 1) := by decide +kernel
theorem dX5_leastSum_1 : decode cX5_leastSum 1 = .ok (.getfield 18, 3) := by decide +kernel
theorem dX5_leastSum_4 : decode cX5_leastSum 4 = .ok (.iconst 0, 1) := by decide +kernel
theorem dX5_leastSum_5 : decode cX5_leastSum 5 = .ok (.iaload, 1) := by decide +kernel
theorem dX5_leastSum_6 : decode cX5_leastSum 6 = .ok (.ireturn, 1) := by decide +kernel
set_option maxRecDepth 20000 in
theorem ggX5_cellThrown_X5_nextOf : GoodIn wsX5_cellThrown wsX5_nextOf := goodIn_r _ [7, 1, 8, 9, 10, 11, 12, 13, 14, 6, 15, 16, 17, 18, 19, 20, 21, 22, 23, 24, 25, 26, 27, 28] (by decide +kernel) (by decide +kernel)
set_option maxRecDepth 20000 in
theorem gX5_cellThrown_X5_nextOf : GoodIn wsX5_cellThrown (wsV RX5 34 RX5 yX5_nextOf wsX5_nextOf) := goodIn_app (goodIn_of _ (by decide +kernel)) ggX5_cellThrown_X5_nextOf
theorem dX5_cellThrown_0 : decode cX5_cellThrown 0 = .ok (.iconst 0, 1) := by decide +kernel
theorem dX5_cellThrown_1 : decode cX5_cellThrown 1 = .ok (.istore_n 2, 1) := by decide +kernel
theorem dX5_cellThrown_2 : decode cX5_cellThrown 2 = .ok (.iconst 0, 1) := by decide +kernel
theorem dX5_cellThrown_3 : decode cX5_cellThrown 3 = .ok (.istore_n 3, 1) := by decide +kernel
theorem dX5_cellThrown_4 : decode cX5_cellThrown 4 = .ok (.iconst 0, 1) := by decide +kernel
theorem dX5_cellThrown_5 : decode cX5_cellThrown 5 = .ok (.istore 4, 2) := by decide +kernel
theorem dX5_cellThrown_7 : decode cX5_cellThrown 7 = .ok (.iload 4, 2) := by decide +kernel
theorem dX5_cellThrown_9 : decode cX5_cellThrown 9 = .ok (.iload_n 1, 1) := by decide +kernel
theorem dX5_cellThrown_10 : decode cX5_cellThrown 10 = .ok (.if_icmp .gt 30, 3) := by decide +kernel
theorem dX5_cellThrown_13 : decode cX5_cellThrown 13 = .ok (.iload 4, 2) := by decide +kernel
theorem dX5_cellThrown_15 : decode cX5_cellThrown 15 = .ok (.aload_n 0, 1) := by decide +kernel
theorem dX5_cellThrown_16 : decode cX5_cellThrown 16 = .ok (.getfield 21, 3) := by decide +kernel
theorem dX5_cellThrown_19 : decode cX5_cellThrown 19 = .ok (.if_icmp .ge 21, 3) := by decide +kernel
theorem dX5_cellThrown_22 : decode cX5_cellThrown 22 = .ok (.aload_n 0, 1) := by decide +kernel
theorem dX5_cellThrown_23 : decode cX5_cellThrown 23 = .ok (.iload_n 2, 1) := by decide +kernel
theorem dX5_cellThrown_24 : decode cX5_cellThrown 24 = .ok (.invokevirtual 34, 3) := by decide +kernel
theorem dX5_cellThrown_27 : decode cX5_cellThrown 27 = .ok (.istore_n 3, 1) := by decide +kernel
theorem dX5_cellThrown_28 : decode cX5_cellThrown 28 = .ok (.iload_n 2, 1) := by decide +kernel
theorem dX5_cellThrown_29 : decode cX5_cellThrown 29 = .ok (.iconst 1, 1) := by decide +kernel
theorem dX5_cellThrown_30 : decode cX5_cellThrown 30 = .ok (.iload_n 3, 1) := by decide +kernel
theorem dX5_cellThrown_31 : decode cX5_cellThrown 31 = .ok (.ishl, 1) := by decide +kernel
theorem dX5_cellThrown_32 : decode cX5_cellThrown 32 = .ok (.ior, 1) := by decide +kernel
theorem dX5_cellThrown_33 : decode cX5_cellThrown 33 = .ok (.istore_n 2, 1) := by decide +kernel
theorem dX5_cellThrown_34 : decode cX5_cellThrown 34 = .ok (.iinc 4 1, 3) := by decide +kernel
theorem dX5_cellThrown_37 : decode cX5_cellThrown 37 = .ok (.goto (-30), 3) := by decide +kernel
theorem dX5_cellThrown_40 : decode cX5_cellThrown 40 = .ok (.aload_n 0, 1) := by decide +kernel
theorem dX5_cellThrown_41 : decode cX5_cellThrown 41 = .ok (.getfield 9, 3) := by decide +kernel
theorem dX5_cellThrown_44 : decode cX5_cellThrown 44 = .ok (.iload_n 3, 1) := by decide +kernel
theorem dX5_cellThrown_45 : decode cX5_cellThrown 45 = .ok (.iaload, 1) := by decide +kernel
theorem dX5_cellThrown_46 : decode cX5_cellThrown 46 = .ok (.ireturn, 1) := by decide +kernel
set_option maxRecDepth 20000 in
theorem ggX5_nextOf_X5_costBy : GoodIn wsX5_nextOf wsX5_costBy := goodIn_r _ [10, 11, 12, 13, 14, 15, 16, 17, 18, 19, 20, 21, 22, 23] (by decide +kernel) (by decide +kernel)
set_option maxRecDepth 20000 in
theorem gX5_nextOf_X5_costBy : GoodIn wsX5_nextOf (wsV RX5 38 RX5 yX5_costBy wsX5_costBy) := goodIn_app (goodIn_of _ (by decide +kernel)) ggX5_nextOf_X5_costBy
theorem dX5_nextOf_0 : decode cX5_nextOf 0 = .ok (.iconst (-1), 1) := by decide +kernel
theorem dX5_nextOf_1 : decode cX5_nextOf 1 = .ok (.istore_n 2, 1) := by decide +kernel
theorem dX5_nextOf_2 : decode cX5_nextOf 2 = .ok (.iconst 0, 1) := by decide +kernel
theorem dX5_nextOf_3 : decode cX5_nextOf 3 = .ok (.istore_n 3, 1) := by decide +kernel
theorem dX5_nextOf_4 : decode cX5_nextOf 4 = .ok (.iload_n 3, 1) := by decide +kernel
theorem dX5_nextOf_5 : decode cX5_nextOf 5 = .ok (.aload_n 0, 1) := by decide +kernel
theorem dX5_nextOf_6 : decode cX5_nextOf 6 = .ok (.getfield 21, 3) := by decide +kernel
theorem dX5_nextOf_9 : decode cX5_nextOf 9 = .ok (.if_icmp .ge 41, 3) := by decide +kernel
theorem dX5_nextOf_12 : decode cX5_nextOf 12 = .ok (.iload_n 1, 1) := by decide +kernel
theorem dX5_nextOf_13 : decode cX5_nextOf 13 = .ok (.iload_n 3, 1) := by decide +kernel
theorem dX5_nextOf_14 : decode cX5_nextOf 14 = .ok (.ishr, 1) := by decide +kernel
theorem dX5_nextOf_15 : decode cX5_nextOf 15 = .ok (.iconst 1, 1) := by decide +kernel
theorem dX5_nextOf_16 : decode cX5_nextOf 16 = .ok (.iand, 1) := by decide +kernel
theorem dX5_nextOf_17 : decode cX5_nextOf 17 = .ok (.ifCond .eq 6, 3) := by decide +kernel
theorem dX5_nextOf_20 : decode cX5_nextOf 20 = .ok (.goto 24, 3) := by decide +kernel
theorem dX5_nextOf_23 : decode cX5_nextOf 23 = .ok (.iload_n 2, 1) := by decide +kernel
theorem dX5_nextOf_24 : decode cX5_nextOf 24 = .ok (.ifCond .lt 18, 3) := by decide +kernel
theorem dX5_nextOf_27 : decode cX5_nextOf 27 = .ok (.aload_n 0, 1) := by decide +kernel
theorem dX5_nextOf_28 : decode cX5_nextOf 28 = .ok (.iload_n 1, 1) := by decide +kernel
theorem dX5_nextOf_29 : decode cX5_nextOf 29 = .ok (.iload_n 3, 1) := by decide +kernel
theorem dX5_nextOf_30 : decode cX5_nextOf 30 = .ok (.invokevirtual 38, 3) := by decide +kernel
theorem dX5_nextOf_33 : decode cX5_nextOf 33 = .ok (.aload_n 0, 1) := by decide +kernel
theorem dX5_nextOf_34 : decode cX5_nextOf 34 = .ok (.iload_n 1, 1) := by decide +kernel
theorem dX5_nextOf_35 : decode cX5_nextOf 35 = .ok (.iload_n 2, 1) := by decide +kernel
theorem dX5_nextOf_36 : decode cX5_nextOf 36 = .ok (.invokevirtual 38, 3) := by decide +kernel
theorem dX5_nextOf_39 : decode cX5_nextOf 39 = .ok (.if_icmp .ge 5, 3) := by decide +kernel
theorem dX5_nextOf_42 : decode cX5_nextOf 42 = .ok (.iload_n 3, 1) := by decide +kernel
theorem dX5_nextOf_43 : decode cX5_nextOf 43 = .ok (.istore_n 2, 1) := by decide +kernel
theorem dX5_nextOf_44 : decode cX5_nextOf 44 = .ok (.iinc 3 1, 3) := by decide +kernel
theorem dX5_nextOf_47 : decode cX5_nextOf 47 = .ok (.goto (-43), 3) := by decide +kernel
theorem dX5_nextOf_50 : decode cX5_nextOf 50 = .ok (.iconst 0, 1) := by decide +kernel
theorem dX5_nextOf_51 : decode cX5_nextOf 51 = .ok (.iload_n 2, 1) := by decide +kernel
theorem dX5_nextOf_52 : decode cX5_nextOf 52 = .ok (.invokestatic 31, 3) := by decide +kernel
theorem dX5_nextOf_55 : decode cX5_nextOf 55 = .ok (.ireturn, 1) := by decide +kernel
set_option maxRecDepth 20000 in
theorem ggX5_costBy_J6_bitCount_0f7a4 : GoodIn wsX5_costBy wsJ6_bitCount_0f7a4 := goodIn_r _ [6, 7, 8, 9] (by decide +kernel) (by decide +kernel)
set_option maxRecDepth 20000 in
theorem gX5_costBy_J6_bitCount_0f7a4 : GoodIn wsX5_costBy (va_wsS RX5 41 yJ6_bitCount_0f7a4 wsJ6_bitCount_0f7a4) := goodIn_app (goodIn_of _ (by decide +kernel)) ggX5_costBy_J6_bitCount_0f7a4
theorem dX5_costBy_0 : decode cX5_costBy 0 = .ok (.aload_n 0, 1) := by decide +kernel
theorem dX5_costBy_1 : decode cX5_costBy 1 = .ok (.getfield 15, 3) := by decide +kernel
theorem dX5_costBy_4 : decode cX5_costBy 4 = .ok (.bipush 6, 2) := by decide +kernel
theorem dX5_costBy_6 : decode cX5_costBy 6 = .ok (.iload_n 2, 1) := by decide +kernel
theorem dX5_costBy_7 : decode cX5_costBy 7 = .ok (.imul, 1) := by decide +kernel
theorem dX5_costBy_8 : decode cX5_costBy 8 = .ok (.iload_n 1, 1) := by decide +kernel
theorem dX5_costBy_9 : decode cX5_costBy 9 = .ok (.invokestatic 41, 3) := by decide +kernel
theorem dX5_costBy_12 : decode cX5_costBy 12 = .ok (.iadd, 1) := by decide +kernel
theorem dX5_costBy_13 : decode cX5_costBy 13 = .ok (.iaload, 1) := by decide +kernel
theorem dX5_costBy_14 : decode cX5_costBy 14 = .ok (.aload_n 0, 1) := by decide +kernel
theorem dX5_costBy_15 : decode cX5_costBy 15 = .ok (.getfield 18, 3) := by decide +kernel
theorem dX5_costBy_18 : decode cX5_costBy 18 = .ok (.iload_n 1, 1) := by decide +kernel
theorem dX5_costBy_19 : decode cX5_costBy 19 = .ok (.iconst 1, 1) := by decide +kernel
theorem dX5_costBy_20 : decode cX5_costBy 20 = .ok (.iload_n 2, 1) := by decide +kernel
theorem dX5_costBy_21 : decode cX5_costBy 21 = .ok (.ishl, 1) := by decide +kernel
theorem dX5_costBy_22 : decode cX5_costBy 22 = .ok (.ior, 1) := by decide +kernel
theorem dX5_costBy_23 : decode cX5_costBy 23 = .ok (.iaload, 1) := by decide +kernel
theorem dX5_costBy_24 : decode cX5_costBy 24 = .ok (.iadd, 1) := by decide +kernel
theorem dX5_costBy_25 : decode cX5_costBy 25 = .ok (.ireturn, 1) := by decide +kernel
theorem dX6_init_0 : decode cX6_init 0 = .ok (.aload_n 0, 1) := by decide +kernel
theorem dX6_init_1 : decode cX6_init 1 = .ok (.invokespecial 3, 3) := by decide +kernel
theorem dX6_init_4 : decode cX6_init 4 = .ok (.aload_n 0, 1) := by decide +kernel
theorem dX6_init_5 : decode cX6_init 5 = .ok (.bipush 80, 2) := by decide +kernel
theorem dX6_init_7 : decode cX6_init 7 = .ok (.newarray .int, 2) := by decide +kernel
theorem dX6_init_9 : decode cX6_init 9 = .ok (.putfield 9, 3) := by decide +kernel
theorem dX6_init_12 : decode cX6_init 12 = .ok (.aload_n 0, 1) := by decide +kernel
theorem dX6_init_13 : decode cX6_init 13 = .ok (.iconst 0, 1) := by decide +kernel
theorem dX6_init_14 : decode cX6_init 14 = .ok (.putfield 15, 3) := by decide +kernel
theorem dX6_init_17 : decode cX6_init 17 = .ok (.aload_n 0, 1) := by decide +kernel
theorem dX6_init_18 : decode cX6_init 18 = .ok (.iconst 0, 1) := by decide +kernel
theorem dX6_init_19 : decode cX6_init 19 = .ok (.putfield 19, 3) := by decide +kernel
theorem dX6_init_22 : decode cX6_init 22 = .ok (.aload_n 0, 1) := by decide +kernel
theorem dX6_init_23 : decode cX6_init 23 = .ok (.iconst 0, 1) := by decide +kernel
theorem dX6_init_24 : decode cX6_init 24 = .ok (.putfield 23, 3) := by decide +kernel
theorem dX6_init_27 : decode cX6_init 27 = .ok (.return_, 1) := by decide +kernel
theorem dX6_renew_0 : decode cX6_renew 0 = .ok (.aload_n 0, 1) := by decide +kernel
theorem dX6_renew_1 : decode cX6_renew 1 = .ok (.iconst 1, 1) := by decide +kernel
theorem dX6_renew_2 : decode cX6_renew 2 = .ok (.putfield 15, 3) := by decide +kernel
theorem dX6_renew_5 : decode cX6_renew 5 = .ok (.aload_n 0, 1) := by decide +kernel
theorem dX6_renew_6 : decode cX6_renew 6 = .ok (.iload_n 1, 1) := by decide +kernel
theorem dX6_renew_7 : decode cX6_renew 7 = .ok (.putfield 19, 3) := by decide +kernel
theorem dX6_renew_10 : decode cX6_renew 10 = .ok (.aload_n 0, 1) := by decide +kernel
theorem dX6_renew_11 : decode cX6_renew 11 = .ok (.iconst 0, 1) := by decide +kernel
theorem dX6_renew_12 : decode cX6_renew 12 = .ok (.iload_n 2, 1) := by decide +kernel
theorem dX6_renew_13 : decode cX6_renew 13 = .ok (.bipush 80, 2) := by decide +kernel
theorem dX6_renew_15 : decode cX6_renew 15 = .ok (.invokestatic 26, 3) := by decide +kernel
theorem dX6_renew_18 : decode cX6_renew 18 = .ok (.invokestatic 32, 3) := by decide +kernel
theorem dX6_renew_21 : decode cX6_renew 21 = .ok (.putfield 23, 3) := by decide +kernel
theorem dX6_renew_24 : decode cX6_renew 24 = .ok (.iconst 0, 1) := by decide +kernel
theorem dX6_renew_25 : decode cX6_renew 25 = .ok (.istore_n 3, 1) := by decide +kernel
theorem dX6_renew_26 : decode cX6_renew 26 = .ok (.iload_n 3, 1) := by decide +kernel
theorem dX6_renew_27 : decode cX6_renew 27 = .ok (.aload_n 0, 1) := by decide +kernel
theorem dX6_renew_28 : decode cX6_renew 28 = .ok (.getfield 23, 3) := by decide +kernel
theorem dX6_renew_31 : decode cX6_renew 31 = .ok (.if_icmp .ge 16, 3) := by decide +kernel
theorem dX6_renew_34 : decode cX6_renew 34 = .ok (.aload_n 0, 1) := by decide +kernel
theorem dX6_renew_35 : decode cX6_renew 35 = .ok (.getfield 9, 3) := by decide +kernel
theorem dX6_renew_38 : decode cX6_renew 38 = .ok (.iload_n 3, 1) := by decide +kernel
theorem dX6_renew_39 : decode cX6_renew 39 = .ok (.iconst 0, 1) := by decide +kernel
theorem dX6_renew_40 : decode cX6_renew 40 = .ok (.iastore, 1) := by decide +kernel
theorem dX6_renew_41 : decode cX6_renew 41 = .ok (.iinc 3 1, 3) := by decide +kernel
theorem dX6_renew_44 : decode cX6_renew 44 = .ok (.goto (-18), 3) := by decide +kernel
theorem dX6_renew_47 : decode cX6_renew 47 = .ok (.return_, 1) := by decide +kernel
set_option maxRecDepth 20000 in
theorem ggX6_faultOfTaking_X6_reaches : GoodIn wsX6_faultOfTaking wsX6_reaches := goodIn_r _ [7, 8, 9, 10, 11, 12, 13, 14, 15] (by decide +kernel) (by decide +kernel)
set_option maxRecDepth 20000 in
theorem gX6_faultOfTaking_X6_reaches : GoodIn wsX6_faultOfTaking (wsV RX6 35 RX6 yX6_reaches wsX6_reaches) := goodIn_app (goodIn_of _ (by decide +kernel)) ggX6_faultOfTaking_X6_reaches
theorem dX6_faultOfTaking_0 : decode cX6_faultOfTaking 0 = .ok (.aload_n 0, 1) := by decide +kernel
theorem dX6_faultOfTaking_1 : decode cX6_faultOfTaking 1 = .ok (.getfield 15, 3) := by decide +kernel
theorem dX6_faultOfTaking_4 : decode cX6_faultOfTaking 4 = .ok (.ifCond .eq 13, 3) := by decide +kernel
theorem dX6_faultOfTaking_7 : decode cX6_faultOfTaking 7 = .ok (.aload_n 0, 1) := by decide +kernel
theorem dX6_faultOfTaking_8 : decode cX6_faultOfTaking 8 = .ok (.getfield 19, 3) := by decide +kernel
theorem dX6_faultOfTaking_11 : decode cX6_faultOfTaking 11 = .ok (.iload_n 1, 1) := by decide +kernel
theorem dX6_faultOfTaking_12 : decode cX6_faultOfTaking 12 = .ok (.if_icmp .eq 5, 3) := by decide +kernel
theorem dX6_faultOfTaking_15 : decode cX6_faultOfTaking 15 = .ok (.iconst 2, 1) := by decide +kernel
theorem dX6_faultOfTaking_16 : decode cX6_faultOfTaking 16 = .ok (.ireturn, 1) := by decide +kernel
theorem dX6_faultOfTaking_17 : decode cX6_faultOfTaking 17 = .ok (.aload_n 0, 1) := by decide +kernel
theorem dX6_faultOfTaking_18 : decode cX6_faultOfTaking 18 = .ok (.getfield 15, 3) := by decide +kernel
theorem dX6_faultOfTaking_21 : decode cX6_faultOfTaking 21 = .ok (.ifCond .ne 5, 3) := by decide +kernel
theorem dX6_faultOfTaking_24 : decode cX6_faultOfTaking 24 = .ok (.iconst 1, 1) := by decide +kernel
theorem dX6_faultOfTaking_25 : decode cX6_faultOfTaking 25 = .ok (.ireturn, 1) := by decide +kernel
theorem dX6_faultOfTaking_26 : decode cX6_faultOfTaking 26 = .ok (.lload_n 3, 1) := by decide +kernel
theorem dX6_faultOfTaking_27 : decode cX6_faultOfTaking 27 = .ok (.lconst 0, 1) := by decide +kernel
theorem dX6_faultOfTaking_28 : decode cX6_faultOfTaking 28 = .ok (.lcmp, 1) := by decide +kernel
theorem dX6_faultOfTaking_29 : decode cX6_faultOfTaking 29 = .ok (.ifCond .ge 5, 3) := by decide +kernel
theorem dX6_faultOfTaking_32 : decode cX6_faultOfTaking 32 = .ok (.iconst 4, 1) := by decide +kernel
theorem dX6_faultOfTaking_33 : decode cX6_faultOfTaking 33 = .ok (.ireturn, 1) := by decide +kernel
theorem dX6_faultOfTaking_34 : decode cX6_faultOfTaking 34 = .ok (.aload_n 0, 1) := by decide +kernel
theorem dX6_faultOfTaking_35 : decode cX6_faultOfTaking 35 = .ok (.iload_n 2, 1) := by decide +kernel
theorem dX6_faultOfTaking_36 : decode cX6_faultOfTaking 36 = .ok (.lload_n 3, 1) := by decide +kernel
theorem dX6_faultOfTaking_37 : decode cX6_faultOfTaking 37 = .ok (.invokevirtual 35, 3) := by decide +kernel
theorem dX6_faultOfTaking_40 : decode cX6_faultOfTaking 40 = .ok (.ifCond .eq 7, 3) := by decide +kernel
theorem dX6_faultOfTaking_43 : decode cX6_faultOfTaking 43 = .ok (.iconst 0, 1) := by decide +kernel
theorem dX6_faultOfTaking_44 : decode cX6_faultOfTaking 44 = .ok (.goto 4, 3) := by decide +kernel
theorem dX6_faultOfTaking_47 : decode cX6_faultOfTaking 47 = .ok (.iconst 3, 1) := by decide +kernel
theorem dX6_faultOfTaking_48 : decode cX6_faultOfTaking 48 = .ok (.ireturn, 1) := by decide +kernel
set_option maxRecDepth 20000 in
theorem ggX6_reaches_X9_within : GoodIn wsX6_reaches wsX9_within := goodIn_r _ [4] (by decide +kernel) (by decide +kernel)
set_option maxRecDepth 20000 in
theorem gX6_reaches_X9_within_n39 : GoodIn wsX6_reaches (wsX9_within) := ggX6_reaches_X9_within
theorem dX6_reaches_0 : decode cX6_reaches 0 = .ok (.iload_n 1, 1) := by decide +kernel
theorem dX6_reaches_1 : decode cX6_reaches 1 = .ok (.iconst 0, 1) := by decide +kernel
theorem dX6_reaches_2 : decode cX6_reaches 2 = .ok (.aload_n 0, 1) := by decide +kernel
theorem dX6_reaches_3 : decode cX6_reaches 3 = .ok (.getfield 23, 3) := by decide +kernel
theorem dX6_reaches_6 : decode cX6_reaches 6 = .ok (.invokestatic 39, 3) := by decide +kernel
theorem dX6_reaches_9 : decode cX6_reaches 9 = .ok (.ifCond .eq 19, 3) := by decide +kernel
theorem dX6_reaches_12 : decode cX6_reaches 12 = .ok (.lload_n 2, 1) := by decide +kernel
theorem dX6_reaches_13 : decode cX6_reaches 13 = .ok (.aload_n 0, 1) := by decide +kernel
theorem dX6_reaches_14 : decode cX6_reaches 14 = .ok (.getfield 23, 3) := by decide +kernel
theorem dX6_reaches_17 : decode cX6_reaches 17 = .ok (.iload_n 1, 1) := by decide +kernel
theorem dX6_reaches_18 : decode cX6_reaches 18 = .ok (.isub, 1) := by decide +kernel
theorem dX6_reaches_19 : decode cX6_reaches 19 = .ok (.i2l, 1) := by decide +kernel
theorem dX6_reaches_20 : decode cX6_reaches 20 = .ok (.lcmp, 1) := by decide +kernel
theorem dX6_reaches_21 : decode cX6_reaches 21 = .ok (.ifCond .gt 7, 3) := by decide +kernel
theorem dX6_reaches_24 : decode cX6_reaches 24 = .ok (.iconst 1, 1) := by decide +kernel
theorem dX6_reaches_25 : decode cX6_reaches 25 = .ok (.goto 4, 3) := by decide +kernel
theorem dX6_reaches_28 : decode cX6_reaches 28 = .ok (.iconst 0, 1) := by decide +kernel
theorem dX6_reaches_29 : decode cX6_reaches 29 = .ok (.ireturn, 1) := by decide +kernel
set_option maxRecDepth 20000 in
theorem ggX6_store_X9_within : GoodIn wsX6_store wsX9_within := goodIn_r _ [6] (by decide +kernel) (by decide +kernel)
set_option maxRecDepth 20000 in
theorem gX6_store_X9_within_n39 : GoodIn wsX6_store (wsX9_within) := ggX6_store_X9_within
theorem dX6_store_0 : decode cX6_store 0 = .ok (.iload_n 1, 1) := by decide +kernel
theorem dX6_store_1 : decode cX6_store 1 = .ok (.iconst 0, 1) := by decide +kernel
theorem dX6_store_2 : decode cX6_store 2 = .ok (.aload_n 0, 1) := by decide +kernel
theorem dX6_store_3 : decode cX6_store 3 = .ok (.getfield 23, 3) := by decide +kernel
theorem dX6_store_6 : decode cX6_store 6 = .ok (.iconst 1, 1) := by decide +kernel
theorem dX6_store_7 : decode cX6_store 7 = .ok (.isub, 1) := by decide +kernel
theorem dX6_store_8 : decode cX6_store 8 = .ok (.invokestatic 39, 3) := by decide +kernel
theorem dX6_store_11 : decode cX6_store 11 = .ok (.ifCond .ne 4, 3) := by decide +kernel
theorem dX6_store_14 : decode cX6_store 14 = .ok (.return_, 1) := by decide +kernel
theorem dX6_store_15 : decode cX6_store 15 = .ok (.aload_n 0, 1) := by decide +kernel
theorem dX6_store_16 : decode cX6_store 16 = .ok (.getfield 19, 3) := by decide +kernel
theorem dX6_store_19 : decode cX6_store 19 = .ok (.ifCond .ne 14, 3) := by decide +kernel
theorem dX6_store_22 : decode cX6_store 22 = .ok (.aload_n 0, 1) := by decide +kernel
theorem dX6_store_23 : decode cX6_store 23 = .ok (.getfield 9, 3) := by decide +kernel
theorem dX6_store_26 : decode cX6_store 26 = .ok (.iload_n 1, 1) := by decide +kernel
theorem dX6_store_27 : decode cX6_store 27 = .ok (.iload_n 2, 1) := by decide +kernel
theorem dX6_store_28 : decode cX6_store 28 = .ok (.i2b, 1) := by decide +kernel
theorem dX6_store_29 : decode cX6_store 29 = .ok (.iastore, 1) := by decide +kernel
theorem dX6_store_30 : decode cX6_store 30 = .ok (.goto 29, 3) := by decide +kernel
theorem dX6_store_33 : decode cX6_store 33 = .ok (.aload_n 0, 1) := by decide +kernel
theorem dX6_store_34 : decode cX6_store 34 = .ok (.getfield 19, 3) := by decide +kernel
theorem dX6_store_37 : decode cX6_store 37 = .ok (.iconst 1, 1) := by decide +kernel
theorem dX6_store_38 : decode cX6_store 38 = .ok (.if_icmp .ne 14, 3) := by decide +kernel
theorem dX6_store_41 : decode cX6_store 41 = .ok (.aload_n 0, 1) := by decide +kernel
theorem dX6_store_42 : decode cX6_store 42 = .ok (.getfield 9, 3) := by decide +kernel
theorem dX6_store_45 : decode cX6_store 45 = .ok (.iload_n 1, 1) := by decide +kernel
theorem dX6_store_46 : decode cX6_store 46 = .ok (.iload_n 2, 1) := by decide +kernel
theorem dX6_store_47 : decode cX6_store 47 = .ok (.i2s, 1) := by decide +kernel
theorem dX6_store_48 : decode cX6_store 48 = .ok (.iastore, 1) := by decide +kernel
theorem dX6_store_49 : decode cX6_store 49 = .ok (.goto 10, 3) := by decide +kernel
theorem dX6_store_52 : decode cX6_store 52 = .ok (.aload_n 0, 1) := by decide +kernel
theorem dX6_store_53 : decode cX6_store 53 = .ok (.getfield 9, 3) := by decide +kernel
theorem dX6_store_56 : decode cX6_store 56 = .ok (.iload_n 1, 1) := by decide +kernel
theorem dX6_store_57 : decode cX6_store 57 = .ok (.iload_n 2, 1) := by decide +kernel
theorem dX6_store_58 : decode cX6_store 58 = .ok (.iastore, 1) := by decide +kernel
theorem dX6_store_59 : decode cX6_store 59 = .ok (.return_, 1) := by decide +kernel
theorem dX7_init_0 : decode cX7_init 0 = .ok (.aload_n 0, 1) := by decide +kernel
theorem dX7_init_1 : decode cX7_init 1 = .ok (.invokespecial 1, 3) := by decide +kernel
theorem dX7_init_4 : decode cX7_init 4 = .ok (.aload_n 0, 1) := by decide +kernel
theorem dX7_init_5 : decode cX7_init 5 = .ok (.iconst 0, 1) := by decide +kernel
theorem dX7_init_6 : decode cX7_init 6 = .ok (.putfield 7, 3) := by decide +kernel
theorem dX7_init_9 : decode cX7_init 9 = .ok (.return_, 1) := by decide +kernel
theorem dX7_leave_0 : decode cX7_leave 0 = .ok (.aload_n 0, 1) := by decide +kernel
theorem dX7_leave_1 : decode cX7_leave 1 = .ok (.bipush 31, 2) := by decide +kernel
theorem dX7_leave_3 : decode cX7_leave 3 = .ok (.aload_n 0, 1) := by decide +kernel
theorem dX7_leave_4 : decode cX7_leave 4 = .ok (.getfield 7, 3) := by decide +kernel
theorem dX7_leave_7 : decode cX7_leave 7 = .ok (.imul, 1) := by decide +kernel
theorem dX7_leave_8 : decode cX7_leave 8 = .ok (.iload_n 1, 1) := by decide +kernel
theorem dX7_leave_9 : decode cX7_leave 9 = .ok (.iadd, 1) := by decide +kernel
theorem dX7_leave_10 : decode cX7_leave 10 = .ok (.putfield 7, 3) := by decide +kernel
theorem dX7_leave_13 : decode cX7_leave 13 = .ok (.return_, 1) := by decide +kernel
set_option maxRecDepth 20000 in
theorem ggX8_init_X2_init : GoodIn wsX8_init wsX2_init := goodIn_r _ [4, 5, 6, 7, 8, 9, 10, 11, 12, 13, 14, 15, 16, 17, 18, 19, 20, 21, 22, 23, 24, 25, 26, 27, 28, 29, 30, 31, 32, 33, 34, 35, 36, 37, 38, 39, 40, 41, 42, 43, 44, 45, 46, 47, 48, 49] (by decide +kernel) (by decide +kernel)
set_option maxRecDepth 20000 in
theorem gX8_init_X2_init : GoodIn wsX8_init (wsX2_init) := ggX8_init_X2_init
theorem dX8_init_0 : decode cX8_init 0 = .ok (.aload_n 0, 1) := by decide +kernel
theorem dX8_init_1 : decode cX8_init 1 = .ok (.iload_n 1, 1) := by decide +kernel
theorem dX8_init_2 : decode cX8_init 2 = .ok (.iload_n 2, 1) := by decide +kernel
theorem dX8_init_3 : decode cX8_init 3 = .ok (.iload_n 3, 1) := by decide +kernel
theorem dX8_init_4 : decode cX8_init 4 = .ok (.iload 4, 2) := by decide +kernel
theorem dX8_init_6 : decode cX8_init 6 = .ok (.invokespecial 3, 3) := by decide +kernel
theorem dX8_init_9 : decode cX8_init 9 = .ok (.return_, 1) := by decide +kernel
theorem dX8_sticksSo_0 : decode cX8_sticksSo 0 = .ok (.iload_n 1, 1) := by decide +kernel
theorem dX8_sticksSo_1 : decode cX8_sticksSo 1 = .ok (.ifCond .eq 8, 3) := by decide +kernel
theorem dX8_sticksSo_4 : decode cX8_sticksSo 4 = .ok (.iload_n 1, 1) := by decide +kernel
theorem dX8_sticksSo_5 : decode cX8_sticksSo 5 = .ok (.iconst 1, 1) := by decide +kernel
theorem dX8_sticksSo_6 : decode cX8_sticksSo 6 = .ok (.if_icmp .ne 7, 3) := by decide +kernel
theorem dX8_sticksSo_9 : decode cX8_sticksSo 9 = .ok (.iconst 1, 1) := by decide +kernel
theorem dX8_sticksSo_10 : decode cX8_sticksSo 10 = .ok (.goto 4, 3) := by decide +kernel
theorem dX8_sticksSo_13 : decode cX8_sticksSo 13 = .ok (.iconst 0, 1) := by decide +kernel
theorem dX8_sticksSo_14 : decode cX8_sticksSo 14 = .ok (.ireturn, 1) := by decide +kernel
theorem dX8_kindNumber_0 : decode cX8_kindNumber 0 = .ok (.iconst 2, 1) := by decide +kernel
theorem dX8_kindNumber_1 : decode cX8_kindNumber 1 = .ok (.ireturn, 1) := by decide +kernel
set_option maxRecDepth 20000 in
theorem ggX8_telling_X7_leave : GoodIn wsX8_telling wsX7_leave := goodIn_r _ [5, 6, 26] (by decide +kernel) (by decide +kernel)
set_option maxRecDepth 20000 in
theorem gX8_telling_X7_leave : GoodIn wsX8_telling (wsV RX8 9 RX7 yX7_leave wsX7_leave) := goodIn_app (goodIn_of _ (by decide +kernel)) ggX8_telling_X7_leave
set_option maxRecDepth 20000 in
theorem ggX8_telling_X2_telling : GoodIn wsX8_telling wsX2_telling := goodIn_r _ [12, 13, 2, 3, 4, 5, 6, 14, 15, 16, 17, 18, 19, 20, 21, 22, 26, 27, 28, 29, 30, 31, 32, 33, 34, 35, 36, 37, 38, 39, 40, 41, 42, 43, 44] (by decide +kernel) (by decide +kernel)
set_option maxRecDepth 20000 in
theorem gX8_telling_X2_telling_s15 : GoodIn wsX8_telling (va_wsSU RX8 15 yX2_telling wsX2_telling) := goodIn_app (goodIn_of _ (by decide +kernel)) ggX8_telling_X2_telling
set_option maxRecDepth 20000 in
theorem ggX8_telling_X3_tellingOfKnife : GoodIn wsX8_telling wsX3_tellingOfKnife := goodIn_r _ [19, 20, 21, 2, 3, 4, 5, 6, 27, 28, 29, 30, 31, 32, 33, 34, 35, 36, 37, 38, 39, 40, 41, 42, 43, 44, 26] (by decide +kernel) (by decide +kernel)
set_option maxRecDepth 20000 in
theorem gX8_telling_X3_tellingOfKnife_u19X8 : GoodIn wsX8_telling (va_wsU RX8 19 RX8 "KnifeBoard$Knife" ⟨"KnifeBoard$Twin", "tellingOfKnife", "(LKnifeBoard$Trace;)I"⟩ yX3_tellingOfKnife wsX3_tellingOfKnife) := goodIn_app (goodIn_of _ (by decide +kernel)) ggX8_telling_X3_tellingOfKnife
theorem dX8_telling_0 : decode cX8_telling 0 = .ok (.aload_n 1, 1) := by decide +kernel
theorem dX8_telling_1 : decode cX8_telling 1 = .ok (.iconst 3, 1) := by decide +kernel
theorem dX8_telling_2 : decode cX8_telling 2 = .ok (.invokevirtual 9, 3) := by decide +kernel
theorem dX8_telling_5 : decode cX8_telling 5 = .ok (.aload_n 0, 1) := by decide +kernel
theorem dX8_telling_6 : decode cX8_telling 6 = .ok (.aload_n 1, 1) := by decide +kernel
theorem dX8_telling_7 : decode cX8_telling 7 = .ok (.invokespecial 15, 3) := by decide +kernel
theorem dX8_telling_10 : decode cX8_telling 10 = .ok (.istore_n 2, 1) := by decide +kernel
theorem dX8_telling_11 : decode cX8_telling 11 = .ok (.iload_n 2, 1) := by decide +kernel
theorem dX8_telling_12 : decode cX8_telling 12 = .ok (.aload_n 0, 1) := by decide +kernel
theorem dX8_telling_13 : decode cX8_telling 13 = .ok (.aload_n 1, 1) := by decide +kernel
theorem dX8_telling_14 : decode cX8_telling 14 = .ok (.invokevirtual 19, 3) := by decide +kernel
theorem dX8_telling_17 : decode cX8_telling 17 = .ok (.iadd, 1) := by decide +kernel
theorem dX8_telling_18 : decode cX8_telling 18 = .ok (.ireturn, 1) := by decide +kernel
set_option maxRecDepth 20000 in
theorem ggX8_whetting_X7_leave : GoodIn wsX8_whetting wsX7_leave := goodIn_r _ [5, 6, 7] (by decide +kernel) (by decide +kernel)
set_option maxRecDepth 20000 in
theorem gX8_whetting_X7_leave : GoodIn wsX8_whetting (wsV RX8 9 RX7 yX7_leave wsX7_leave) := goodIn_app (goodIn_of _ (by decide +kernel)) ggX8_whetting_X7_leave
theorem dX8_whetting_0 : decode cX8_whetting 0 = .ok (.aload_n 1, 1) := by decide +kernel
theorem dX8_whetting_1 : decode cX8_whetting 1 = .ok (.iconst 5, 1) := by decide +kernel
theorem dX8_whetting_2 : decode cX8_whetting 2 = .ok (.invokevirtual 9, 3) := by decide +kernel
theorem dX8_whetting_5 : decode cX8_whetting 5 = .ok (.bipush 20, 2) := by decide +kernel
theorem dX8_whetting_7 : decode cX8_whetting 7 = .ok (.ireturn, 1) := by decide +kernel
set_option maxRecDepth 20000 in
theorem ggX9_init_X1_init : GoodIn wsX9_init wsX1_init := goodIn_r _ [37, 38, 2, 3, 27, 39, 40, 41, 87, 88, 89] (by decide +kernel) (by decide +kernel)
set_option maxRecDepth 20000 in
theorem gX9_init_X1_init_n23 : GoodIn wsX9_init (wsX1_init) := ggX9_init_X1_init
set_option maxRecDepth 20000 in
theorem ggX9_init_X0_init : GoodIn wsX9_init wsX0_init := goodIn_r _ [43, 44, 2, 3, 27, 45, 46, 47, 90, 91, 92] (by decide +kernel) (by decide +kernel)
set_option maxRecDepth 20000 in
theorem gX9_init_X0_init_n30 : GoodIn wsX9_init (wsX0_init) := ggX9_init_X0_init
set_option maxRecDepth 20000 in
theorem ggX9_init_X5_init : GoodIn wsX9_init wsX5_init := goodIn_r _ [49, 50, 2, 3, 27, 51, 52, 53, 54, 93, 94, 95, 96] (by decide +kernel) (by decide +kernel)
set_option maxRecDepth 20000 in
theorem gX9_init_X5_init_n37 : GoodIn wsX9_init (wsX5_init) := ggX9_init_X5_init
set_option maxRecDepth 20000 in
theorem ggX9_init_X4_init : GoodIn wsX9_init wsX4_init := goodIn_r _ [56, 57, 2, 3, 27, 58, 59, 60, 61, 62, 63, 64, 97, 98, 99, 100, 101, 102, 103] (by decide +kernel) (by decide +kernel)
set_option maxRecDepth 20000 in
theorem gX9_init_X4_init_n44 : GoodIn wsX9_init (wsX4_init) := ggX9_init_X4_init
set_option maxRecDepth 20000 in
theorem ggX9_init_X6_init : GoodIn wsX9_init wsX6_init := goodIn_r _ [66, 67, 2, 3, 27, 68, 69, 70, 71, 104, 105, 106, 107] (by decide +kernel) (by decide +kernel)
set_option maxRecDepth 20000 in
theorem gX9_init_X6_init_n51 : GoodIn wsX9_init (wsX6_init) := ggX9_init_X6_init
set_option maxRecDepth 20000 in
theorem ggX9_init_X7_init : GoodIn wsX9_init wsX7_init := goodIn_r _ [73, 74, 2, 3, 75, 108] (by decide +kernel) (by decide +kernel)
set_option maxRecDepth 20000 in
theorem gX9_init_X7_init_n66 : GoodIn wsX9_init (wsX7_init) := ggX9_init_X7_init
theorem dX9_init_0 : decode cX9_init 0 = .ok (.aload_n 0, 1) := by decide +kernel
theorem dX9_init_1 : decode cX9_init 1 = .ok (.invokespecial 5, 3) := by decide +kernel
theorem dX9_init_4 : decode cX9_init 4 = .ok (.aload_n 0, 1) := by decide +kernel
theorem dX9_init_5 : decode cX9_init 5 = .ok (.bipush 6, 2) := by decide +kernel
theorem dX9_init_7 : decode cX9_init 7 = .ok (.anewarray 11, 3) := by decide +kernel
theorem dX9_init_10 : decode cX9_init 10 = .ok (.putfield 13, 3) := by decide +kernel
theorem dX9_init_13 : decode cX9_init 13 = .ok (.aload_n 0, 1) := by decide +kernel
theorem dX9_init_14 : decode cX9_init 14 = .ok (.iconst 0, 1) := by decide +kernel
theorem dX9_init_15 : decode cX9_init 15 = .ok (.putfield 17, 3) := by decide +kernel
theorem dX9_init_18 : decode cX9_init 18 = .ok (.aload_n 0, 1) := by decide +kernel
theorem dX9_init_19 : decode cX9_init 19 = .ok (.new 21, 3) := by decide +kernel
theorem dX9_init_22 : decode cX9_init 22 = .ok (.dup, 1) := by decide +kernel
theorem dX9_init_23 : decode cX9_init 23 = .ok (.invokespecial 23, 3) := by decide +kernel
theorem dX9_init_26 : decode cX9_init 26 = .ok (.putfield 24, 3) := by decide +kernel
theorem dX9_init_29 : decode cX9_init 29 = .ok (.aload_n 0, 1) := by decide +kernel
theorem dX9_init_30 : decode cX9_init 30 = .ok (.new 28, 3) := by decide +kernel
theorem dX9_init_33 : decode cX9_init 33 = .ok (.dup, 1) := by decide +kernel
theorem dX9_init_34 : decode cX9_init 34 = .ok (.invokespecial 30, 3) := by decide +kernel
theorem dX9_init_37 : decode cX9_init 37 = .ok (.putfield 31, 3) := by decide +kernel
theorem dX9_init_40 : decode cX9_init 40 = .ok (.aload_n 0, 1) := by decide +kernel
theorem dX9_init_41 : decode cX9_init 41 = .ok (.new 35, 3) := by decide +kernel
theorem dX9_init_44 : decode cX9_init 44 = .ok (.dup, 1) := by decide +kernel
theorem dX9_init_45 : decode cX9_init 45 = .ok (.invokespecial 37, 3) := by decide +kernel
theorem dX9_init_48 : decode cX9_init 48 = .ok (.putfield 38, 3) := by decide +kernel
theorem dX9_init_51 : decode cX9_init 51 = .ok (.aload_n 0, 1) := by decide +kernel
theorem dX9_init_52 : decode cX9_init 52 = .ok (.new 42, 3) := by decide +kernel
theorem dX9_init_55 : decode cX9_init 55 = .ok (.dup, 1) := by decide +kernel
theorem dX9_init_56 : decode cX9_init 56 = .ok (.invokespecial 44, 3) := by decide +kernel
theorem dX9_init_59 : decode cX9_init 59 = .ok (.putfield 45, 3) := by decide +kernel
theorem dX9_init_62 : decode cX9_init 62 = .ok (.aload_n 0, 1) := by decide +kernel
theorem dX9_init_63 : decode cX9_init 63 = .ok (.iconst 4, 1) := by decide +kernel
theorem dX9_init_64 : decode cX9_init 64 = .ok (.anewarray 49, 3) := by decide +kernel
theorem dX9_init_67 : decode cX9_init 67 = .ok (.dup, 1) := by decide +kernel
theorem dX9_init_68 : decode cX9_init 68 = .ok (.iconst 0, 1) := by decide +kernel
theorem dX9_init_69 : decode cX9_init 69 = .ok (.new 49, 3) := by decide +kernel
theorem dX9_init_72 : decode cX9_init 72 = .ok (.dup, 1) := by decide +kernel
theorem dX9_init_73 : decode cX9_init 73 = .ok (.invokespecial 51, 3) := by decide +kernel
theorem dX9_init_76 : decode cX9_init 76 = .ok (.aastore, 1) := by decide +kernel
theorem dX9_init_77 : decode cX9_init 77 = .ok (.dup, 1) := by decide +kernel
theorem dX9_init_78 : decode cX9_init 78 = .ok (.iconst 1, 1) := by decide +kernel
theorem dX9_init_79 : decode cX9_init 79 = .ok (.new 49, 3) := by decide +kernel
theorem dX9_init_82 : decode cX9_init 82 = .ok (.dup, 1) := by decide +kernel
theorem dX9_init_83 : decode cX9_init 83 = .ok (.invokespecial 51, 3) := by decide +kernel
theorem dX9_init_86 : decode cX9_init 86 = .ok (.aastore, 1) := by decide +kernel
theorem dX9_init_87 : decode cX9_init 87 = .ok (.dup, 1) := by decide +kernel
theorem dX9_init_88 : decode cX9_init 88 = .ok (.iconst 2, 1) := by decide +kernel
theorem dX9_init_89 : decode cX9_init 89 = .ok (.new 49, 3) := by decide +kernel
theorem dX9_init_92 : decode cX9_init 92 = .ok (.dup, 1) := by decide +kernel
theorem dX9_init_93 : decode cX9_init 93 = .ok (.invokespecial 51, 3) := by decide +kernel
theorem dX9_init_96 : decode cX9_init 96 = .ok (.aastore, 1) := by decide +kernel
theorem dX9_init_97 : decode cX9_init 97 = .ok (.dup, 1) := by decide +kernel
theorem dX9_init_98 : decode cX9_init 98 = .ok (.iconst 3, 1) := by decide +kernel
theorem dX9_init_99 : decode cX9_init 99 = .ok (.new 49, 3) := by decide +kernel
theorem dX9_init_102 : decode cX9_init 102 = .ok (.dup, 1) := by decide +kernel
theorem dX9_init_103 : decode cX9_init 103 = .ok (.invokespecial 51, 3) := by decide +kernel
theorem dX9_init_106 : decode cX9_init 106 = .ok (.aastore, 1) := by decide +kernel
theorem dX9_init_107 : decode cX9_init 107 = .ok (.putfield 52, 3) := by decide +kernel
theorem dX9_init_110 : decode cX9_init 110 = .ok (.aload_n 0, 1) := by decide +kernel
theorem dX9_init_111 : decode cX9_init 111 = .ok (.bipush 80, 2) := by decide +kernel
theorem dX9_init_113 : decode cX9_init 113 = .ok (.newarray .int, 2) := by decide +kernel
theorem dX9_init_115 : decode cX9_init 115 = .ok (.putfield 56, 3) := by decide +kernel
theorem dX9_init_118 : decode cX9_init 118 = .ok (.aload_n 0, 1) := by decide +kernel
theorem dX9_init_119 : decode cX9_init 119 = .ok (.bipush 8, 2) := by decide +kernel
theorem dX9_init_121 : decode cX9_init 121 = .ok (.newarray .boolean, 2) := by decide +kernel
theorem dX9_init_123 : decode cX9_init 123 = .ok (.putfield 60, 3) := by decide +kernel
theorem dX9_init_126 : decode cX9_init 126 = .ok (.aload_n 0, 1) := by decide +kernel
theorem dX9_init_127 : decode cX9_init 127 = .ok (.new 64, 3) := by decide +kernel
theorem dX9_init_130 : decode cX9_init 130 = .ok (.dup, 1) := by decide +kernel
theorem dX9_init_131 : decode cX9_init 131 = .ok (.invokespecial 66, 3) := by decide +kernel
theorem dX9_init_134 : decode cX9_init 134 = .ok (.putfield 67, 3) := by decide +kernel
theorem dX9_init_137 : decode cX9_init 137 = .ok (.aload_n 0, 1) := by decide +kernel
theorem dX9_init_138 : decode cX9_init 138 = .ok (.iconst 0, 1) := by decide +kernel
theorem dX9_init_139 : decode cX9_init 139 = .ok (.putfield 71, 3) := by decide +kernel
theorem dX9_init_142 : decode cX9_init 142 = .ok (.return_, 1) := by decide +kernel
set_option maxRecDepth 20000 in
theorem ggX9_knife_X9_within : GoodIn wsX9_knife wsX9_within := goodIn_r _ [15] (by decide +kernel) (by decide +kernel)
set_option maxRecDepth 20000 in
theorem gX9_knife_X9_within : GoodIn wsX9_knife (va_wsS RX9 74 yX9_within wsX9_within) := goodIn_app (goodIn_of _ (by decide +kernel)) ggX9_knife_X9_within
set_option maxRecDepth 20000 in
theorem ggX9_knife_X3_init : GoodIn wsX9_knife wsX3_init := goodIn_r _ [18, 19, 20, 21, 22, 23, 24, 25, 26, 27, 28, 29, 30, 31, 32, 33, 34, 35, 36, 37, 5, 38, 39, 40, 41, 67, 68, 69, 70, 71, 72, 61, 62, 63, 64, 65, 66, 73, 74, 75, 76, 77, 78] (by decide +kernel) (by decide +kernel)
set_option maxRecDepth 20000 in
theorem gX9_knife_X3_init : GoodIn wsX9_knife (wsX3_init) := ggX9_knife_X3_init
set_option maxRecDepth 20000 in
theorem ggX9_knife_X2_init : GoodIn wsX9_knife wsX2_init := goodIn_r _ [44, 45, 17, 5, 18, 19, 20, 21, 22, 23, 24, 25, 26, 27, 28, 29, 30, 31, 32, 33, 34, 35, 36, 37, 38, 39, 40, 41, 67, 68, 69, 70, 71, 72, 61, 62, 63, 64, 65, 66, 73, 74, 75, 76, 77, 78] (by decide +kernel) (by decide +kernel)
set_option maxRecDepth 20000 in
theorem gX9_knife_X2_init : GoodIn wsX9_knife (wsX2_init) := ggX9_knife_X2_init
set_option maxRecDepth 20000 in
theorem ggX9_knife_X8_init : GoodIn wsX9_knife wsX8_init := goodIn_r _ [48, 49, 43, 8, 44, 45, 17, 5, 18, 19, 20, 21, 22, 23, 24, 25, 26, 27, 28, 29, 30, 31, 32, 33, 34, 35, 36, 37, 38, 39, 40, 41, 67, 68, 69, 70, 71, 72, 61, 62, 63, 64, 65, 66, 73, 74, 75, 76, 77, 78] (by decide +kernel) (by decide +kernel)
set_option maxRecDepth 20000 in
theorem gX9_knife_X8_init : GoodIn wsX9_knife (wsX8_init) := ggX9_knife_X8_init
theorem dX9_knife_0 : decode cX9_knife 0 = .ok (.iload_n 1, 1) := by decide +kernel
theorem dX9_knife_1 : decode cX9_knife 1 = .ok (.iconst 0, 1) := by decide +kernel
theorem dX9_knife_2 : decode cX9_knife 2 = .ok (.iconst 2, 1) := by decide +kernel
theorem dX9_knife_3 : decode cX9_knife 3 = .ok (.invokestatic 74, 3) := by decide +kernel
theorem dX9_knife_6 : decode cX9_knife 6 = .ok (.ifCond .eq 13, 3) := by decide +kernel
theorem dX9_knife_9 : decode cX9_knife 9 = .ok (.iload_n 2, 1) := by decide +kernel
theorem dX9_knife_10 : decode cX9_knife 10 = .ok (.iconst 1, 1) := by decide +kernel
theorem dX9_knife_11 : decode cX9_knife 11 = .ok (.bipush 9, 2) := by decide +kernel
theorem dX9_knife_13 : decode cX9_knife 13 = .ok (.invokestatic 74, 3) := by decide +kernel
theorem dX9_knife_16 : decode cX9_knife 16 = .ok (.ifCond .ne 6, 3) := by decide +kernel
theorem dX9_knife_19 : decode cX9_knife 19 = .ok (.bipush (-2), 2) := by decide +kernel
theorem dX9_knife_21 : decode cX9_knife 21 = .ok (.ireturn, 1) := by decide +kernel
theorem dX9_knife_22 : decode cX9_knife 22 = .ok (.iload_n 3, 1) := by decide +kernel
theorem dX9_knife_23 : decode cX9_knife 23 = .ok (.iconst 1, 1) := by decide +kernel
theorem dX9_knife_24 : decode cX9_knife 24 = .ok (.bipush 24, 2) := by decide +kernel
theorem dX9_knife_26 : decode cX9_knife 26 = .ok (.invokestatic 74, 3) := by decide +kernel
theorem dX9_knife_29 : decode cX9_knife 29 = .ok (.ifCond .eq 13, 3) := by decide +kernel
theorem dX9_knife_32 : decode cX9_knife 32 = .ok (.iload 4, 2) := by decide +kernel
theorem dX9_knife_34 : decode cX9_knife 34 = .ok (.iconst 0, 1) := by decide +kernel
theorem dX9_knife_35 : decode cX9_knife 35 = .ok (.iconst 5, 1) := by decide +kernel
theorem dX9_knife_36 : decode cX9_knife 36 = .ok (.invokestatic 74, 3) := by decide +kernel
theorem dX9_knife_39 : decode cX9_knife 39 = .ok (.ifCond .ne 6, 3) := by decide +kernel
theorem dX9_knife_42 : decode cX9_knife 42 = .ok (.bipush (-2), 2) := by decide +kernel
theorem dX9_knife_44 : decode cX9_knife 44 = .ok (.ireturn, 1) := by decide +kernel
theorem dX9_knife_45 : decode cX9_knife 45 = .ok (.aload_n 0, 1) := by decide +kernel
theorem dX9_knife_46 : decode cX9_knife 46 = .ok (.getfield 17, 3) := by decide +kernel
theorem dX9_knife_49 : decode cX9_knife 49 = .ok (.bipush 6, 2) := by decide +kernel
theorem dX9_knife_51 : decode cX9_knife 51 = .ok (.if_icmp .lt 6, 3) := by decide +kernel
theorem dX9_knife_54 : decode cX9_knife 54 = .ok (.bipush (-4), 2) := by decide +kernel
theorem dX9_knife_56 : decode cX9_knife 56 = .ok (.ireturn, 1) := by decide +kernel
theorem dX9_knife_57 : decode cX9_knife 57 = .ok (.aload_n 0, 1) := by decide +kernel
theorem dX9_knife_58 : decode cX9_knife 58 = .ok (.getfield 17, 3) := by decide +kernel
theorem dX9_knife_61 : decode cX9_knife 61 = .ok (.istore 5, 2) := by decide +kernel
theorem dX9_knife_63 : decode cX9_knife 63 = .ok (.iload_n 1, 1) := by decide +kernel
theorem dX9_knife_64 : decode cX9_knife 64 = .ok (.ifCond .ne 28, 3) := by decide +kernel
theorem dX9_knife_67 : decode cX9_knife 67 = .ok (.aload_n 0, 1) := by decide +kernel
theorem dX9_knife_68 : decode cX9_knife 68 = .ok (.getfield 13, 3) := by decide +kernel
theorem dX9_knife_71 : decode cX9_knife 71 = .ok (.iload 5, 2) := by decide +kernel
theorem dX9_knife_73 : decode cX9_knife 73 = .ok (.new 11, 3) := by decide +kernel
theorem dX9_knife_76 : decode cX9_knife 76 = .ok (.dup, 1) := by decide +kernel
theorem dX9_knife_77 : decode cX9_knife 77 = .ok (.iload 5, 2) := by decide +kernel
theorem dX9_knife_79 : decode cX9_knife 79 = .ok (.iload_n 2, 1) := by decide +kernel
theorem dX9_knife_80 : decode cX9_knife 80 = .ok (.iload_n 3, 1) := by decide +kernel
theorem dX9_knife_81 : decode cX9_knife 81 = .ok (.iload 4, 2) := by decide +kernel
theorem dX9_knife_83 : decode cX9_knife 83 = .ok (.iload 4, 2) := by decide +kernel
theorem dX9_knife_85 : decode cX9_knife 85 = .ok (.invokespecial 78, 3) := by decide +kernel
theorem dX9_knife_88 : decode cX9_knife 88 = .ok (.aastore, 1) := by decide +kernel
theorem dX9_knife_89 : decode cX9_knife 89 = .ok (.goto 51, 3) := by decide +kernel
theorem dX9_knife_92 : decode cX9_knife 92 = .ok (.iload_n 1, 1) := by decide +kernel
theorem dX9_knife_93 : decode cX9_knife 93 = .ok (.iconst 1, 1) := by decide +kernel
theorem dX9_knife_94 : decode cX9_knife 94 = .ok (.if_icmp .ne 26, 3) := by decide +kernel
theorem dX9_knife_97 : decode cX9_knife 97 = .ok (.aload_n 0, 1) := by decide +kernel
theorem dX9_knife_98 : decode cX9_knife 98 = .ok (.getfield 13, 3) := by decide +kernel
theorem dX9_knife_101 : decode cX9_knife 101 = .ok (.iload 5, 2) := by decide +kernel
theorem dX9_knife_103 : decode cX9_knife 103 = .ok (.new 81, 3) := by decide +kernel
theorem dX9_knife_106 : decode cX9_knife 106 = .ok (.dup, 1) := by decide +kernel
theorem dX9_knife_107 : decode cX9_knife 107 = .ok (.iload 5, 2) := by decide +kernel
theorem dX9_knife_109 : decode cX9_knife 109 = .ok (.iload_n 2, 1) := by decide +kernel
theorem dX9_knife_110 : decode cX9_knife 110 = .ok (.iload_n 3, 1) := by decide +kernel
theorem dX9_knife_111 : decode cX9_knife 111 = .ok (.iload 4, 2) := by decide +kernel
theorem dX9_knife_113 : decode cX9_knife 113 = .ok (.invokespecial 83, 3) := by decide +kernel
theorem dX9_knife_116 : decode cX9_knife 116 = .ok (.aastore, 1) := by decide +kernel
theorem dX9_knife_117 : decode cX9_knife 117 = .ok (.goto 23, 3) := by decide +kernel
theorem dX9_knife_120 : decode cX9_knife 120 = .ok (.aload_n 0, 1) := by decide +kernel
theorem dX9_knife_121 : decode cX9_knife 121 = .ok (.getfield 13, 3) := by decide +kernel
theorem dX9_knife_124 : decode cX9_knife 124 = .ok (.iload 5, 2) := by decide +kernel
theorem dX9_knife_126 : decode cX9_knife 126 = .ok (.new 86, 3) := by decide +kernel
theorem dX9_knife_129 : decode cX9_knife 129 = .ok (.dup, 1) := by decide +kernel
theorem dX9_knife_130 : decode cX9_knife 130 = .ok (.iload 5, 2) := by decide +kernel
theorem dX9_knife_132 : decode cX9_knife 132 = .ok (.iload_n 2, 1) := by decide +kernel
theorem dX9_knife_133 : decode cX9_knife 133 = .ok (.iload_n 3, 1) := by decide +kernel
theorem dX9_knife_134 : decode cX9_knife 134 = .ok (.iload 4, 2) := by decide +kernel
theorem dX9_knife_136 : decode cX9_knife 136 = .ok (.invokespecial 88, 3) := by decide +kernel
theorem dX9_knife_139 : decode cX9_knife 139 = .ok (.aastore, 1) := by decide +kernel
theorem dX9_knife_140 : decode cX9_knife 140 = .ok (.aload_n 0, 1) := by decide +kernel
theorem dX9_knife_141 : decode cX9_knife 141 = .ok (.dup, 1) := by decide +kernel
theorem dX9_knife_142 : decode cX9_knife 142 = .ok (.getfield 17, 3) := by decide +kernel
theorem dX9_knife_145 : decode cX9_knife 145 = .ok (.iconst 1, 1) := by decide +kernel
theorem dX9_knife_146 : decode cX9_knife 146 = .ok (.iadd, 1) := by decide +kernel
theorem dX9_knife_147 : decode cX9_knife 147 = .ok (.putfield 17, 3) := by decide +kernel
theorem dX9_knife_150 : decode cX9_knife 150 = .ok (.iload 5, 2) := by decide +kernel
theorem dX9_knife_152 : decode cX9_knife 152 = .ok (.ireturn, 1) := by decide +kernel
set_option maxRecDepth 20000 in
theorem ggX9_ofKnife_X9_knifeAt : GoodIn wsX9_ofKnife wsX9_knifeAt := goodIn_r _ [9, 10, 11, 12, 13, 8, 14, 49, 50, 51, 52, 53, 54, 55, 56, 57, 58, 59] (by decide +kernel) (by decide +kernel)
set_option maxRecDepth 20000 in
theorem gX9_ofKnife_X9_knifeAt : GoodIn wsX9_ofKnife (wsV RX9 89 RX9 yX9_knifeAt wsX9_knifeAt) := goodIn_app (goodIn_of _ (by decide +kernel)) ggX9_ofKnife_X9_knifeAt
set_option maxRecDepth 20000 in
theorem ggX9_ofKnife_X2_kindNumber : GoodIn wsX9_ofKnife wsX2_kindNumber := goodIn_r _ [21] (by decide +kernel) (by decide +kernel)
set_option maxRecDepth 20000 in
theorem gX9_ofKnife_X2_kindNumber_u93X2 : GoodIn wsX9_ofKnife (va_wsO RX9 93 RX2 "KnifeBoard$Knife" ⟨"KnifeBoard$Knife", "kindNumber", "()I"⟩ yX2_kindNumber wsX2_kindNumber) := goodIn_app (goodIn_of _ (by decide +kernel)) ggX9_ofKnife_X2_kindNumber
set_option maxRecDepth 20000 in
theorem ggX9_ofKnife_X3_kindNumber : GoodIn wsX9_ofKnife wsX3_kindNumber := goodIn_r _ [22] (by decide +kernel) (by decide +kernel)
set_option maxRecDepth 20000 in
theorem gX9_ofKnife_X3_kindNumber : GoodIn wsX9_ofKnife (wsV RX9 93 RX3 yX3_kindNumber wsX3_kindNumber) := goodIn_app (goodIn_of _ (by decide +kernel)) ggX9_ofKnife_X3_kindNumber
set_option maxRecDepth 20000 in
theorem ggX9_ofKnife_X8_kindNumber : GoodIn wsX9_ofKnife wsX8_kindNumber := goodIn_r _ [30] (by decide +kernel) (by decide +kernel)
set_option maxRecDepth 20000 in
theorem gX9_ofKnife_X8_kindNumber_u93X8 : GoodIn wsX9_ofKnife (va_wsO RX9 93 RX8 "KnifeBoard$Knife" ⟨"KnifeBoard$Knife", "kindNumber", "()I"⟩ yX8_kindNumber wsX8_kindNumber) := goodIn_app (goodIn_of _ (by decide +kernel)) ggX9_ofKnife_X8_kindNumber
theorem dX9_ofKnife_0 : decode cX9_ofKnife 0 = .ok (.aload_n 0, 1) := by decide +kernel
theorem dX9_ofKnife_1 : decode cX9_ofKnife 1 = .ok (.iload_n 1, 1) := by decide +kernel
theorem dX9_ofKnife_2 : decode cX9_ofKnife 2 = .ok (.invokevirtual 89, 3) := by decide +kernel
theorem dX9_ofKnife_5 : decode cX9_ofKnife 5 = .ok (.astore_n 3, 1) := by decide +kernel
theorem dX9_ofKnife_6 : decode cX9_ofKnife 6 = .ok (.aload_n 3, 1) := by decide +kernel
theorem dX9_ofKnife_7 : decode cX9_ofKnife 7 = .ok (.ifnonnull 5, 3) := by decide +kernel
theorem dX9_ofKnife_10 : decode cX9_ofKnife 10 = .ok (.iconst (-1), 1) := by decide +kernel
theorem dX9_ofKnife_11 : decode cX9_ofKnife 11 = .ok (.ireturn, 1) := by decide +kernel
theorem dX9_ofKnife_12 : decode cX9_ofKnife 12 = .ok (.iload_n 2, 1) := by decide +kernel
theorem dX9_ofKnife_13 : decode cX9_ofKnife 13 = .ok (.tableswitch 60 0 4 #[35, 40, 45, 50, 55], 35) := by decide +kernel
theorem dX9_ofKnife_48 : decode cX9_ofKnife 48 = .ok (.aload_n 3, 1) := by decide +kernel
theorem dX9_ofKnife_49 : decode cX9_ofKnife 49 = .ok (.invokevirtual 93, 3) := by decide +kernel
theorem dX9_ofKnife_52 : decode cX9_ofKnife 52 = .ok (.ireturn, 1) := by decide +kernel
theorem dX9_ofKnife_53 : decode cX9_ofKnife 53 = .ok (.aload_n 3, 1) := by decide +kernel
theorem dX9_ofKnife_54 : decode cX9_ofKnife 54 = .ok (.getfield 97, 3) := by decide +kernel
theorem dX9_ofKnife_57 : decode cX9_ofKnife 57 = .ok (.ireturn, 1) := by decide +kernel
theorem dX9_ofKnife_58 : decode cX9_ofKnife 58 = .ok (.aload_n 3, 1) := by decide +kernel
theorem dX9_ofKnife_59 : decode cX9_ofKnife 59 = .ok (.getfield 100, 3) := by decide +kernel
theorem dX9_ofKnife_62 : decode cX9_ofKnife 62 = .ok (.ireturn, 1) := by decide +kernel
theorem dX9_ofKnife_63 : decode cX9_ofKnife 63 = .ok (.aload_n 3, 1) := by decide +kernel
theorem dX9_ofKnife_64 : decode cX9_ofKnife 64 = .ok (.getfield 103, 3) := by decide +kernel
theorem dX9_ofKnife_67 : decode cX9_ofKnife 67 = .ok (.ireturn, 1) := by decide +kernel
theorem dX9_ofKnife_68 : decode cX9_ofKnife 68 = .ok (.aload_n 3, 1) := by decide +kernel
theorem dX9_ofKnife_69 : decode cX9_ofKnife 69 = .ok (.getfield 106, 3) := by decide +kernel
theorem dX9_ofKnife_72 : decode cX9_ofKnife 72 = .ok (.ireturn, 1) := by decide +kernel
theorem dX9_ofKnife_73 : decode cX9_ofKnife 73 = .ok (.bipush (-2), 2) := by decide +kernel
theorem dX9_ofKnife_75 : decode cX9_ofKnife 75 = .ok (.ireturn, 1) := by decide +kernel
set_option maxRecDepth 20000 in
theorem ggX9_lies_X9_knifeAt : GoodIn wsX9_lies wsX9_knifeAt := goodIn_r _ [8, 9, 10, 11, 12, 7, 13, 59, 60, 61, 62, 63, 64, 65, 66, 67, 68, 69] (by decide +kernel) (by decide +kernel)
set_option maxRecDepth 20000 in
theorem gX9_lies_X9_knifeAt : GoodIn wsX9_lies (wsV RX9 89 RX9 yX9_knifeAt wsX9_knifeAt) := goodIn_app (goodIn_of _ (by decide +kernel)) ggX9_lies_X9_knifeAt
set_option maxRecDepth 20000 in
theorem ggX9_lies_X9_isThrow : GoodIn wsX9_lies wsX9_isThrow := goodIn_r _ [16, 11, 12, 7, 13] (by decide +kernel) (by decide +kernel)
set_option maxRecDepth 20000 in
theorem gX9_lies_X9_isThrow : GoodIn wsX9_lies (va_wsS RX9 109 yX9_isThrow wsX9_isThrow) := goodIn_app (goodIn_of _ (by decide +kernel)) ggX9_lies_X9_isThrow
set_option maxRecDepth 20000 in
theorem ggX9_lies_X9_within : GoodIn wsX9_lies wsX9_within := goodIn_r _ [13] (by decide +kernel) (by decide +kernel)
set_option maxRecDepth 20000 in
theorem gX9_lies_X9_within : GoodIn wsX9_lies (va_wsS RX9 74 yX9_within wsX9_within) := goodIn_app (goodIn_of _ (by decide +kernel)) ggX9_lies_X9_within
set_option maxRecDepth 20000 in
theorem ggX9_lies_X3_roundBy : GoodIn wsX9_lies wsX3_roundBy := goodIn_r _ [22, 23, 24, 25, 26, 27, 41, 42, 43, 44, 45, 46, 47, 48, 49, 50, 51, 52, 53, 54, 55, 56, 57, 58] (by decide +kernel) (by decide +kernel)
set_option maxRecDepth 20000 in
theorem gX9_lies_X3_roundBy_u115X2 : GoodIn wsX9_lies (va_wsU RX9 115 RX2 "KnifeBoard$Knife" ⟨"KnifeBoard$Knife", "roundBy", "(III)I"⟩ yX3_roundBy wsX3_roundBy) := goodIn_app (goodIn_of _ (by decide +kernel)) ggX9_lies_X3_roundBy
set_option maxRecDepth 20000 in
theorem gX9_lies_X3_roundBy : GoodIn wsX9_lies (wsV RX9 115 RX3 yX3_roundBy wsX3_roundBy) := goodIn_app (goodIn_of _ (by decide +kernel)) ggX9_lies_X3_roundBy
set_option maxRecDepth 20000 in
theorem gX9_lies_X3_roundBy_u115X8 : GoodIn wsX9_lies (va_wsU RX9 115 RX8 "KnifeBoard$Knife" ⟨"KnifeBoard$Knife", "roundBy", "(III)I"⟩ yX3_roundBy wsX3_roundBy) := goodIn_app (goodIn_of _ (by decide +kernel)) ggX9_lies_X3_roundBy
set_option maxRecDepth 20000 in
theorem ggX9_lies_X9_share : GoodIn wsX9_lies wsX9_share := goodIn_r _ [33, 1, 34, 35, 36, 37, 38, 39, 7, 40] (by decide +kernel) (by decide +kernel)
set_option maxRecDepth 20000 in
theorem gX9_lies_X9_share : GoodIn wsX9_lies (va_wsS RX9 119 yX9_share wsX9_share) := goodIn_app (goodIn_of _ (by decide +kernel)) ggX9_lies_X9_share
theorem dX9_lies_0 : decode cX9_lies 0 = .ok (.aload_n 0, 1) := by decide +kernel
theorem dX9_lies_1 : decode cX9_lies 1 = .ok (.iload_n 1, 1) := by decide +kernel
theorem dX9_lies_2 : decode cX9_lies 2 = .ok (.invokevirtual 89, 3) := by decide +kernel
theorem dX9_lies_5 : decode cX9_lies 5 = .ok (.astore 5, 2) := by decide +kernel
theorem dX9_lies_7 : decode cX9_lies 7 = .ok (.aload 5, 2) := by decide +kernel
theorem dX9_lies_9 : decode cX9_lies 9 = .ok (.ifnull 21, 3) := by decide +kernel
theorem dX9_lies_12 : decode cX9_lies 12 = .ok (.iload_n 2, 1) := by decide +kernel
theorem dX9_lies_13 : decode cX9_lies 13 = .ok (.iload_n 3, 1) := by decide +kernel
theorem dX9_lies_14 : decode cX9_lies 14 = .ok (.invokestatic 109, 3) := by decide +kernel
theorem dX9_lies_17 : decode cX9_lies 17 = .ok (.ifCond .eq 13, 3) := by decide +kernel
theorem dX9_lies_20 : decode cX9_lies 20 = .ok (.iload 4, 2) := by decide +kernel
theorem dX9_lies_22 : decode cX9_lies 22 = .ok (.iconst 0, 1) := by decide +kernel
theorem dX9_lies_23 : decode cX9_lies 23 = .ok (.iconst 1, 1) := by decide +kernel
theorem dX9_lies_24 : decode cX9_lies 24 = .ok (.invokestatic 74, 3) := by decide +kernel
theorem dX9_lies_27 : decode cX9_lies 27 = .ok (.ifCond .ne 7, 3) := by decide +kernel
theorem dX9_lies_30 : decode cX9_lies 30 = .ok (.ldc2_w 113, 3) := by decide +kernel
theorem dX9_lies_33 : decode cX9_lies 33 = .ok (.lreturn, 1) := by decide +kernel
theorem dX9_lies_34 : decode cX9_lies 34 = .ok (.aload 5, 2) := by decide +kernel
theorem dX9_lies_36 : decode cX9_lies 36 = .ok (.iload_n 2, 1) := by decide +kernel
theorem dX9_lies_37 : decode cX9_lies 37 = .ok (.aload 5, 2) := by decide +kernel
theorem dX9_lies_39 : decode cX9_lies 39 = .ok (.getfield 100, 3) := by decide +kernel
theorem dX9_lies_42 : decode cX9_lies 42 = .ok (.iload_n 3, 1) := by decide +kernel
theorem dX9_lies_43 : decode cX9_lies 43 = .ok (.invokevirtual 115, 3) := by decide +kernel
theorem dX9_lies_46 : decode cX9_lies 46 = .ok (.i2l, 1) := by decide +kernel
theorem dX9_lies_47 : decode cX9_lies 47 = .ok (.aload 5, 2) := by decide +kernel
theorem dX9_lies_49 : decode cX9_lies 49 = .ok (.getfield 97, 3) := by decide +kernel
theorem dX9_lies_52 : decode cX9_lies 52 = .ok (.i2l, 1) := by decide +kernel
theorem dX9_lies_53 : decode cX9_lies 53 = .ok (.iload 4, 2) := by decide +kernel
theorem dX9_lies_55 : decode cX9_lies 55 = .ok (.invokestatic 119, 3) := by decide +kernel
theorem dX9_lies_58 : decode cX9_lies 58 = .ok (.lreturn, 1) := by decide +kernel
set_option maxRecDepth 20000 in
theorem ggX9_comes_X9_knifeAt : GoodIn wsX9_comes wsX9_knifeAt := goodIn_r _ [6, 7, 8, 9, 10, 5, 11, 56, 57, 58, 59, 60, 61, 62, 63, 64, 65, 66] (by decide +kernel) (by decide +kernel)
set_option maxRecDepth 20000 in
theorem gX9_comes_X9_knifeAt : GoodIn wsX9_comes (wsV RX9 89 RX9 yX9_knifeAt wsX9_knifeAt) := goodIn_app (goodIn_of _ (by decide +kernel)) ggX9_comes_X9_knifeAt
set_option maxRecDepth 20000 in
theorem ggX9_comes_X9_isThrow : GoodIn wsX9_comes wsX9_isThrow := goodIn_r _ [14, 9, 10, 5, 11] (by decide +kernel) (by decide +kernel)
set_option maxRecDepth 20000 in
theorem gX9_comes_X9_isThrow : GoodIn wsX9_comes (va_wsS RX9 109 yX9_isThrow wsX9_isThrow) := goodIn_app (goodIn_of _ (by decide +kernel)) ggX9_comes_X9_isThrow
set_option maxRecDepth 20000 in
theorem ggX9_comes_X3_cameBy : GoodIn wsX9_comes wsX3_cameBy := goodIn_r _ [20, 21, 22, 23, 24, 25, 19, 26, 27, 28, 29, 30, 31, 32, 33, 34, 38, 39, 40, 41, 42, 43, 44, 45, 46, 47, 48, 49, 50, 51, 52, 53, 54, 55] (by decide +kernel) (by decide +kernel)
set_option maxRecDepth 20000 in
theorem gX9_comes_X3_cameBy_u123X2 : GoodIn wsX9_comes (va_wsU RX9 123 RX2 "KnifeBoard$Knife" ⟨"KnifeBoard$Knife", "cameBy", "(III)I"⟩ yX3_cameBy wsX3_cameBy) := goodIn_app (goodIn_of _ (by decide +kernel)) ggX9_comes_X3_cameBy
set_option maxRecDepth 20000 in
theorem gX9_comes_X3_cameBy : GoodIn wsX9_comes (wsV RX9 123 RX3 yX3_cameBy wsX3_cameBy) := goodIn_app (goodIn_of _ (by decide +kernel)) ggX9_comes_X3_cameBy
set_option maxRecDepth 20000 in
theorem gX9_comes_X3_cameBy_u123X8 : GoodIn wsX9_comes (va_wsU RX9 123 RX8 "KnifeBoard$Knife" ⟨"KnifeBoard$Knife", "cameBy", "(III)I"⟩ yX3_cameBy wsX3_cameBy) := goodIn_app (goodIn_of _ (by decide +kernel)) ggX9_comes_X3_cameBy
theorem dX9_comes_0 : decode cX9_comes 0 = .ok (.aload_n 0, 1) := by decide +kernel
theorem dX9_comes_1 : decode cX9_comes 1 = .ok (.iload_n 1, 1) := by decide +kernel
theorem dX9_comes_2 : decode cX9_comes 2 = .ok (.invokevirtual 89, 3) := by decide +kernel
theorem dX9_comes_5 : decode cX9_comes 5 = .ok (.astore 4, 2) := by decide +kernel
theorem dX9_comes_7 : decode cX9_comes 7 = .ok (.aload 4, 2) := by decide +kernel
theorem dX9_comes_9 : decode cX9_comes 9 = .ok (.ifnonnull 5, 3) := by decide +kernel
theorem dX9_comes_12 : decode cX9_comes 12 = .ok (.iconst (-1), 1) := by decide +kernel
theorem dX9_comes_13 : decode cX9_comes 13 = .ok (.ireturn, 1) := by decide +kernel
theorem dX9_comes_14 : decode cX9_comes 14 = .ok (.iload_n 2, 1) := by decide +kernel
theorem dX9_comes_15 : decode cX9_comes 15 = .ok (.iload_n 3, 1) := by decide +kernel
theorem dX9_comes_16 : decode cX9_comes 16 = .ok (.invokestatic 109, 3) := by decide +kernel
theorem dX9_comes_19 : decode cX9_comes 19 = .ok (.ifCond .ne 6, 3) := by decide +kernel
theorem dX9_comes_22 : decode cX9_comes 22 = .ok (.bipush (-2), 2) := by decide +kernel
theorem dX9_comes_24 : decode cX9_comes 24 = .ok (.ireturn, 1) := by decide +kernel
theorem dX9_comes_25 : decode cX9_comes 25 = .ok (.aload 4, 2) := by decide +kernel
theorem dX9_comes_27 : decode cX9_comes 27 = .ok (.iload_n 2, 1) := by decide +kernel
theorem dX9_comes_28 : decode cX9_comes 28 = .ok (.aload 4, 2) := by decide +kernel
theorem dX9_comes_30 : decode cX9_comes 30 = .ok (.getfield 100, 3) := by decide +kernel
theorem dX9_comes_33 : decode cX9_comes 33 = .ok (.iload_n 3, 1) := by decide +kernel
theorem dX9_comes_34 : decode cX9_comes 34 = .ok (.invokevirtual 123, 3) := by decide +kernel
theorem dX9_comes_37 : decode cX9_comes 37 = .ok (.ireturn, 1) := by decide +kernel
set_option maxRecDepth 20000 in
theorem ggX9_sticks_X9_knifeAt : GoodIn wsX9_sticks wsX9_knifeAt := goodIn_r _ [5, 6, 7, 8, 9, 4, 10, 55, 56, 57, 58, 59, 60, 61, 62, 63, 64, 65] (by decide +kernel) (by decide +kernel)
set_option maxRecDepth 20000 in
theorem gX9_sticks_X9_knifeAt : GoodIn wsX9_sticks (wsV RX9 89 RX9 yX9_knifeAt wsX9_knifeAt) := goodIn_app (goodIn_of _ (by decide +kernel)) ggX9_sticks_X9_knifeAt
set_option maxRecDepth 20000 in
theorem ggX9_sticks_X9_within : GoodIn wsX9_sticks wsX9_within := goodIn_r _ [10] (by decide +kernel) (by decide +kernel)
set_option maxRecDepth 20000 in
theorem gX9_sticks_X9_within : GoodIn wsX9_sticks (va_wsS RX9 74 yX9_within wsX9_within) := goodIn_app (goodIn_of _ (by decide +kernel)) ggX9_sticks_X9_within
set_option maxRecDepth 20000 in
theorem ggX9_sticks_X3_holdsFast : GoodIn wsX9_sticks wsX3_holdsFast := goodIn_r _ [16, 17, 18, 19, 20, 21, 15, 22, 23, 24, 25, 26, 27, 28, 29, 30, 31, 32, 33, 34, 35, 36, 37, 38, 39, 40, 41, 42, 43, 44, 45, 46, 47, 48, 49, 50, 51, 66, 67, 68, 69, 70, 71, 72, 73, 74, 75, 76, 77, 78, 79, 80, 81, 82, 83] (by decide +kernel) (by decide +kernel)
set_option maxRecDepth 20000 in
theorem gX9_sticks_X3_holdsFast_u126X2 : GoodIn wsX9_sticks (va_wsU RX9 126 RX2 "KnifeBoard$Knife" ⟨"KnifeBoard$Knife", "holdsFast", "(II)Z"⟩ yX3_holdsFast wsX3_holdsFast) := goodIn_app (goodIn_of _ (by decide +kernel)) ggX9_sticks_X3_holdsFast
set_option maxRecDepth 20000 in
theorem gX9_sticks_X3_holdsFast : GoodIn wsX9_sticks (wsV RX9 126 RX3 yX3_holdsFast wsX3_holdsFast) := goodIn_app (goodIn_of _ (by decide +kernel)) ggX9_sticks_X3_holdsFast
set_option maxRecDepth 20000 in
theorem gX9_sticks_X3_holdsFast_u126X8 : GoodIn wsX9_sticks (va_wsU RX9 126 RX8 "KnifeBoard$Knife" ⟨"KnifeBoard$Knife", "holdsFast", "(II)Z"⟩ yX3_holdsFast wsX3_holdsFast) := goodIn_app (goodIn_of _ (by decide +kernel)) ggX9_sticks_X3_holdsFast
theorem dX9_sticks_0 : decode cX9_sticks 0 = .ok (.aload_n 0, 1) := by decide +kernel
theorem dX9_sticks_1 : decode cX9_sticks 1 = .ok (.iload_n 1, 1) := by decide +kernel
theorem dX9_sticks_2 : decode cX9_sticks 2 = .ok (.invokevirtual 89, 3) := by decide +kernel
theorem dX9_sticks_5 : decode cX9_sticks 5 = .ok (.astore_n 3, 1) := by decide +kernel
theorem dX9_sticks_6 : decode cX9_sticks 6 = .ok (.aload_n 3, 1) := by decide +kernel
theorem dX9_sticks_7 : decode cX9_sticks 7 = .ok (.ifnonnull 5, 3) := by decide +kernel
theorem dX9_sticks_10 : decode cX9_sticks 10 = .ok (.iconst (-1), 1) := by decide +kernel
theorem dX9_sticks_11 : decode cX9_sticks 11 = .ok (.ireturn, 1) := by decide +kernel
theorem dX9_sticks_12 : decode cX9_sticks 12 = .ok (.iload_n 2, 1) := by decide +kernel
theorem dX9_sticks_13 : decode cX9_sticks 13 = .ok (.iconst 0, 1) := by decide +kernel
theorem dX9_sticks_14 : decode cX9_sticks 14 = .ok (.bipush 23, 2) := by decide +kernel
theorem dX9_sticks_16 : decode cX9_sticks 16 = .ok (.invokestatic 74, 3) := by decide +kernel
theorem dX9_sticks_19 : decode cX9_sticks 19 = .ok (.ifCond .ne 6, 3) := by decide +kernel
theorem dX9_sticks_22 : decode cX9_sticks 22 = .ok (.bipush (-2), 2) := by decide +kernel
theorem dX9_sticks_24 : decode cX9_sticks 24 = .ok (.ireturn, 1) := by decide +kernel
theorem dX9_sticks_25 : decode cX9_sticks 25 = .ok (.iconst 0, 1) := by decide +kernel
theorem dX9_sticks_26 : decode cX9_sticks 26 = .ok (.istore 4, 2) := by decide +kernel
theorem dX9_sticks_28 : decode cX9_sticks 28 = .ok (.iconst 1, 1) := by decide +kernel
theorem dX9_sticks_29 : decode cX9_sticks 29 = .ok (.istore 5, 2) := by decide +kernel
theorem dX9_sticks_31 : decode cX9_sticks 31 = .ok (.iload 5, 2) := by decide +kernel
theorem dX9_sticks_33 : decode cX9_sticks 33 = .ok (.bipush 31, 2) := by decide +kernel
theorem dX9_sticks_35 : decode cX9_sticks 35 = .ok (.if_icmp .gt 30, 3) := by decide +kernel
theorem dX9_sticks_38 : decode cX9_sticks 38 = .ok (.aload_n 3, 1) := by decide +kernel
theorem dX9_sticks_39 : decode cX9_sticks 39 = .ok (.iload_n 2, 1) := by decide +kernel
theorem dX9_sticks_40 : decode cX9_sticks 40 = .ok (.iload 5, 2) := by decide +kernel
theorem dX9_sticks_42 : decode cX9_sticks 42 = .ok (.invokevirtual 126, 3) := by decide +kernel
theorem dX9_sticks_45 : decode cX9_sticks 45 = .ok (.ifCond .eq 14, 3) := by decide +kernel
theorem dX9_sticks_48 : decode cX9_sticks 48 = .ok (.iload 4, 2) := by decide +kernel
theorem dX9_sticks_50 : decode cX9_sticks 50 = .ok (.iconst 1, 1) := by decide +kernel
theorem dX9_sticks_51 : decode cX9_sticks 51 = .ok (.iload 5, 2) := by decide +kernel
theorem dX9_sticks_53 : decode cX9_sticks 53 = .ok (.iconst 1, 1) := by decide +kernel
theorem dX9_sticks_54 : decode cX9_sticks 54 = .ok (.isub, 1) := by decide +kernel
theorem dX9_sticks_55 : decode cX9_sticks 55 = .ok (.ishl, 1) := by decide +kernel
theorem dX9_sticks_56 : decode cX9_sticks 56 = .ok (.ior, 1) := by decide +kernel
theorem dX9_sticks_57 : decode cX9_sticks 57 = .ok (.istore 4, 2) := by decide +kernel
theorem dX9_sticks_59 : decode cX9_sticks 59 = .ok (.iinc 5 1, 3) := by decide +kernel
theorem dX9_sticks_62 : decode cX9_sticks 62 = .ok (.goto (-31), 3) := by decide +kernel
theorem dX9_sticks_65 : decode cX9_sticks 65 = .ok (.iload 4, 2) := by decide +kernel
theorem dX9_sticks_67 : decode cX9_sticks 67 = .ok (.ireturn, 1) := by decide +kernel
set_option maxRecDepth 20000 in
theorem ggX9_hand_X9_takeText : GoodIn wsX9_hand wsX9_takeText := goodIn_r _ [7, 8, 9, 10, 6, 11, 12, 13, 14, 15, 16, 17, 18, 19, 20, 21, 22, 23, 1, 24, 25, 26, 27, 28, 29, 30, 31, 32, 33, 34, 35, 36, 37, 38, 39, 40, 41, 42, 43, 66, 67, 68, 69, 70, 71, 72, 73, 74, 75, 76, 77, 78, 79, 80] (by decide +kernel) (by decide +kernel)
set_option maxRecDepth 20000 in
theorem gX9_hand_X9_takeText : GoodIn wsX9_hand (wsV RX9 129 RX9 yX9_takeText wsX9_takeText) := goodIn_app (goodIn_of _ (by decide +kernel)) ggX9_hand_X9_takeText
set_option maxRecDepth 20000 in
theorem ggX9_hand_X1_firstFault : GoodIn wsX9_hand wsX1_firstFault := goodIn_r _ [47, 48, 49, 46, 50, 51, 16, 6, 17, 52, 53, 54, 55, 56, 57, 58] (by decide +kernel) (by decide +kernel)
set_option maxRecDepth 20000 in
theorem gX9_hand_X1_firstFault : GoodIn wsX9_hand (va_wsS RX9 133 yX1_firstFault wsX1_firstFault) := goodIn_app (goodIn_of _ (by decide +kernel)) ggX9_hand_X1_firstFault
set_option maxRecDepth 20000 in
theorem ggX9_hand_X1_read : GoodIn wsX9_hand wsX1_read := goodIn_r _ [62, 63, 64, 65, 81, 82, 83] (by decide +kernel) (by decide +kernel)
set_option maxRecDepth 20000 in
theorem gX9_hand_X1_read : GoodIn wsX9_hand (wsV RX9 137 RX1 yX1_read wsX1_read) := goodIn_app (goodIn_of _ (by decide +kernel)) ggX9_hand_X1_read
theorem dX9_hand_0 : decode cX9_hand 0 = .ok (.aload_n 0, 1) := by decide +kernel
theorem dX9_hand_1 : decode cX9_hand 1 = .ok (.iload_n 1, 1) := by decide +kernel
theorem dX9_hand_2 : decode cX9_hand 2 = .ok (.iload_n 2, 1) := by decide +kernel
theorem dX9_hand_3 : decode cX9_hand 3 = .ok (.iload_n 3, 1) := by decide +kernel
theorem dX9_hand_4 : decode cX9_hand 4 = .ok (.iload 4, 2) := by decide +kernel
theorem dX9_hand_6 : decode cX9_hand 6 = .ok (.invokevirtual 129, 3) := by decide +kernel
theorem dX9_hand_9 : decode cX9_hand 9 = .ok (.istore 5, 2) := by decide +kernel
theorem dX9_hand_11 : decode cX9_hand 11 = .ok (.iload 5, 2) := by decide +kernel
theorem dX9_hand_13 : decode cX9_hand 13 = .ok (.ifCond .eq 6, 3) := by decide +kernel
theorem dX9_hand_16 : decode cX9_hand 16 = .ok (.iload 5, 2) := by decide +kernel
theorem dX9_hand_18 : decode cX9_hand 18 = .ok (.ireturn, 1) := by decide +kernel
theorem dX9_hand_19 : decode cX9_hand 19 = .ok (.aload_n 0, 1) := by decide +kernel
theorem dX9_hand_20 : decode cX9_hand 20 = .ok (.getfield 56, 3) := by decide +kernel
theorem dX9_hand_23 : decode cX9_hand 23 = .ok (.iload 4, 2) := by decide +kernel
theorem dX9_hand_25 : decode cX9_hand 25 = .ok (.invokestatic 133, 3) := by decide +kernel
theorem dX9_hand_28 : decode cX9_hand 28 = .ok (.istore 6, 2) := by decide +kernel
theorem dX9_hand_30 : decode cX9_hand 30 = .ok (.iload 6, 2) := by decide +kernel
theorem dX9_hand_32 : decode cX9_hand 32 = .ok (.bipush (-9), 2) := by decide +kernel
theorem dX9_hand_34 : decode cX9_hand 34 = .ok (.if_icmp .eq 9, 3) := by decide +kernel
theorem dX9_hand_37 : decode cX9_hand 37 = .ok (.bipush (-100), 2) := by decide +kernel
theorem dX9_hand_39 : decode cX9_hand 39 = .ok (.iload 6, 2) := by decide +kernel
theorem dX9_hand_41 : decode cX9_hand 41 = .ok (.isub, 1) := by decide +kernel
theorem dX9_hand_42 : decode cX9_hand 42 = .ok (.ireturn, 1) := by decide +kernel
theorem dX9_hand_43 : decode cX9_hand 43 = .ok (.aload_n 0, 1) := by decide +kernel
theorem dX9_hand_44 : decode cX9_hand 44 = .ok (.getfield 24, 3) := by decide +kernel
theorem dX9_hand_47 : decode cX9_hand 47 = .ok (.aload_n 0, 1) := by decide +kernel
theorem dX9_hand_48 : decode cX9_hand 48 = .ok (.getfield 56, 3) := by decide +kernel
theorem dX9_hand_51 : decode cX9_hand 51 = .ok (.iload 4, 2) := by decide +kernel
theorem dX9_hand_53 : decode cX9_hand 53 = .ok (.invokevirtual 137, 3) := by decide +kernel
theorem dX9_hand_56 : decode cX9_hand 56 = .ok (.iconst 1, 1) := by decide +kernel
theorem dX9_hand_57 : decode cX9_hand 57 = .ok (.ireturn, 1) := by decide +kernel
set_option maxRecDepth 20000 in
theorem ggX9_weight_X9_within : GoodIn wsX9_weight wsX9_within := goodIn_r _ [6] (by decide +kernel) (by decide +kernel)
set_option maxRecDepth 20000 in
theorem gX9_weight_X9_within : GoodIn wsX9_weight (va_wsS RX9 74 yX9_within wsX9_within) := goodIn_app (goodIn_of _ (by decide +kernel)) ggX9_weight_X9_within
set_option maxRecDepth 20000 in
theorem ggX9_weight_X9_isStage : GoodIn wsX9_weight wsX9_isStage := goodIn_r _ [9, 3, 4, 5, 6] (by decide +kernel) (by decide +kernel)
set_option maxRecDepth 20000 in
theorem gX9_weight_X9_isStage : GoodIn wsX9_weight (va_wsS RX9 141 yX9_isStage wsX9_isStage) := goodIn_app (goodIn_of _ (by decide +kernel)) ggX9_weight_X9_isStage
set_option maxRecDepth 20000 in
theorem ggX9_weight_X1_weighs : GoodIn wsX9_weight wsX1_weighs := goodIn_r _ [14, 15, 16, 17, 18, 19, 31, 32, 33] (by decide +kernel) (by decide +kernel)
set_option maxRecDepth 20000 in
theorem gX9_weight_X1_weighs : GoodIn wsX9_weight (wsV RX9 149 RX1 yX1_weighs wsX1_weighs) := goodIn_app (goodIn_of _ (by decide +kernel)) ggX9_weight_X1_weighs
theorem dX9_weight_0 : decode cX9_weight 0 = .ok (.iload_n 1, 1) := by decide +kernel
theorem dX9_weight_1 : decode cX9_weight 1 = .ok (.iconst 0, 1) := by decide +kernel
theorem dX9_weight_2 : decode cX9_weight 2 = .ok (.iconst 2, 1) := by decide +kernel
theorem dX9_weight_3 : decode cX9_weight 3 = .ok (.invokestatic 74, 3) := by decide +kernel
theorem dX9_weight_6 : decode cX9_weight 6 = .ok (.ifCond .ne 5, 3) := by decide +kernel
theorem dX9_weight_9 : decode cX9_weight 9 = .ok (.iconst (-1), 1) := by decide +kernel
theorem dX9_weight_10 : decode cX9_weight 10 = .ok (.ireturn, 1) := by decide +kernel
theorem dX9_weight_11 : decode cX9_weight 11 = .ok (.iload_n 2, 1) := by decide +kernel
theorem dX9_weight_12 : decode cX9_weight 12 = .ok (.bipush (-2), 2) := by decide +kernel
theorem dX9_weight_14 : decode cX9_weight 14 = .ok (.iconst 2, 1) := by decide +kernel
theorem dX9_weight_15 : decode cX9_weight 15 = .ok (.invokestatic 74, 3) := by decide +kernel
theorem dX9_weight_18 : decode cX9_weight 18 = .ok (.ifCond .eq 10, 3) := by decide +kernel
theorem dX9_weight_21 : decode cX9_weight 21 = .ok (.iload_n 3, 1) := by decide +kernel
theorem dX9_weight_22 : decode cX9_weight 22 = .ok (.invokestatic 141, 3) := by decide +kernel
theorem dX9_weight_25 : decode cX9_weight 25 = .ok (.ifCond .ne 6, 3) := by decide +kernel
theorem dX9_weight_28 : decode cX9_weight 28 = .ok (.bipush (-2), 2) := by decide +kernel
theorem dX9_weight_30 : decode cX9_weight 30 = .ok (.ireturn, 1) := by decide +kernel
theorem dX9_weight_31 : decode cX9_weight 31 = .ok (.aload_n 0, 1) := by decide +kernel
theorem dX9_weight_32 : decode cX9_weight 32 = .ok (.getfield 24, 3) := by decide +kernel
theorem dX9_weight_35 : decode cX9_weight 35 = .ok (.getfield 145, 3) := by decide +kernel
theorem dX9_weight_38 : decode cX9_weight 38 = .ok (.ifCond .ne 6, 3) := by decide +kernel
theorem dX9_weight_41 : decode cX9_weight 41 = .ok (.bipush (-3), 2) := by decide +kernel
theorem dX9_weight_43 : decode cX9_weight 43 = .ok (.ireturn, 1) := by decide +kernel
theorem dX9_weight_44 : decode cX9_weight 44 = .ok (.aload_n 0, 1) := by decide +kernel
theorem dX9_weight_45 : decode cX9_weight 45 = .ok (.getfield 24, 3) := by decide +kernel
theorem dX9_weight_48 : decode cX9_weight 48 = .ok (.iload_n 1, 1) := by decide +kernel
theorem dX9_weight_49 : decode cX9_weight 49 = .ok (.iload_n 2, 1) := by decide +kernel
theorem dX9_weight_50 : decode cX9_weight 50 = .ok (.iload_n 3, 1) := by decide +kernel
theorem dX9_weight_51 : decode cX9_weight 51 = .ok (.invokevirtual 149, 3) := by decide +kernel
theorem dX9_weight_54 : decode cX9_weight 54 = .ok (.ireturn, 1) := by decide +kernel
set_option maxRecDepth 20000 in
theorem ggX9_stage_X9_within : GoodIn wsX9_stage wsX9_within := goodIn_r _ [6] (by decide +kernel) (by decide +kernel)
set_option maxRecDepth 20000 in
theorem gX9_stage_X9_within : GoodIn wsX9_stage (va_wsS RX9 74 yX9_within wsX9_within) := goodIn_app (goodIn_of _ (by decide +kernel)) ggX9_stage_X9_within
set_option maxRecDepth 20000 in
theorem ggX9_stage_X1_stageOf : GoodIn wsX9_stage wsX1_stageOf := goodIn_r _ [11, 12, 13, 14, 15, 16, 28, 29, 30] (by decide +kernel) (by decide +kernel)
set_option maxRecDepth 20000 in
theorem gX9_stage_X1_stageOf : GoodIn wsX9_stage (wsV RX9 152 RX1 yX1_stageOf wsX1_stageOf) := goodIn_app (goodIn_of _ (by decide +kernel)) ggX9_stage_X1_stageOf
theorem dX9_stage_0 : decode cX9_stage 0 = .ok (.iload_n 1, 1) := by decide +kernel
theorem dX9_stage_1 : decode cX9_stage 1 = .ok (.iconst 0, 1) := by decide +kernel
theorem dX9_stage_2 : decode cX9_stage 2 = .ok (.sipush 9999, 3) := by decide +kernel
theorem dX9_stage_5 : decode cX9_stage 5 = .ok (.invokestatic 74, 3) := by decide +kernel
theorem dX9_stage_8 : decode cX9_stage 8 = .ok (.ifCond .ne 6, 3) := by decide +kernel
theorem dX9_stage_11 : decode cX9_stage 11 = .ok (.bipush (-2), 2) := by decide +kernel
theorem dX9_stage_13 : decode cX9_stage 13 = .ok (.ireturn, 1) := by decide +kernel
theorem dX9_stage_14 : decode cX9_stage 14 = .ok (.aload_n 0, 1) := by decide +kernel
theorem dX9_stage_15 : decode cX9_stage 15 = .ok (.getfield 24, 3) := by decide +kernel
theorem dX9_stage_18 : decode cX9_stage 18 = .ok (.getfield 145, 3) := by decide +kernel
theorem dX9_stage_21 : decode cX9_stage 21 = .ok (.ifCond .ne 6, 3) := by decide +kernel
theorem dX9_stage_24 : decode cX9_stage 24 = .ok (.bipush (-3), 2) := by decide +kernel
theorem dX9_stage_26 : decode cX9_stage 26 = .ok (.ireturn, 1) := by decide +kernel
theorem dX9_stage_27 : decode cX9_stage 27 = .ok (.aload_n 0, 1) := by decide +kernel
theorem dX9_stage_28 : decode cX9_stage 28 = .ok (.getfield 24, 3) := by decide +kernel
theorem dX9_stage_31 : decode cX9_stage 31 = .ok (.iload_n 1, 1) := by decide +kernel
theorem dX9_stage_32 : decode cX9_stage 32 = .ok (.invokevirtual 152, 3) := by decide +kernel
theorem dX9_stage_35 : decode cX9_stage 35 = .ok (.ireturn, 1) := by decide +kernel
set_option maxRecDepth 20000 in
theorem ggX9_likely_X9_knifeAt : GoodIn wsX9_likely wsX9_knifeAt := goodIn_r _ [8, 9, 10, 11, 12, 7, 13, 92, 93, 94, 95, 96, 97, 98, 99, 100, 101, 102] (by decide +kernel) (by decide +kernel)
set_option maxRecDepth 20000 in
theorem gX9_likely_X9_knifeAt : GoodIn wsX9_likely (wsV RX9 89 RX9 yX9_knifeAt wsX9_knifeAt) := goodIn_app (goodIn_of _ (by decide +kernel)) ggX9_likely_X9_knifeAt
set_option maxRecDepth 20000 in
theorem ggX9_likely_X9_isThrow : GoodIn wsX9_likely wsX9_isThrow := goodIn_r _ [16, 11, 12, 7, 13] (by decide +kernel) (by decide +kernel)
set_option maxRecDepth 20000 in
theorem gX9_likely_X9_isThrow : GoodIn wsX9_likely (va_wsS RX9 109 yX9_isThrow wsX9_isThrow) := goodIn_app (goodIn_of _ (by decide +kernel)) ggX9_likely_X9_isThrow
set_option maxRecDepth 20000 in
theorem ggX9_likely_X9_isStage : GoodIn wsX9_likely wsX9_isStage := goodIn_r _ [19, 11, 12, 7, 13] (by decide +kernel) (by decide +kernel)
set_option maxRecDepth 20000 in
theorem gX9_likely_X9_isStage : GoodIn wsX9_likely (va_wsS RX9 141 yX9_isStage wsX9_isStage) := goodIn_app (goodIn_of _ (by decide +kernel)) ggX9_likely_X9_isStage
set_option maxRecDepth 20000 in
theorem ggX9_likely_X9_within : GoodIn wsX9_likely wsX9_within := goodIn_r _ [13] (by decide +kernel) (by decide +kernel)
set_option maxRecDepth 20000 in
theorem gX9_likely_X9_within : GoodIn wsX9_likely (va_wsS RX9 74 yX9_within wsX9_within) := goodIn_app (goodIn_of _ (by decide +kernel)) ggX9_likely_X9_within
set_option maxRecDepth 20000 in
theorem ggX9_likely_X9_stickWeight : GoodIn wsX9_likely wsX9_stickWeight := goodIn_r _ [23, 2, 24, 25, 26, 27, 28, 29, 30, 31, 32, 33, 34, 35, 36, 37, 38, 39, 40, 41, 42, 43, 44, 45, 46, 47, 48, 49, 50, 51, 52, 53, 54, 55, 56, 57, 58, 59, 60, 61, 62, 63, 64, 65, 66, 67, 68, 69, 70, 71, 72, 73, 74, 75, 76, 77, 92, 93, 94, 95, 96, 97, 98, 99, 100, 101, 102, 106, 107, 108, 109, 110, 111, 112, 113, 114, 115, 116, 117, 118, 119, 120, 121, 122, 123, 103, 104, 105] (by decide +kernel) (by decide +kernel)
set_option maxRecDepth 20000 in
theorem gX9_likely_X9_stickWeight : GoodIn wsX9_likely (wsV RX9 156 RX9 yX9_stickWeight wsX9_stickWeight) := goodIn_app (goodIn_of _ (by decide +kernel)) ggX9_likely_X9_stickWeight
set_option maxRecDepth 20000 in
theorem ggX9_likely_X1_sumOf : GoodIn wsX9_likely wsX1_sumOf := goodIn_r _ [81, 82, 69, 70, 71, 72, 73, 74, 75, 76, 77, 103, 104, 105] (by decide +kernel) (by decide +kernel)
set_option maxRecDepth 20000 in
theorem gX9_likely_X1_sumOf : GoodIn wsX9_likely (wsV RX9 160 RX1 yX1_sumOf wsX1_sumOf) := goodIn_app (goodIn_of _ (by decide +kernel)) ggX9_likely_X1_sumOf
set_option maxRecDepth 20000 in
theorem ggX9_likely_X9_share : GoodIn wsX9_likely wsX9_share := goodIn_r _ [85, 1, 86, 87, 76, 88, 89, 90, 7, 91] (by decide +kernel) (by decide +kernel)
set_option maxRecDepth 20000 in
theorem gX9_likely_X9_share : GoodIn wsX9_likely (va_wsS RX9 119 yX9_share wsX9_share) := goodIn_app (goodIn_of _ (by decide +kernel)) ggX9_likely_X9_share
theorem dX9_likely_0 : decode cX9_likely 0 = .ok (.aload_n 0, 1) := by decide +kernel
theorem dX9_likely_1 : decode cX9_likely 1 = .ok (.iload_n 1, 1) := by decide +kernel
theorem dX9_likely_2 : decode cX9_likely 2 = .ok (.invokevirtual 89, 3) := by decide +kernel
theorem dX9_likely_5 : decode cX9_likely 5 = .ok (.astore 6, 2) := by decide +kernel
theorem dX9_likely_7 : decode cX9_likely 7 = .ok (.aload 6, 2) := by decide +kernel
theorem dX9_likely_9 : decode cX9_likely 9 = .ok (.ifnull 19, 3) := by decide +kernel
theorem dX9_likely_12 : decode cX9_likely 12 = .ok (.iload_n 2, 1) := by decide +kernel
theorem dX9_likely_13 : decode cX9_likely 13 = .ok (.iload_n 3, 1) := by decide +kernel
theorem dX9_likely_14 : decode cX9_likely 14 = .ok (.invokestatic 109, 3) := by decide +kernel
theorem dX9_likely_17 : decode cX9_likely 17 = .ok (.ifCond .eq 11, 3) := by decide +kernel
theorem dX9_likely_20 : decode cX9_likely 20 = .ok (.iload 4, 2) := by decide +kernel
theorem dX9_likely_22 : decode cX9_likely 22 = .ok (.invokestatic 141, 3) := by decide +kernel
theorem dX9_likely_25 : decode cX9_likely 25 = .ok (.ifCond .ne 7, 3) := by decide +kernel
theorem dX9_likely_28 : decode cX9_likely 28 = .ok (.ldc2_w 113, 3) := by decide +kernel
theorem dX9_likely_31 : decode cX9_likely 31 = .ok (.lreturn, 1) := by decide +kernel
theorem dX9_likely_32 : decode cX9_likely 32 = .ok (.iload 5, 2) := by decide +kernel
theorem dX9_likely_34 : decode cX9_likely 34 = .ok (.iconst 0, 1) := by decide +kernel
theorem dX9_likely_35 : decode cX9_likely 35 = .ok (.iconst 1, 1) := by decide +kernel
theorem dX9_likely_36 : decode cX9_likely 36 = .ok (.invokestatic 74, 3) := by decide +kernel
theorem dX9_likely_39 : decode cX9_likely 39 = .ok (.ifCond .eq 13, 3) := by decide +kernel
theorem dX9_likely_42 : decode cX9_likely 42 = .ok (.aload_n 0, 1) := by decide +kernel
theorem dX9_likely_43 : decode cX9_likely 43 = .ok (.getfield 24, 3) := by decide +kernel
theorem dX9_likely_46 : decode cX9_likely 46 = .ok (.getfield 145, 3) := by decide +kernel
theorem dX9_likely_49 : decode cX9_likely 49 = .ok (.ifCond .ne 7, 3) := by decide +kernel
theorem dX9_likely_52 : decode cX9_likely 52 = .ok (.ldc2_w 113, 3) := by decide +kernel
theorem dX9_likely_55 : decode cX9_likely 55 = .ok (.lreturn, 1) := by decide +kernel
theorem dX9_likely_56 : decode cX9_likely 56 = .ok (.aload_n 0, 1) := by decide +kernel
theorem dX9_likely_57 : decode cX9_likely 57 = .ok (.aload 6, 2) := by decide +kernel
theorem dX9_likely_59 : decode cX9_likely 59 = .ok (.iload_n 2, 1) := by decide +kernel
theorem dX9_likely_60 : decode cX9_likely 60 = .ok (.iload_n 3, 1) := by decide +kernel
theorem dX9_likely_61 : decode cX9_likely 61 = .ok (.iload 4, 2) := by decide +kernel
theorem dX9_likely_63 : decode cX9_likely 63 = .ok (.invokevirtual 156, 3) := by decide +kernel
theorem dX9_likely_66 : decode cX9_likely 66 = .ok (.i2l, 1) := by decide +kernel
theorem dX9_likely_67 : decode cX9_likely 67 = .ok (.aload_n 0, 1) := by decide +kernel
theorem dX9_likely_68 : decode cX9_likely 68 = .ok (.getfield 24, 3) := by decide +kernel
theorem dX9_likely_71 : decode cX9_likely 71 = .ok (.iconst 0, 1) := by decide +kernel
theorem dX9_likely_72 : decode cX9_likely 72 = .ok (.iload 4, 2) := by decide +kernel
theorem dX9_likely_74 : decode cX9_likely 74 = .ok (.invokevirtual 160, 3) := by decide +kernel
theorem dX9_likely_77 : decode cX9_likely 77 = .ok (.i2l, 1) := by decide +kernel
theorem dX9_likely_78 : decode cX9_likely 78 = .ok (.iload 5, 2) := by decide +kernel
theorem dX9_likely_80 : decode cX9_likely 80 = .ok (.invokestatic 119, 3) := by decide +kernel
theorem dX9_likely_83 : decode cX9_likely 83 = .ok (.lreturn, 1) := by decide +kernel
set_option maxRecDepth 20000 in
theorem ggX9_best_X9_knifeAt : GoodIn wsX9_best wsX9_knifeAt := goodIn_r _ [7, 8, 9, 10, 11, 6, 12, 74, 75, 76, 77, 78, 79, 80, 81, 82, 83, 84] (by decide +kernel) (by decide +kernel)
set_option maxRecDepth 20000 in
theorem gX9_best_X9_knifeAt : GoodIn wsX9_best (wsV RX9 89 RX9 yX9_knifeAt wsX9_knifeAt) := goodIn_app (goodIn_of _ (by decide +kernel)) ggX9_best_X9_knifeAt
set_option maxRecDepth 20000 in
theorem ggX9_best_X9_isStage : GoodIn wsX9_best wsX9_isStage := goodIn_r _ [15, 10, 11, 6, 12] (by decide +kernel) (by decide +kernel)
set_option maxRecDepth 20000 in
theorem gX9_best_X9_isStage : GoodIn wsX9_best (va_wsS RX9 141 yX9_isStage wsX9_isStage) := goodIn_app (goodIn_of _ (by decide +kernel)) ggX9_best_X9_isStage
set_option maxRecDepth 20000 in
theorem ggX9_best_X9_within : GoodIn wsX9_best wsX9_within := goodIn_r _ [12] (by decide +kernel) (by decide +kernel)
set_option maxRecDepth 20000 in
theorem gX9_best_X9_within : GoodIn wsX9_best (va_wsS RX9 74 yX9_within wsX9_within) := goodIn_app (goodIn_of _ (by decide +kernel)) ggX9_best_X9_within
set_option maxRecDepth 20000 in
theorem ggX9_best_X9_stickWeight : GoodIn wsX9_best wsX9_stickWeight := goodIn_r _ [19, 1, 20, 21, 22, 23, 24, 25, 26, 27, 28, 29, 30, 31, 32, 33, 34, 35, 36, 37, 38, 39, 40, 41, 42, 43, 44, 45, 46, 47, 48, 49, 50, 51, 52, 53, 54, 55, 56, 57, 58, 59, 60, 61, 62, 63, 64, 65, 66, 67, 68, 69, 70, 71, 72, 73, 74, 75, 76, 77, 78, 79, 80, 81, 82, 83, 84, 88, 89, 90, 91, 92, 93, 94, 95, 96, 97, 98, 99, 100, 101, 102, 103, 104, 105, 85, 86, 87] (by decide +kernel) (by decide +kernel)
set_option maxRecDepth 20000 in
theorem gX9_best_X9_stickWeight : GoodIn wsX9_best (wsV RX9 156 RX9 yX9_stickWeight wsX9_stickWeight) := goodIn_app (goodIn_of _ (by decide +kernel)) ggX9_best_X9_stickWeight
theorem dX9_best_0 : decode cX9_best 0 = .ok (.aload_n 0, 1) := by decide +kernel
theorem dX9_best_1 : decode cX9_best 1 = .ok (.iload_n 1, 1) := by decide +kernel
theorem dX9_best_2 : decode cX9_best 2 = .ok (.invokevirtual 89, 3) := by decide +kernel
theorem dX9_best_5 : decode cX9_best 5 = .ok (.astore 4, 2) := by decide +kernel
theorem dX9_best_7 : decode cX9_best 7 = .ok (.aload 4, 2) := by decide +kernel
theorem dX9_best_9 : decode cX9_best 9 = .ok (.ifnonnull 5, 3) := by decide +kernel
theorem dX9_best_12 : decode cX9_best 12 = .ok (.iconst (-1), 1) := by decide +kernel
theorem dX9_best_13 : decode cX9_best 13 = .ok (.ireturn, 1) := by decide +kernel
theorem dX9_best_14 : decode cX9_best 14 = .ok (.iload_n 2, 1) := by decide +kernel
theorem dX9_best_15 : decode cX9_best 15 = .ok (.invokestatic 141, 3) := by decide +kernel
theorem dX9_best_18 : decode cX9_best 18 = .ok (.ifCond .eq 12, 3) := by decide +kernel
theorem dX9_best_21 : decode cX9_best 21 = .ok (.iload_n 3, 1) := by decide +kernel
theorem dX9_best_22 : decode cX9_best 22 = .ok (.iconst 0, 1) := by decide +kernel
theorem dX9_best_23 : decode cX9_best 23 = .ok (.iconst 1, 1) := by decide +kernel
theorem dX9_best_24 : decode cX9_best 24 = .ok (.invokestatic 74, 3) := by decide +kernel
theorem dX9_best_27 : decode cX9_best 27 = .ok (.ifCond .ne 6, 3) := by decide +kernel
theorem dX9_best_30 : decode cX9_best 30 = .ok (.bipush (-2), 2) := by decide +kernel
theorem dX9_best_32 : decode cX9_best 32 = .ok (.ireturn, 1) := by decide +kernel
theorem dX9_best_33 : decode cX9_best 33 = .ok (.aload_n 0, 1) := by decide +kernel
theorem dX9_best_34 : decode cX9_best 34 = .ok (.getfield 24, 3) := by decide +kernel
theorem dX9_best_37 : decode cX9_best 37 = .ok (.getfield 145, 3) := by decide +kernel
theorem dX9_best_40 : decode cX9_best 40 = .ok (.ifCond .ne 6, 3) := by decide +kernel
theorem dX9_best_43 : decode cX9_best 43 = .ok (.bipush (-3), 2) := by decide +kernel
theorem dX9_best_45 : decode cX9_best 45 = .ok (.ireturn, 1) := by decide +kernel
theorem dX9_best_46 : decode cX9_best 46 = .ok (.iconst (-1), 1) := by decide +kernel
theorem dX9_best_47 : decode cX9_best 47 = .ok (.istore 5, 2) := by decide +kernel
theorem dX9_best_49 : decode cX9_best 49 = .ok (.iconst 0, 1) := by decide +kernel
theorem dX9_best_50 : decode cX9_best 50 = .ok (.istore 6, 2) := by decide +kernel
theorem dX9_best_52 : decode cX9_best 52 = .ok (.iconst 0, 1) := by decide +kernel
theorem dX9_best_53 : decode cX9_best 53 = .ok (.istore 7, 2) := by decide +kernel
theorem dX9_best_55 : decode cX9_best 55 = .ok (.iconst 1, 1) := by decide +kernel
theorem dX9_best_56 : decode cX9_best 56 = .ok (.istore 8, 2) := by decide +kernel
theorem dX9_best_58 : decode cX9_best 58 = .ok (.iload 8, 2) := by decide +kernel
theorem dX9_best_60 : decode cX9_best 60 = .ok (.bipush 40, 2) := by decide +kernel
theorem dX9_best_62 : decode cX9_best 62 = .ok (.if_icmp .gt 57, 3) := by decide +kernel
theorem dX9_best_65 : decode cX9_best 65 = .ok (.iconst 0, 1) := by decide +kernel
theorem dX9_best_66 : decode cX9_best 66 = .ok (.istore 9, 2) := by decide +kernel
theorem dX9_best_68 : decode cX9_best 68 = .ok (.iload 9, 2) := by decide +kernel
theorem dX9_best_70 : decode cX9_best 70 = .ok (.bipush 23, 2) := by decide +kernel
theorem dX9_best_72 : decode cX9_best 72 = .ok (.if_icmp .gt 41, 3) := by decide +kernel
theorem dX9_best_75 : decode cX9_best 75 = .ok (.aload_n 0, 1) := by decide +kernel
theorem dX9_best_76 : decode cX9_best 76 = .ok (.aload 4, 2) := by decide +kernel
theorem dX9_best_78 : decode cX9_best 78 = .ok (.iload 9, 2) := by decide +kernel
theorem dX9_best_80 : decode cX9_best 80 = .ok (.iload 8, 2) := by decide +kernel
theorem dX9_best_82 : decode cX9_best 82 = .ok (.iload_n 2, 1) := by decide +kernel
theorem dX9_best_83 : decode cX9_best 83 = .ok (.invokevirtual 156, 3) := by decide +kernel
theorem dX9_best_86 : decode cX9_best 86 = .ok (.istore 10, 2) := by decide +kernel
theorem dX9_best_88 : decode cX9_best 88 = .ok (.iload 10, 2) := by decide +kernel
theorem dX9_best_90 : decode cX9_best 90 = .ok (.iload 5, 2) := by decide +kernel
theorem dX9_best_92 : decode cX9_best 92 = .ok (.if_icmp .le 15, 3) := by decide +kernel
theorem dX9_best_95 : decode cX9_best 95 = .ok (.iload 10, 2) := by decide +kernel
theorem dX9_best_97 : decode cX9_best 97 = .ok (.istore 5, 2) := by decide +kernel
theorem dX9_best_99 : decode cX9_best 99 = .ok (.iload 8, 2) := by decide +kernel
theorem dX9_best_101 : decode cX9_best 101 = .ok (.istore 6, 2) := by decide +kernel
theorem dX9_best_103 : decode cX9_best 103 = .ok (.iload 9, 2) := by decide +kernel
theorem dX9_best_105 : decode cX9_best 105 = .ok (.istore 7, 2) := by decide +kernel
theorem dX9_best_107 : decode cX9_best 107 = .ok (.iinc 9 1, 3) := by decide +kernel
theorem dX9_best_110 : decode cX9_best 110 = .ok (.goto (-42), 3) := by decide +kernel
theorem dX9_best_113 : decode cX9_best 113 = .ok (.iinc 8 1, 3) := by decide +kernel
theorem dX9_best_116 : decode cX9_best 116 = .ok (.goto (-58), 3) := by decide +kernel
theorem dX9_best_119 : decode cX9_best 119 = .ok (.iload_n 3, 1) := by decide +kernel
theorem dX9_best_120 : decode cX9_best 120 = .ok (.ifCond .ne 8, 3) := by decide +kernel
theorem dX9_best_123 : decode cX9_best 123 = .ok (.iload 6, 2) := by decide +kernel
theorem dX9_best_125 : decode cX9_best 125 = .ok (.goto 5, 3) := by decide +kernel
theorem dX9_best_128 : decode cX9_best 128 = .ok (.iload 7, 2) := by decide +kernel
theorem dX9_best_130 : decode cX9_best 130 = .ok (.ireturn, 1) := by decide +kernel
set_option maxRecDepth 20000 in
theorem ggX9_board_X9_takeText : GoodIn wsX9_board wsX9_takeText := goodIn_r _ [7, 8, 9, 10, 6, 11, 12, 13, 14, 15, 16, 17, 18, 19, 20, 21, 22, 23, 1, 24, 25, 26, 27, 28, 29, 30, 31, 32, 33, 34, 35, 36, 37, 38, 39, 40, 41, 42, 43, 65, 66, 67, 68, 69, 70, 71, 72, 73, 74, 75, 76, 77, 78, 79] (by decide +kernel) (by decide +kernel)
set_option maxRecDepth 20000 in
theorem gX9_board_X9_takeText : GoodIn wsX9_board (wsV RX9 129 RX9 yX9_takeText wsX9_takeText) := goodIn_app (goodIn_of _ (by decide +kernel)) ggX9_board_X9_takeText
set_option maxRecDepth 20000 in
theorem ggX9_board_X0_firstFault : GoodIn wsX9_board wsX0_firstFault := goodIn_r _ [47, 48, 49, 46, 50, 16, 6, 17, 51, 52, 53] (by decide +kernel) (by decide +kernel)
set_option maxRecDepth 20000 in
theorem gX9_board_X0_firstFault : GoodIn wsX9_board (va_wsS RX9 164 yX0_firstFault wsX0_firstFault) := goodIn_app (goodIn_of _ (by decide +kernel)) ggX9_board_X0_firstFault
set_option maxRecDepth 20000 in
theorem ggX9_board_X0_read : GoodIn wsX9_board wsX0_read := goodIn_r _ [57, 58, 59, 60, 51, 52, 46, 53, 80, 81, 82] (by decide +kernel) (by decide +kernel)
set_option maxRecDepth 20000 in
theorem gX9_board_X0_read : GoodIn wsX9_board (wsV RX9 165 RX0 yX0_read wsX0_read) := goodIn_app (goodIn_of _ (by decide +kernel)) ggX9_board_X0_read
set_option maxRecDepth 20000 in
theorem ggX9_board_X0_count : GoodIn wsX9_board wsX0_count := goodIn_r _ [64, 58, 59, 80, 81, 82] (by decide +kernel) (by decide +kernel)
set_option maxRecDepth 20000 in
theorem gX9_board_X0_count : GoodIn wsX9_board (wsV RX9 166 RX0 yX0_count wsX0_count) := goodIn_app (goodIn_of _ (by decide +kernel)) ggX9_board_X0_count
theorem dX9_board_0 : decode cX9_board 0 = .ok (.aload_n 0, 1) := by decide +kernel
theorem dX9_board_1 : decode cX9_board 1 = .ok (.iload_n 1, 1) := by decide +kernel
theorem dX9_board_2 : decode cX9_board 2 = .ok (.iload_n 2, 1) := by decide +kernel
theorem dX9_board_3 : decode cX9_board 3 = .ok (.iload_n 3, 1) := by decide +kernel
theorem dX9_board_4 : decode cX9_board 4 = .ok (.iload 4, 2) := by decide +kernel
theorem dX9_board_6 : decode cX9_board 6 = .ok (.invokevirtual 129, 3) := by decide +kernel
theorem dX9_board_9 : decode cX9_board 9 = .ok (.istore 5, 2) := by decide +kernel
theorem dX9_board_11 : decode cX9_board 11 = .ok (.iload 5, 2) := by decide +kernel
theorem dX9_board_13 : decode cX9_board 13 = .ok (.ifCond .eq 6, 3) := by decide +kernel
theorem dX9_board_16 : decode cX9_board 16 = .ok (.iload 5, 2) := by decide +kernel
theorem dX9_board_18 : decode cX9_board 18 = .ok (.ireturn, 1) := by decide +kernel
theorem dX9_board_19 : decode cX9_board 19 = .ok (.aload_n 0, 1) := by decide +kernel
theorem dX9_board_20 : decode cX9_board 20 = .ok (.getfield 56, 3) := by decide +kernel
theorem dX9_board_23 : decode cX9_board 23 = .ok (.iload 4, 2) := by decide +kernel
theorem dX9_board_25 : decode cX9_board 25 = .ok (.invokestatic 164, 3) := by decide +kernel
theorem dX9_board_28 : decode cX9_board 28 = .ok (.istore 6, 2) := by decide +kernel
theorem dX9_board_30 : decode cX9_board 30 = .ok (.iload 6, 2) := by decide +kernel
theorem dX9_board_32 : decode cX9_board 32 = .ok (.bipush (-9), 2) := by decide +kernel
theorem dX9_board_34 : decode cX9_board 34 = .ok (.if_icmp .eq 9, 3) := by decide +kernel
theorem dX9_board_37 : decode cX9_board 37 = .ok (.bipush (-100), 2) := by decide +kernel
theorem dX9_board_39 : decode cX9_board 39 = .ok (.iload 6, 2) := by decide +kernel
theorem dX9_board_41 : decode cX9_board 41 = .ok (.isub, 1) := by decide +kernel
theorem dX9_board_42 : decode cX9_board 42 = .ok (.ireturn, 1) := by decide +kernel
theorem dX9_board_43 : decode cX9_board 43 = .ok (.aload_n 0, 1) := by decide +kernel
theorem dX9_board_44 : decode cX9_board 44 = .ok (.getfield 31, 3) := by decide +kernel
theorem dX9_board_47 : decode cX9_board 47 = .ok (.aload_n 0, 1) := by decide +kernel
theorem dX9_board_48 : decode cX9_board 48 = .ok (.getfield 56, 3) := by decide +kernel
theorem dX9_board_51 : decode cX9_board 51 = .ok (.iload 4, 2) := by decide +kernel
theorem dX9_board_53 : decode cX9_board 53 = .ok (.invokevirtual 165, 3) := by decide +kernel
theorem dX9_board_56 : decode cX9_board 56 = .ok (.aload_n 0, 1) := by decide +kernel
theorem dX9_board_57 : decode cX9_board 57 = .ok (.getfield 31, 3) := by decide +kernel
theorem dX9_board_60 : decode cX9_board 60 = .ok (.invokevirtual 166, 3) := by decide +kernel
theorem dX9_board_63 : decode cX9_board 63 = .ok (.ireturn, 1) := by decide +kernel
set_option maxRecDepth 20000 in
theorem ggX9_ofCell_X0_knows : GoodIn wsX9_ofCell wsX0_knows := goodIn_r _ [6, 7, 8, 9, 5, 10, 11, 12, 13, 14, 15, 41, 42, 43] (by decide +kernel) (by decide +kernel)
set_option maxRecDepth 20000 in
theorem gX9_ofCell_X0_knows : GoodIn wsX9_ofCell (wsV RX9 169 RX0 yX0_knows wsX0_knows) := goodIn_app (goodIn_of _ (by decide +kernel)) ggX9_ofCell_X0_knows
set_option maxRecDepth 20000 in
theorem ggX9_ofCell_X0_rowOf : GoodIn wsX9_ofCell wsX0_rowOf := goodIn_r _ [19, 12, 41, 42, 43] (by decide +kernel) (by decide +kernel)
set_option maxRecDepth 20000 in
theorem gX9_ofCell_X0_rowOf : GoodIn wsX9_ofCell (wsV RX9 172 RX0 yX0_rowOf wsX0_rowOf) := goodIn_app (goodIn_of _ (by decide +kernel)) ggX9_ofCell_X0_rowOf
set_option maxRecDepth 20000 in
theorem ggX9_ofCell_X0_columnOf : GoodIn wsX9_ofCell wsX0_columnOf := goodIn_r _ [23, 12, 41, 42, 43] (by decide +kernel) (by decide +kernel)
set_option maxRecDepth 20000 in
theorem gX9_ofCell_X0_columnOf : GoodIn wsX9_ofCell (wsV RX9 175 RX0 yX0_columnOf wsX0_columnOf) := goodIn_app (goodIn_of _ (by decide +kernel)) ggX9_ofCell_X0_columnOf
set_option maxRecDepth 20000 in
theorem ggX9_ofCell_X0_letterAt : GoodIn wsX9_ofCell wsX0_letterAt := goodIn_r _ [27, 11, 12, 28, 13, 14, 15, 29, 3, 4, 5, 6, 7, 8, 9, 10, 41, 42, 43] (by decide +kernel) (by decide +kernel)
set_option maxRecDepth 20000 in
theorem gX9_ofCell_X0_letterAt : GoodIn wsX9_ofCell (wsV RX9 178 RX0 yX0_letterAt wsX0_letterAt) := goodIn_app (goodIn_of _ (by decide +kernel)) ggX9_ofCell_X0_letterAt
theorem dX9_ofCell_0 : decode cX9_ofCell 0 = .ok (.aload_n 0, 1) := by decide +kernel
theorem dX9_ofCell_1 : decode cX9_ofCell 1 = .ok (.getfield 31, 3) := by decide +kernel
theorem dX9_ofCell_4 : decode cX9_ofCell 4 = .ok (.iload_n 1, 1) := by decide +kernel
theorem dX9_ofCell_5 : decode cX9_ofCell 5 = .ok (.invokevirtual 169, 3) := by decide +kernel
theorem dX9_ofCell_8 : decode cX9_ofCell 8 = .ok (.ifCond .ne 5, 3) := by decide +kernel
theorem dX9_ofCell_11 : decode cX9_ofCell 11 = .ok (.iconst (-1), 1) := by decide +kernel
theorem dX9_ofCell_12 : decode cX9_ofCell 12 = .ok (.ireturn, 1) := by decide +kernel
theorem dX9_ofCell_13 : decode cX9_ofCell 13 = .ok (.aload_n 0, 1) := by decide +kernel
theorem dX9_ofCell_14 : decode cX9_ofCell 14 = .ok (.getfield 31, 3) := by decide +kernel
theorem dX9_ofCell_17 : decode cX9_ofCell 17 = .ok (.aload_n 0, 1) := by decide +kernel
theorem dX9_ofCell_18 : decode cX9_ofCell 18 = .ok (.getfield 31, 3) := by decide +kernel
theorem dX9_ofCell_21 : decode cX9_ofCell 21 = .ok (.iload_n 1, 1) := by decide +kernel
theorem dX9_ofCell_22 : decode cX9_ofCell 22 = .ok (.invokevirtual 172, 3) := by decide +kernel
theorem dX9_ofCell_25 : decode cX9_ofCell 25 = .ok (.aload_n 0, 1) := by decide +kernel
theorem dX9_ofCell_26 : decode cX9_ofCell 26 = .ok (.getfield 31, 3) := by decide +kernel
theorem dX9_ofCell_29 : decode cX9_ofCell 29 = .ok (.iload_n 1, 1) := by decide +kernel
theorem dX9_ofCell_30 : decode cX9_ofCell 30 = .ok (.invokevirtual 175, 3) := by decide +kernel
theorem dX9_ofCell_33 : decode cX9_ofCell 33 = .ok (.iconst 0, 1) := by decide +kernel
theorem dX9_ofCell_34 : decode cX9_ofCell 34 = .ok (.invokevirtual 178, 3) := by decide +kernel
theorem dX9_ofCell_37 : decode cX9_ofCell 37 = .ok (.ireturn, 1) := by decide +kernel
set_option maxRecDepth 20000 in
theorem ggX9_hurts_X0_knows : GoodIn wsX9_hurts wsX0_knows := goodIn_r _ [9, 10, 11, 12, 8, 13, 14, 15, 16, 17, 18, 87, 88, 89] (by decide +kernel) (by decide +kernel)
set_option maxRecDepth 20000 in
theorem gX9_hurts_X0_knows : GoodIn wsX9_hurts (wsV RX9 169 RX0 yX0_knows wsX0_knows) := goodIn_app (goodIn_of _ (by decide +kernel)) ggX9_hurts_X0_knows
set_option maxRecDepth 20000 in
theorem ggX9_hurts_X9_isStage : GoodIn wsX9_hurts wsX9_isStage := goodIn_r _ [21, 22, 16, 17, 18] (by decide +kernel) (by decide +kernel)
set_option maxRecDepth 20000 in
theorem gX9_hurts_X9_isStage : GoodIn wsX9_hurts (va_wsS RX9 141 yX9_isStage wsX9_isStage) := goodIn_app (goodIn_of _ (by decide +kernel)) ggX9_hurts_X9_isStage
set_option maxRecDepth 20000 in
theorem ggX9_hurts_X9_within : GoodIn wsX9_hurts wsX9_within := goodIn_r _ [18] (by decide +kernel) (by decide +kernel)
set_option maxRecDepth 20000 in
theorem gX9_hurts_X9_within : GoodIn wsX9_hurts (va_wsS RX9 74 yX9_within wsX9_within) := goodIn_app (goodIn_of _ (by decide +kernel)) ggX9_hurts_X9_within
set_option maxRecDepth 20000 in
theorem ggX9_hurts_X9_weightTo : GoodIn wsX9_hurts wsX9_weightTo := goodIn_r _ [26, 1, 2, 27, 28, 29, 8, 30, 15, 31, 32, 33, 34, 35, 36, 37, 38, 39, 40, 41, 42, 14, 43, 16, 17, 18, 44, 6, 7, 9, 10, 11, 12, 13, 45, 46, 47, 48, 49, 50, 51, 52, 53, 54, 73, 74, 75, 76, 77, 78, 79, 80, 81, 82, 83, 87, 88, 89, 84, 85, 86] (by decide +kernel) (by decide +kernel)
set_option maxRecDepth 20000 in
theorem gX9_hurts_X9_weightTo : GoodIn wsX9_hurts (wsV RX9 181 RX9 yX9_weightTo wsX9_weightTo) := goodIn_app (goodIn_of _ (by decide +kernel)) ggX9_hurts_X9_weightTo
set_option maxRecDepth 20000 in
theorem ggX9_hurts_X9_weightOfAll : GoodIn wsX9_hurts wsX9_weightOfAll := goodIn_r _ [58, 2, 59, 60, 61, 48, 62, 63, 46, 47, 49, 50, 51, 52, 53, 54, 73, 74, 75, 76, 77, 78, 79, 80, 81, 82, 83, 84, 85, 86] (by decide +kernel) (by decide +kernel)
set_option maxRecDepth 20000 in
theorem gX9_hurts_X9_weightOfAll : GoodIn wsX9_hurts (wsV RX9 184 RX9 yX9_weightOfAll wsX9_weightOfAll) := goodIn_app (goodIn_of _ (by decide +kernel)) ggX9_hurts_X9_weightOfAll
set_option maxRecDepth 20000 in
theorem ggX9_hurts_X9_share : GoodIn wsX9_hurts wsX9_share := goodIn_r _ [66, 4, 67, 68, 53, 69, 70, 71, 17, 72] (by decide +kernel) (by decide +kernel)
set_option maxRecDepth 20000 in
theorem gX9_hurts_X9_share : GoodIn wsX9_hurts (va_wsS RX9 119 yX9_share wsX9_share) := goodIn_app (goodIn_of _ (by decide +kernel)) ggX9_hurts_X9_share
theorem dX9_hurts_0 : decode cX9_hurts 0 = .ok (.aload_n 0, 1) := by decide +kernel
theorem dX9_hurts_1 : decode cX9_hurts 1 = .ok (.getfield 31, 3) := by decide +kernel
theorem dX9_hurts_4 : decode cX9_hurts 4 = .ok (.iload_n 1, 1) := by decide +kernel
theorem dX9_hurts_5 : decode cX9_hurts 5 = .ok (.invokevirtual 169, 3) := by decide +kernel
theorem dX9_hurts_8 : decode cX9_hurts 8 = .ok (.ifCond .eq 30, 3) := by decide +kernel
theorem dX9_hurts_11 : decode cX9_hurts 11 = .ok (.iload_n 2, 1) := by decide +kernel
theorem dX9_hurts_12 : decode cX9_hurts 12 = .ok (.invokestatic 141, 3) := by decide +kernel
theorem dX9_hurts_15 : decode cX9_hurts 15 = .ok (.ifCond .eq 23, 3) := by decide +kernel
theorem dX9_hurts_18 : decode cX9_hurts 18 = .ok (.iload 4, 2) := by decide +kernel
theorem dX9_hurts_20 : decode cX9_hurts 20 = .ok (.iconst 0, 1) := by decide +kernel
theorem dX9_hurts_21 : decode cX9_hurts 21 = .ok (.iconst 1, 1) := by decide +kernel
theorem dX9_hurts_22 : decode cX9_hurts 22 = .ok (.invokestatic 74, 3) := by decide +kernel
theorem dX9_hurts_25 : decode cX9_hurts 25 = .ok (.ifCond .eq 13, 3) := by decide +kernel
theorem dX9_hurts_28 : decode cX9_hurts 28 = .ok (.aload_n 0, 1) := by decide +kernel
theorem dX9_hurts_29 : decode cX9_hurts 29 = .ok (.getfield 24, 3) := by decide +kernel
theorem dX9_hurts_32 : decode cX9_hurts 32 = .ok (.getfield 145, 3) := by decide +kernel
theorem dX9_hurts_35 : decode cX9_hurts 35 = .ok (.ifCond .ne 7, 3) := by decide +kernel
theorem dX9_hurts_38 : decode cX9_hurts 38 = .ok (.ldc2_w 113, 3) := by decide +kernel
theorem dX9_hurts_41 : decode cX9_hurts 41 = .ok (.lreturn, 1) := by decide +kernel
theorem dX9_hurts_42 : decode cX9_hurts 42 = .ok (.aload_n 0, 1) := by decide +kernel
theorem dX9_hurts_43 : decode cX9_hurts 43 = .ok (.iload_n 3, 1) := by decide +kernel
theorem dX9_hurts_44 : decode cX9_hurts 44 = .ok (.ifCond .eq 8, 3) := by decide +kernel
theorem dX9_hurts_47 : decode cX9_hurts 47 = .ok (.bipush 12, 2) := by decide +kernel
theorem dX9_hurts_49 : decode cX9_hurts 49 = .ok (.goto 4, 3) := by decide +kernel
theorem dX9_hurts_52 : decode cX9_hurts 52 = .ok (.iconst 4, 1) := by decide +kernel
theorem dX9_hurts_53 : decode cX9_hurts 53 = .ok (.iload_n 1, 1) := by decide +kernel
theorem dX9_hurts_54 : decode cX9_hurts 54 = .ok (.iload_n 2, 1) := by decide +kernel
theorem dX9_hurts_55 : decode cX9_hurts 55 = .ok (.iconst 0, 1) := by decide +kernel
theorem dX9_hurts_56 : decode cX9_hurts 56 = .ok (.invokevirtual 181, 3) := by decide +kernel
theorem dX9_hurts_59 : decode cX9_hurts 59 = .ok (.i2l, 1) := by decide +kernel
theorem dX9_hurts_60 : decode cX9_hurts 60 = .ok (.aload_n 0, 1) := by decide +kernel
theorem dX9_hurts_61 : decode cX9_hurts 61 = .ok (.iload_n 2, 1) := by decide +kernel
theorem dX9_hurts_62 : decode cX9_hurts 62 = .ok (.invokevirtual 184, 3) := by decide +kernel
theorem dX9_hurts_65 : decode cX9_hurts 65 = .ok (.i2l, 1) := by decide +kernel
theorem dX9_hurts_66 : decode cX9_hurts 66 = .ok (.iload 4, 2) := by decide +kernel
theorem dX9_hurts_68 : decode cX9_hurts 68 = .ok (.invokestatic 119, 3) := by decide +kernel
theorem dX9_hurts_71 : decode cX9_hurts 71 = .ok (.lreturn, 1) := by decide +kernel
set_option maxRecDepth 20000 in
theorem ggX9_holds_X9_knifeAt : GoodIn wsX9_holds wsX9_knifeAt := goodIn_r _ [9, 10, 11, 12, 13, 8, 14, 130, 131, 132, 133, 134, 135, 136, 137, 138, 139, 140] (by decide +kernel) (by decide +kernel)
set_option maxRecDepth 20000 in
theorem gX9_holds_X9_knifeAt : GoodIn wsX9_holds (wsV RX9 89 RX9 yX9_knifeAt wsX9_knifeAt) := goodIn_app (goodIn_of _ (by decide +kernel)) ggX9_holds_X9_knifeAt
set_option maxRecDepth 20000 in
theorem ggX9_holds_X0_knows : GoodIn wsX9_holds wsX0_knows := goodIn_r _ [19, 20, 21, 22, 18, 23, 24, 25, 13, 8, 14, 144, 145, 146] (by decide +kernel) (by decide +kernel)
set_option maxRecDepth 20000 in
theorem gX9_holds_X0_knows : GoodIn wsX9_holds (wsV RX9 169 RX0 yX0_knows wsX0_knows) := goodIn_app (goodIn_of _ (by decide +kernel)) ggX9_holds_X0_knows
set_option maxRecDepth 20000 in
theorem ggX9_holds_X9_isThrow : GoodIn wsX9_holds wsX9_isThrow := goodIn_r _ [28, 12, 13, 8, 14] (by decide +kernel) (by decide +kernel)
set_option maxRecDepth 20000 in
theorem gX9_holds_X9_isThrow : GoodIn wsX9_holds (va_wsS RX9 109 yX9_isThrow wsX9_isThrow) := goodIn_app (goodIn_of _ (by decide +kernel)) ggX9_holds_X9_isThrow
set_option maxRecDepth 20000 in
theorem ggX9_holds_X9_isStage : GoodIn wsX9_holds wsX9_isStage := goodIn_r _ [31, 12, 13, 8, 14] (by decide +kernel) (by decide +kernel)
set_option maxRecDepth 20000 in
theorem gX9_holds_X9_isStage : GoodIn wsX9_holds (va_wsS RX9 141 yX9_isStage wsX9_isStage) := goodIn_app (goodIn_of _ (by decide +kernel)) ggX9_holds_X9_isStage
set_option maxRecDepth 20000 in
theorem ggX9_holds_X9_within : GoodIn wsX9_holds wsX9_within := goodIn_r _ [14] (by decide +kernel) (by decide +kernel)
set_option maxRecDepth 20000 in
theorem gX9_holds_X9_within : GoodIn wsX9_holds (va_wsS RX9 74 yX9_within wsX9_within) := goodIn_app (goodIn_of _ (by decide +kernel)) ggX9_holds_X9_within
set_option maxRecDepth 20000 in
theorem ggX9_holds_X9_stickWeight : GoodIn wsX9_holds wsX9_stickWeight := goodIn_r _ [35, 3, 36, 37, 38, 39, 40, 41, 42, 43, 44, 45, 46, 47, 48, 49, 50, 51, 52, 53, 54, 55, 56, 57, 58, 59, 60, 61, 62, 63, 64, 65, 66, 67, 68, 69, 70, 71, 72, 73, 74, 75, 76, 77, 78, 79, 80, 81, 82, 83, 84, 85, 86, 87, 88, 89, 130, 131, 132, 133, 134, 135, 136, 137, 138, 139, 140, 147, 148, 149, 150, 151, 152, 153, 154, 155, 156, 157, 158, 159, 160, 161, 162, 163, 164, 141, 142, 143] (by decide +kernel) (by decide +kernel)
set_option maxRecDepth 20000 in
theorem gX9_holds_X9_stickWeight : GoodIn wsX9_holds (wsV RX9 156 RX9 yX9_stickWeight wsX9_stickWeight) := goodIn_app (goodIn_of _ (by decide +kernel)) ggX9_holds_X9_stickWeight
set_option maxRecDepth 20000 in
theorem ggX9_holds_X9_weightTo : GoodIn wsX9_holds wsX9_weightTo := goodIn_r _ [93, 1, 3, 94, 95, 96, 18, 97, 25, 98, 99, 100, 101, 102, 103, 104, 105, 106, 107, 108, 109, 24, 110, 13, 8, 14, 111, 16, 17, 19, 20, 21, 22, 23, 80, 81, 82, 83, 84, 85, 86, 87, 88, 89, 130, 131, 132, 133, 134, 135, 136, 137, 138, 139, 140, 144, 145, 146, 141, 142, 143] (by decide +kernel) (by decide +kernel)
set_option maxRecDepth 20000 in
theorem gX9_holds_X9_weightTo : GoodIn wsX9_holds (wsV RX9 181 RX9 yX9_weightTo wsX9_weightTo) := goodIn_app (goodIn_of _ (by decide +kernel)) ggX9_holds_X9_weightTo
set_option maxRecDepth 20000 in
theorem ggX9_holds_X1_sumOf : GoodIn wsX9_holds wsX1_sumOf := goodIn_r _ [115, 116, 81, 82, 83, 84, 85, 86, 87, 88, 89, 141, 142, 143] (by decide +kernel) (by decide +kernel)
set_option maxRecDepth 20000 in
theorem gX9_holds_X1_sumOf : GoodIn wsX9_holds (wsV RX9 160 RX1 yX1_sumOf wsX1_sumOf) := goodIn_app (goodIn_of _ (by decide +kernel)) ggX9_holds_X1_sumOf
set_option maxRecDepth 20000 in
theorem ggX9_holds_X9_weightOfAll : GoodIn wsX9_holds wsX9_weightOfAll := goodIn_r _ [120, 3, 112, 113, 114, 83, 115, 116, 81, 82, 84, 85, 86, 87, 88, 89, 130, 131, 132, 133, 134, 135, 136, 137, 138, 139, 140, 141, 142, 143] (by decide +kernel) (by decide +kernel)
set_option maxRecDepth 20000 in
theorem gX9_holds_X9_weightOfAll : GoodIn wsX9_holds (wsV RX9 184 RX9 yX9_weightOfAll wsX9_weightOfAll) := goodIn_app (goodIn_of _ (by decide +kernel)) ggX9_holds_X9_weightOfAll
set_option maxRecDepth 20000 in
theorem ggX9_holds_X9_share : GoodIn wsX9_holds wsX9_share := goodIn_r _ [123, 2, 124, 125, 88, 126, 127, 128, 8, 129] (by decide +kernel) (by decide +kernel)
set_option maxRecDepth 20000 in
theorem gX9_holds_X9_share : GoodIn wsX9_holds (va_wsS RX9 119 yX9_share wsX9_share) := goodIn_app (goodIn_of _ (by decide +kernel)) ggX9_holds_X9_share
theorem dX9_holds_0 : decode cX9_holds 0 = .ok (.aload_n 0, 1) := by decide +kernel
theorem dX9_holds_1 : decode cX9_holds 1 = .ok (.iload_n 1, 1) := by decide +kernel
theorem dX9_holds_2 : decode cX9_holds 2 = .ok (.invokevirtual 89, 3) := by decide +kernel
theorem dX9_holds_5 : decode cX9_holds 5 = .ok (.astore 7, 2) := by decide +kernel
theorem dX9_holds_7 : decode cX9_holds 7 = .ok (.aload 7, 2) := by decide +kernel
theorem dX9_holds_9 : decode cX9_holds 9 = .ok (.ifnull 15, 3) := by decide +kernel
theorem dX9_holds_12 : decode cX9_holds 12 = .ok (.aload_n 0, 1) := by decide +kernel
theorem dX9_holds_13 : decode cX9_holds 13 = .ok (.getfield 31, 3) := by decide +kernel
theorem dX9_holds_16 : decode cX9_holds 16 = .ok (.iload 4, 2) := by decide +kernel
theorem dX9_holds_18 : decode cX9_holds 18 = .ok (.invokevirtual 169, 3) := by decide +kernel
theorem dX9_holds_21 : decode cX9_holds 21 = .ok (.ifCond .ne 7, 3) := by decide +kernel
theorem dX9_holds_24 : decode cX9_holds 24 = .ok (.ldc2_w 113, 3) := by decide +kernel
theorem dX9_holds_27 : decode cX9_holds 27 = .ok (.lreturn, 1) := by decide +kernel
theorem dX9_holds_28 : decode cX9_holds 28 = .ok (.iload_n 2, 1) := by decide +kernel
theorem dX9_holds_29 : decode cX9_holds 29 = .ok (.iload_n 3, 1) := by decide +kernel
theorem dX9_holds_30 : decode cX9_holds 30 = .ok (.invokestatic 109, 3) := by decide +kernel
theorem dX9_holds_33 : decode cX9_holds 33 = .ok (.ifCond .eq 31, 3) := by decide +kernel
theorem dX9_holds_36 : decode cX9_holds 36 = .ok (.iload 5, 2) := by decide +kernel
theorem dX9_holds_38 : decode cX9_holds 38 = .ok (.invokestatic 141, 3) := by decide +kernel
theorem dX9_holds_41 : decode cX9_holds 41 = .ok (.ifCond .eq 23, 3) := by decide +kernel
theorem dX9_holds_44 : decode cX9_holds 44 = .ok (.iload 6, 2) := by decide +kernel
theorem dX9_holds_46 : decode cX9_holds 46 = .ok (.iconst 0, 1) := by decide +kernel
theorem dX9_holds_47 : decode cX9_holds 47 = .ok (.iconst 1, 1) := by decide +kernel
theorem dX9_holds_48 : decode cX9_holds 48 = .ok (.invokestatic 74, 3) := by decide +kernel
theorem dX9_holds_51 : decode cX9_holds 51 = .ok (.ifCond .eq 13, 3) := by decide +kernel
theorem dX9_holds_54 : decode cX9_holds 54 = .ok (.aload_n 0, 1) := by decide +kernel
theorem dX9_holds_55 : decode cX9_holds 55 = .ok (.getfield 24, 3) := by decide +kernel
theorem dX9_holds_58 : decode cX9_holds 58 = .ok (.getfield 145, 3) := by decide +kernel
theorem dX9_holds_61 : decode cX9_holds 61 = .ok (.ifCond .ne 7, 3) := by decide +kernel
theorem dX9_holds_64 : decode cX9_holds 64 = .ok (.ldc2_w 113, 3) := by decide +kernel
theorem dX9_holds_67 : decode cX9_holds 67 = .ok (.lreturn, 1) := by decide +kernel
theorem dX9_holds_68 : decode cX9_holds 68 = .ok (.aload_n 0, 1) := by decide +kernel
theorem dX9_holds_69 : decode cX9_holds 69 = .ok (.aload 7, 2) := by decide +kernel
theorem dX9_holds_71 : decode cX9_holds 71 = .ok (.iload_n 2, 1) := by decide +kernel
theorem dX9_holds_72 : decode cX9_holds 72 = .ok (.iload_n 3, 1) := by decide +kernel
theorem dX9_holds_73 : decode cX9_holds 73 = .ok (.iload 5, 2) := by decide +kernel
theorem dX9_holds_75 : decode cX9_holds 75 = .ok (.invokevirtual 156, 3) := by decide +kernel
theorem dX9_holds_78 : decode cX9_holds 78 = .ok (.i2l, 1) := by decide +kernel
theorem dX9_holds_79 : decode cX9_holds 79 = .ok (.aload_n 0, 1) := by decide +kernel
theorem dX9_holds_80 : decode cX9_holds 80 = .ok (.iconst 1, 1) := by decide +kernel
theorem dX9_holds_81 : decode cX9_holds 81 = .ok (.iload 4, 2) := by decide +kernel
theorem dX9_holds_83 : decode cX9_holds 83 = .ok (.iload 5, 2) := by decide +kernel
theorem dX9_holds_85 : decode cX9_holds 85 = .ok (.iconst 0, 1) := by decide +kernel
theorem dX9_holds_86 : decode cX9_holds 86 = .ok (.invokevirtual 181, 3) := by decide +kernel
theorem dX9_holds_89 : decode cX9_holds 89 = .ok (.i2l, 1) := by decide +kernel
theorem dX9_holds_90 : decode cX9_holds 90 = .ok (.lmul, 1) := by decide +kernel
theorem dX9_holds_91 : decode cX9_holds 91 = .ok (.lstore 8, 2) := by decide +kernel
theorem dX9_holds_93 : decode cX9_holds 93 = .ok (.aload_n 0, 1) := by decide +kernel
theorem dX9_holds_94 : decode cX9_holds 94 = .ok (.getfield 24, 3) := by decide +kernel
theorem dX9_holds_97 : decode cX9_holds 97 = .ok (.iconst 0, 1) := by decide +kernel
theorem dX9_holds_98 : decode cX9_holds 98 = .ok (.iload 5, 2) := by decide +kernel
theorem dX9_holds_100 : decode cX9_holds 100 = .ok (.invokevirtual 160, 3) := by decide +kernel
theorem dX9_holds_103 : decode cX9_holds 103 = .ok (.i2l, 1) := by decide +kernel
theorem dX9_holds_104 : decode cX9_holds 104 = .ok (.aload_n 0, 1) := by decide +kernel
theorem dX9_holds_105 : decode cX9_holds 105 = .ok (.iload 5, 2) := by decide +kernel
theorem dX9_holds_107 : decode cX9_holds 107 = .ok (.invokevirtual 184, 3) := by decide +kernel
theorem dX9_holds_110 : decode cX9_holds 110 = .ok (.i2l, 1) := by decide +kernel
theorem dX9_holds_111 : decode cX9_holds 111 = .ok (.lmul, 1) := by decide +kernel
theorem dX9_holds_112 : decode cX9_holds 112 = .ok (.lstore 10, 2) := by decide +kernel
theorem dX9_holds_114 : decode cX9_holds 114 = .ok (.lload 8, 2) := by decide +kernel
theorem dX9_holds_116 : decode cX9_holds 116 = .ok (.lload 10, 2) := by decide +kernel
theorem dX9_holds_118 : decode cX9_holds 118 = .ok (.iload 6, 2) := by decide +kernel
theorem dX9_holds_120 : decode cX9_holds 120 = .ok (.invokestatic 119, 3) := by decide +kernel
theorem dX9_holds_123 : decode cX9_holds 123 = .ok (.lreturn, 1) := by decide +kernel
set_option maxRecDepth 20000 in
theorem ggX9_allowed_X9_refusesRule : GoodIn wsX9_allowed wsX9_refusesRule := goodIn_r _ [6, 7, 8, 1, 9, 10, 5, 11, 12, 13, 14, 15, 16, 17, 18, 19, 20, 21, 77, 78, 79, 80, 81, 82, 83, 84, 85, 86, 87, 88, 89, 90, 91, 92, 93] (by decide +kernel) (by decide +kernel)
set_option maxRecDepth 20000 in
theorem gX9_allowed_X9_refusesRule : GoodIn wsX9_allowed (wsV RX9 187 RX9 yX9_refusesRule wsX9_refusesRule) := goodIn_app (goodIn_of _ (by decide +kernel)) ggX9_allowed_X9_refusesRule
set_option maxRecDepth 20000 in
theorem ggX9_allowed_X0_count : GoodIn wsX9_allowed wsX0_count := goodIn_r _ [19, 20, 21, 91, 92, 93] (by decide +kernel) (by decide +kernel)
set_option maxRecDepth 20000 in
theorem gX9_allowed_X0_count : GoodIn wsX9_allowed (wsV RX9 166 RX0 yX0_count wsX0_count) := goodIn_app (goodIn_of _ (by decide +kernel)) ggX9_allowed_X0_count
set_option maxRecDepth 20000 in
theorem ggX9_allowed_X9_isAllowed : GoodIn wsX9_allowed wsX9_isAllowed := goodIn_r _ [25, 1, 26, 27, 28, 18, 29, 21, 30, 31, 32, 33, 34, 35, 36, 37, 20, 38, 10, 5, 11, 39, 40, 41, 42, 43, 16, 17, 19, 44, 45, 46, 47, 7, 48, 49, 50, 51, 52, 53, 54, 55, 56, 57, 58, 59, 60, 61, 62, 63, 64, 65, 66, 67, 68, 69, 70, 71, 72, 73, 74, 75, 76, 77, 78, 79, 80, 81, 82, 83, 84, 85, 86, 87, 91, 92, 93, 88, 89, 90] (by decide +kernel) (by decide +kernel)
set_option maxRecDepth 20000 in
theorem gX9_allowed_X9_isAllowed : GoodIn wsX9_allowed (wsV RX9 190 RX9 yX9_isAllowed wsX9_isAllowed) := goodIn_app (goodIn_of _ (by decide +kernel)) ggX9_allowed_X9_isAllowed
theorem dX9_allowed_0 : decode cX9_allowed 0 = .ok (.aload_n 0, 1) := by decide +kernel
theorem dX9_allowed_1 : decode cX9_allowed 1 = .ok (.iload_n 1, 1) := by decide +kernel
theorem dX9_allowed_2 : decode cX9_allowed 2 = .ok (.iload_n 2, 1) := by decide +kernel
theorem dX9_allowed_3 : decode cX9_allowed 3 = .ok (.invokevirtual 187, 3) := by decide +kernel
theorem dX9_allowed_6 : decode cX9_allowed 6 = .ok (.istore_n 3, 1) := by decide +kernel
theorem dX9_allowed_7 : decode cX9_allowed 7 = .ok (.iload_n 3, 1) := by decide +kernel
theorem dX9_allowed_8 : decode cX9_allowed 8 = .ok (.ifCond .eq 5, 3) := by decide +kernel
theorem dX9_allowed_11 : decode cX9_allowed 11 = .ok (.iload_n 3, 1) := by decide +kernel
theorem dX9_allowed_12 : decode cX9_allowed 12 = .ok (.ireturn, 1) := by decide +kernel
theorem dX9_allowed_13 : decode cX9_allowed 13 = .ok (.iconst 0, 1) := by decide +kernel
theorem dX9_allowed_14 : decode cX9_allowed 14 = .ok (.istore 4, 2) := by decide +kernel
theorem dX9_allowed_16 : decode cX9_allowed 16 = .ok (.iconst 0, 1) := by decide +kernel
theorem dX9_allowed_17 : decode cX9_allowed 17 = .ok (.istore 5, 2) := by decide +kernel
theorem dX9_allowed_19 : decode cX9_allowed 19 = .ok (.iload 5, 2) := by decide +kernel
theorem dX9_allowed_21 : decode cX9_allowed 21 = .ok (.aload_n 0, 1) := by decide +kernel
theorem dX9_allowed_22 : decode cX9_allowed 22 = .ok (.getfield 31, 3) := by decide +kernel
theorem dX9_allowed_25 : decode cX9_allowed 25 = .ok (.invokevirtual 166, 3) := by decide +kernel
theorem dX9_allowed_28 : decode cX9_allowed 28 = .ok (.if_icmp .ge 36, 3) := by decide +kernel
theorem dX9_allowed_31 : decode cX9_allowed 31 = .ok (.iload 5, 2) := by decide +kernel
theorem dX9_allowed_33 : decode cX9_allowed 33 = .ok (.bipush 30, 2) := by decide +kernel
theorem dX9_allowed_35 : decode cX9_allowed 35 = .ok (.if_icmp .gt 29, 3) := by decide +kernel
theorem dX9_allowed_38 : decode cX9_allowed 38 = .ok (.aload_n 0, 1) := by decide +kernel
theorem dX9_allowed_39 : decode cX9_allowed 39 = .ok (.iload 5, 2) := by decide +kernel
theorem dX9_allowed_41 : decode cX9_allowed 41 = .ok (.iload_n 1, 1) := by decide +kernel
theorem dX9_allowed_42 : decode cX9_allowed 42 = .ok (.iload_n 2, 1) := by decide +kernel
theorem dX9_allowed_43 : decode cX9_allowed 43 = .ok (.invokevirtual 190, 3) := by decide +kernel
theorem dX9_allowed_46 : decode cX9_allowed 46 = .ok (.ifCond .eq 12, 3) := by decide +kernel
theorem dX9_allowed_49 : decode cX9_allowed 49 = .ok (.iload 4, 2) := by decide +kernel
theorem dX9_allowed_51 : decode cX9_allowed 51 = .ok (.iconst 1, 1) := by decide +kernel
theorem dX9_allowed_52 : decode cX9_allowed 52 = .ok (.iload 5, 2) := by decide +kernel
theorem dX9_allowed_54 : decode cX9_allowed 54 = .ok (.ishl, 1) := by decide +kernel
theorem dX9_allowed_55 : decode cX9_allowed 55 = .ok (.ior, 1) := by decide +kernel
theorem dX9_allowed_56 : decode cX9_allowed 56 = .ok (.istore 4, 2) := by decide +kernel
theorem dX9_allowed_58 : decode cX9_allowed 58 = .ok (.iinc 5 1, 3) := by decide +kernel
theorem dX9_allowed_61 : decode cX9_allowed 61 = .ok (.goto (-42), 3) := by decide +kernel
theorem dX9_allowed_64 : decode cX9_allowed 64 = .ok (.iload 4, 2) := by decide +kernel
theorem dX9_allowed_66 : decode cX9_allowed 66 = .ok (.ireturn, 1) := by decide +kernel
set_option maxRecDepth 20000 in
theorem ggX9_nearest_X9_refusesRule : GoodIn wsX9_nearest wsX9_refusesRule := goodIn_r _ [6, 7, 8, 1, 9, 10, 5, 11, 12, 13, 14, 15, 16, 17, 18, 19, 20, 21, 84, 85, 86, 87, 88, 89, 90, 91, 92, 93, 94, 95, 96, 97, 98, 99, 100] (by decide +kernel) (by decide +kernel)
set_option maxRecDepth 20000 in
theorem gX9_nearest_X9_refusesRule : GoodIn wsX9_nearest (wsV RX9 187 RX9 yX9_refusesRule wsX9_refusesRule) := goodIn_app (goodIn_of _ (by decide +kernel)) ggX9_nearest_X9_refusesRule
set_option maxRecDepth 20000 in
theorem ggX9_nearest_X0_count : GoodIn wsX9_nearest wsX0_count := goodIn_r _ [19, 20, 21, 98, 99, 100] (by decide +kernel) (by decide +kernel)
set_option maxRecDepth 20000 in
theorem gX9_nearest_X0_count : GoodIn wsX9_nearest (wsV RX9 166 RX0 yX0_count wsX0_count) := goodIn_app (goodIn_of _ (by decide +kernel)) ggX9_nearest_X0_count
set_option maxRecDepth 20000 in
theorem ggX9_nearest_X0_hersAbout : GoodIn wsX9_nearest wsX0_hersAbout := goodIn_r _ [25, 26, 27, 28, 18, 29, 21, 30, 31, 32, 33, 34, 35, 36, 37, 38, 39, 40, 41, 20, 42, 10, 5, 11, 43, 44, 45, 46, 47, 16, 17, 19, 98, 99, 100] (by decide +kernel) (by decide +kernel)
set_option maxRecDepth 20000 in
theorem gX9_nearest_X0_hersAbout : GoodIn wsX9_nearest (wsV RX9 193 RX0 yX0_hersAbout wsX0_hersAbout) := goodIn_app (goodIn_of _ (by decide +kernel)) ggX9_nearest_X0_hersAbout
set_option maxRecDepth 20000 in
theorem ggX9_nearest_X9_isAllowed : GoodIn wsX9_nearest wsX9_isAllowed := goodIn_r _ [51, 1, 52, 27, 28, 18, 29, 21, 53, 31, 32, 33, 54, 39, 40, 41, 20, 42, 10, 5, 11, 43, 44, 45, 46, 47, 16, 17, 19, 55, 56, 57, 58, 7, 59, 35, 36, 37, 38, 60, 61, 62, 63, 64, 65, 66, 67, 68, 69, 70, 71, 72, 73, 74, 75, 76, 77, 78, 79, 80, 81, 82, 83, 84, 85, 86, 87, 88, 89, 90, 91, 92, 93, 94, 98, 99, 100, 95, 96, 97] (by decide +kernel) (by decide +kernel)
set_option maxRecDepth 20000 in
theorem gX9_nearest_X9_isAllowed : GoodIn wsX9_nearest (wsV RX9 190 RX9 yX9_isAllowed wsX9_isAllowed) := goodIn_app (goodIn_of _ (by decide +kernel)) ggX9_nearest_X9_isAllowed
theorem dX9_nearest_0 : decode cX9_nearest 0 = .ok (.aload_n 0, 1) := by decide +kernel
theorem dX9_nearest_1 : decode cX9_nearest 1 = .ok (.iload_n 1, 1) := by decide +kernel
theorem dX9_nearest_2 : decode cX9_nearest 2 = .ok (.iload_n 2, 1) := by decide +kernel
theorem dX9_nearest_3 : decode cX9_nearest 3 = .ok (.invokevirtual 187, 3) := by decide +kernel
theorem dX9_nearest_6 : decode cX9_nearest 6 = .ok (.istore_n 3, 1) := by decide +kernel
theorem dX9_nearest_7 : decode cX9_nearest 7 = .ok (.iload_n 3, 1) := by decide +kernel
theorem dX9_nearest_8 : decode cX9_nearest 8 = .ok (.ifCond .eq 5, 3) := by decide +kernel
theorem dX9_nearest_11 : decode cX9_nearest 11 = .ok (.iload_n 3, 1) := by decide +kernel
theorem dX9_nearest_12 : decode cX9_nearest 12 = .ok (.ireturn, 1) := by decide +kernel
theorem dX9_nearest_13 : decode cX9_nearest 13 = .ok (.bipush (-9), 2) := by decide +kernel
theorem dX9_nearest_15 : decode cX9_nearest 15 = .ok (.istore 4, 2) := by decide +kernel
theorem dX9_nearest_17 : decode cX9_nearest 17 = .ok (.iconst (-1), 1) := by decide +kernel
theorem dX9_nearest_18 : decode cX9_nearest 18 = .ok (.istore 5, 2) := by decide +kernel
theorem dX9_nearest_20 : decode cX9_nearest 20 = .ok (.iconst 0, 1) := by decide +kernel
theorem dX9_nearest_21 : decode cX9_nearest 21 = .ok (.istore 6, 2) := by decide +kernel
theorem dX9_nearest_23 : decode cX9_nearest 23 = .ok (.iload 6, 2) := by decide +kernel
theorem dX9_nearest_25 : decode cX9_nearest 25 = .ok (.aload_n 0, 1) := by decide +kernel
theorem dX9_nearest_26 : decode cX9_nearest 26 = .ok (.getfield 31, 3) := by decide +kernel
theorem dX9_nearest_29 : decode cX9_nearest 29 = .ok (.invokevirtual 166, 3) := by decide +kernel
theorem dX9_nearest_32 : decode cX9_nearest 32 = .ok (.if_icmp .ge 46, 3) := by decide +kernel
theorem dX9_nearest_35 : decode cX9_nearest 35 = .ok (.aload_n 0, 1) := by decide +kernel
theorem dX9_nearest_36 : decode cX9_nearest 36 = .ok (.getfield 31, 3) := by decide +kernel
theorem dX9_nearest_39 : decode cX9_nearest 39 = .ok (.iload 6, 2) := by decide +kernel
theorem dX9_nearest_41 : decode cX9_nearest 41 = .ok (.invokevirtual 193, 3) := by decide +kernel
theorem dX9_nearest_44 : decode cX9_nearest 44 = .ok (.istore 7, 2) := by decide +kernel
theorem dX9_nearest_46 : decode cX9_nearest 46 = .ok (.iload 7, 2) := by decide +kernel
theorem dX9_nearest_48 : decode cX9_nearest 48 = .ok (.iload 5, 2) := by decide +kernel
theorem dX9_nearest_50 : decode cX9_nearest 50 = .ok (.if_icmp .le 22, 3) := by decide +kernel
theorem dX9_nearest_53 : decode cX9_nearest 53 = .ok (.aload_n 0, 1) := by decide +kernel
theorem dX9_nearest_54 : decode cX9_nearest 54 = .ok (.iload 6, 2) := by decide +kernel
theorem dX9_nearest_56 : decode cX9_nearest 56 = .ok (.iload_n 1, 1) := by decide +kernel
theorem dX9_nearest_57 : decode cX9_nearest 57 = .ok (.iload_n 2, 1) := by decide +kernel
theorem dX9_nearest_58 : decode cX9_nearest 58 = .ok (.invokevirtual 190, 3) := by decide +kernel
theorem dX9_nearest_61 : decode cX9_nearest 61 = .ok (.ifCond .eq 11, 3) := by decide +kernel
theorem dX9_nearest_64 : decode cX9_nearest 64 = .ok (.iload 7, 2) := by decide +kernel
theorem dX9_nearest_66 : decode cX9_nearest 66 = .ok (.istore 5, 2) := by decide +kernel
theorem dX9_nearest_68 : decode cX9_nearest 68 = .ok (.iload 6, 2) := by decide +kernel
theorem dX9_nearest_70 : decode cX9_nearest 70 = .ok (.istore 4, 2) := by decide +kernel
theorem dX9_nearest_72 : decode cX9_nearest 72 = .ok (.iinc 6 1, 3) := by decide +kernel
theorem dX9_nearest_75 : decode cX9_nearest 75 = .ok (.goto (-52), 3) := by decide +kernel
theorem dX9_nearest_78 : decode cX9_nearest 78 = .ok (.iload 4, 2) := by decide +kernel
theorem dX9_nearest_80 : decode cX9_nearest 80 = .ok (.ireturn, 1) := by decide +kernel
set_option maxRecDepth 20000 in
theorem ggX9_order_X9_refusesSheet : GoodIn wsX9_order wsX9_refusesSheet := goodIn_r _ [9, 10, 11, 8, 12, 13, 14, 15] (by decide +kernel) (by decide +kernel)
set_option maxRecDepth 20000 in
theorem gX9_order_X9_refusesSheet : GoodIn wsX9_order (va_wsS RX9 196 yX9_refusesSheet wsX9_refusesSheet) := goodIn_app (goodIn_of _ (by decide +kernel)) ggX9_order_X9_refusesSheet
set_option maxRecDepth 20000 in
theorem ggX9_order_X9_within : GoodIn wsX9_order wsX9_within := goodIn_r _ [15] (by decide +kernel) (by decide +kernel)
set_option maxRecDepth 20000 in
theorem gX9_order_X9_within : GoodIn wsX9_order (va_wsS RX9 74 yX9_within wsX9_within) := goodIn_app (goodIn_of _ (by decide +kernel)) ggX9_order_X9_within
set_option maxRecDepth 20000 in
theorem ggX9_order_X9_takeCells : GoodIn wsX9_order wsX9_takeCells := goodIn_r _ [19, 20, 21, 5, 22, 23, 24, 25, 10, 11, 8, 12, 13, 14, 15, 26, 27, 28, 29, 30, 31, 32, 33, 34, 35, 36, 37, 38, 39, 40, 41, 1, 157, 158, 159, 160, 161, 162, 163, 164, 165, 166, 167, 171, 172, 173, 174] (by decide +kernel) (by decide +kernel)
set_option maxRecDepth 20000 in
theorem gX9_order_X9_takeCells : GoodIn wsX9_order (wsV RX9 199 RX9 yX9_takeCells wsX9_takeCells) := goodIn_app (goodIn_of _ (by decide +kernel)) ggX9_order_X9_takeCells
set_option maxRecDepth 20000 in
theorem ggX9_order_X9_refusesCells : GoodIn wsX9_order wsX9_refusesCells := goodIn_r _ [45, 46, 5, 47, 48, 49, 50, 51, 52, 53, 54, 55, 56, 57, 14, 8, 15, 157, 158, 159, 160, 161, 162, 163, 164, 165, 166, 167, 175, 176, 177] (by decide +kernel) (by decide +kernel)
set_option maxRecDepth 20000 in
theorem gX9_order_X9_refusesCells : GoodIn wsX9_order (wsV RX9 203 RX9 yX9_refusesCells wsX9_refusesCells) := goodIn_app (goodIn_of _ (by decide +kernel)) ggX9_order_X9_refusesCells
set_option maxRecDepth 20000 in
theorem ggX9_order_X5_begin : GoodIn wsX9_order wsX5_begin := goodIn_r _ [62, 63, 64, 65, 66, 67, 68, 69, 70, 71, 178, 179, 180, 181] (by decide +kernel) (by decide +kernel)
set_option maxRecDepth 20000 in
theorem gX9_order_X5_begin : GoodIn wsX9_order (wsV RX9 206 RX5 yX5_begin wsX5_begin) := goodIn_app (goodIn_of _ (by decide +kernel)) ggX9_order_X5_begin
set_option maxRecDepth 20000 in
theorem ggX9_order_X5_sortedCell : GoodIn wsX9_order wsX5_sortedCell := goodIn_r _ [75, 71, 178, 179, 180, 181] (by decide +kernel) (by decide +kernel)
set_option maxRecDepth 20000 in
theorem gX9_order_X5_sortedCell : GoodIn wsX9_order (wsV RX9 209 RX5 yX5_sortedCell wsX5_sortedCell) := goodIn_app (goodIn_of _ (by decide +kernel)) ggX9_order_X5_sortedCell
set_option maxRecDepth 20000 in
theorem ggX9_order_X1_stageOf : GoodIn wsX9_order wsX1_stageOf := goodIn_r _ [80, 81, 82, 64, 65, 66, 168, 169, 170] (by decide +kernel) (by decide +kernel)
set_option maxRecDepth 20000 in
theorem gX9_order_X1_stageOf : GoodIn wsX9_order (wsV RX9 152 RX1 yX1_stageOf wsX1_stageOf) := goodIn_app (goodIn_of _ (by decide +kernel)) ggX9_order_X1_stageOf
set_option maxRecDepth 20000 in
theorem ggX9_order_X9_millionths : GoodIn wsX9_order wsX9_millionths := goodIn_r _ [86, 87, 88, 89, 90, 8, 91, 2, 92, 93, 94, 79, 95, 96, 97, 98, 99, 100, 82, 64, 65, 66, 101, 102, 103, 104, 46, 105, 106, 107, 50, 108, 57, 109, 110, 111, 112, 113, 114, 115, 116, 117, 118, 119, 120, 56, 121, 14, 15, 122, 48, 49, 51, 52, 53, 54, 55, 123, 157, 158, 159, 160, 161, 162, 163, 164, 165, 166, 167, 168, 169, 170, 175, 176, 177] (by decide +kernel) (by decide +kernel)
set_option maxRecDepth 20000 in
theorem gX9_order_X9_millionths : GoodIn wsX9_order (wsV RX9 212 RX9 yX9_millionths wsX9_millionths) := goodIn_app (goodIn_of _ (by decide +kernel)) ggX9_order_X9_millionths
set_option maxRecDepth 20000 in
theorem ggX9_order_X5_setCost : GoodIn wsX9_order wsX5_setCost := goodIn_r _ [127, 128, 178, 179, 180, 181] (by decide +kernel) (by decide +kernel)
set_option maxRecDepth 20000 in
theorem gX9_order_X5_setCost : GoodIn wsX9_order (wsV RX9 215 RX5 yX5_setCost wsX5_setCost) := goodIn_app (goodIn_of _ (by decide +kernel)) ggX9_order_X5_setCost
set_option maxRecDepth 20000 in
theorem ggX9_order_X5_weighRests : GoodIn wsX9_order wsX5_weighRests := goodIn_r _ [132, 70, 133, 134, 135, 136, 61, 137, 67, 68, 65, 69, 138, 139, 140, 141, 128, 142, 143, 144, 145, 146, 147, 148, 178, 179, 180, 181] (by decide +kernel) (by decide +kernel)
set_option maxRecDepth 20000 in
theorem gX9_order_X5_weighRests : GoodIn wsX9_order (wsV RX9 219 RX5 yX5_weighRests wsX5_weighRests) := goodIn_app (goodIn_of _ (by decide +kernel)) ggX9_order_X5_weighRests
set_option maxRecDepth 20000 in
theorem ggX9_order_X5_leastSum : GoodIn wsX9_order wsX5_leastSum := goodIn_r _ [152, 133, 178, 179, 180, 181] (by decide +kernel) (by decide +kernel)
set_option maxRecDepth 20000 in
theorem gX9_order_X5_leastSum : GoodIn wsX9_order (wsV RX9 222 RX5 yX5_leastSum wsX5_leastSum) := goodIn_app (goodIn_of _ (by decide +kernel)) ggX9_order_X5_leastSum
set_option maxRecDepth 20000 in
theorem ggX9_order_X5_cellThrown : GoodIn wsX9_order wsX5_cellThrown := goodIn_r _ [156, 70, 71, 134, 135, 136, 61, 137, 67, 68, 65, 69, 138, 139, 140, 141, 128, 133, 142, 143, 144, 145, 146, 147, 148, 178, 179, 180, 181] (by decide +kernel) (by decide +kernel)
set_option maxRecDepth 20000 in
theorem gX9_order_X5_cellThrown : GoodIn wsX9_order (wsV RX9 225 RX5 yX5_cellThrown wsX5_cellThrown) := goodIn_app (goodIn_of _ (by decide +kernel)) ggX9_order_X5_cellThrown
theorem dX9_order_0 : decode cX9_order 0 = .ok (.aload_n 0, 1) := by decide +kernel
theorem dX9_order_1 : decode cX9_order 1 = .ok (.iconst 0, 1) := by decide +kernel
theorem dX9_order_2 : decode cX9_order 2 = .ok (.putfield 71, 3) := by decide +kernel
theorem dX9_order_5 : decode cX9_order 5 = .ok (.iload_n 2, 1) := by decide +kernel
theorem dX9_order_6 : decode cX9_order 6 = .ok (.iload_n 3, 1) := by decide +kernel
theorem dX9_order_7 : decode cX9_order 7 = .ok (.invokestatic 196, 3) := by decide +kernel
theorem dX9_order_10 : decode cX9_order 10 = .ok (.istore 7, 2) := by decide +kernel
theorem dX9_order_12 : decode cX9_order 12 = .ok (.iload 7, 2) := by decide +kernel
theorem dX9_order_14 : decode cX9_order 14 = .ok (.ifCond .eq 6, 3) := by decide +kernel
theorem dX9_order_17 : decode cX9_order 17 = .ok (.iload 7, 2) := by decide +kernel
theorem dX9_order_19 : decode cX9_order 19 = .ok (.ireturn, 1) := by decide +kernel
theorem dX9_order_20 : decode cX9_order 20 = .ok (.iload_n 1, 1) := by decide +kernel
theorem dX9_order_21 : decode cX9_order 21 = .ok (.iconst 0, 1) := by decide +kernel
theorem dX9_order_22 : decode cX9_order 22 = .ok (.sipush 9999, 3) := by decide +kernel
theorem dX9_order_25 : decode cX9_order 25 = .ok (.invokestatic 74, 3) := by decide +kernel
theorem dX9_order_28 : decode cX9_order 28 = .ok (.ifCond .ne 6, 3) := by decide +kernel
theorem dX9_order_31 : decode cX9_order 31 = .ok (.bipush (-2), 2) := by decide +kernel
theorem dX9_order_33 : decode cX9_order 33 = .ok (.ireturn, 1) := by decide +kernel
theorem dX9_order_34 : decode cX9_order 34 = .ok (.aload_n 0, 1) := by decide +kernel
theorem dX9_order_35 : decode cX9_order 35 = .ok (.iload_n 2, 1) := by decide +kernel
theorem dX9_order_36 : decode cX9_order 36 = .ok (.iload_n 3, 1) := by decide +kernel
theorem dX9_order_37 : decode cX9_order 37 = .ok (.iload 4, 2) := by decide +kernel
theorem dX9_order_39 : decode cX9_order 39 = .ok (.iload 5, 2) := by decide +kernel
theorem dX9_order_41 : decode cX9_order 41 = .ok (.i2l, 1) := by decide +kernel
theorem dX9_order_42 : decode cX9_order 42 = .ok (.invokevirtual 199, 3) := by decide +kernel
theorem dX9_order_45 : decode cX9_order 45 = .ok (.istore 7, 2) := by decide +kernel
theorem dX9_order_47 : decode cX9_order 47 = .ok (.iload 7, 2) := by decide +kernel
theorem dX9_order_49 : decode cX9_order 49 = .ok (.ifCond .eq 6, 3) := by decide +kernel
theorem dX9_order_52 : decode cX9_order 52 = .ok (.iload 7, 2) := by decide +kernel
theorem dX9_order_54 : decode cX9_order 54 = .ok (.ireturn, 1) := by decide +kernel
theorem dX9_order_55 : decode cX9_order 55 = .ok (.iload 5, 2) := by decide +kernel
theorem dX9_order_57 : decode cX9_order 57 = .ok (.iconst 1, 1) := by decide +kernel
theorem dX9_order_58 : decode cX9_order 58 = .ok (.bipush 6, 2) := by decide +kernel
theorem dX9_order_60 : decode cX9_order 60 = .ok (.invokestatic 74, 3) := by decide +kernel
theorem dX9_order_63 : decode cX9_order 63 = .ok (.ifCond .ne 6, 3) := by decide +kernel
theorem dX9_order_66 : decode cX9_order 66 = .ok (.bipush (-2), 2) := by decide +kernel
theorem dX9_order_68 : decode cX9_order 68 = .ok (.ireturn, 1) := by decide +kernel
theorem dX9_order_69 : decode cX9_order 69 = .ok (.aload_n 0, 1) := by decide +kernel
theorem dX9_order_70 : decode cX9_order 70 = .ok (.iload 5, 2) := by decide +kernel
theorem dX9_order_72 : decode cX9_order 72 = .ok (.invokevirtual 203, 3) := by decide +kernel
theorem dX9_order_75 : decode cX9_order 75 = .ok (.istore 7, 2) := by decide +kernel
theorem dX9_order_77 : decode cX9_order 77 = .ok (.iload 7, 2) := by decide +kernel
theorem dX9_order_79 : decode cX9_order 79 = .ok (.ifCond .eq 6, 3) := by decide +kernel
theorem dX9_order_82 : decode cX9_order 82 = .ok (.iload 7, 2) := by decide +kernel
theorem dX9_order_84 : decode cX9_order 84 = .ok (.ireturn, 1) := by decide +kernel
theorem dX9_order_85 : decode cX9_order 85 = .ok (.iload 6, 2) := by decide +kernel
theorem dX9_order_87 : decode cX9_order 87 = .ok (.iconst (-1), 1) := by decide +kernel
theorem dX9_order_88 : decode cX9_order 88 = .ok (.iconst 5, 1) := by decide +kernel
theorem dX9_order_89 : decode cX9_order 89 = .ok (.invokestatic 74, 3) := by decide +kernel
theorem dX9_order_92 : decode cX9_order 92 = .ok (.ifCond .ne 5, 3) := by decide +kernel
theorem dX9_order_95 : decode cX9_order 95 = .ok (.iconst (-1), 1) := by decide +kernel
theorem dX9_order_96 : decode cX9_order 96 = .ok (.ireturn, 1) := by decide +kernel
theorem dX9_order_97 : decode cX9_order 97 = .ok (.aload_n 0, 1) := by decide +kernel
theorem dX9_order_98 : decode cX9_order 98 = .ok (.getfield 24, 3) := by decide +kernel
theorem dX9_order_101 : decode cX9_order 101 = .ok (.getfield 145, 3) := by decide +kernel
theorem dX9_order_104 : decode cX9_order 104 = .ok (.ifCond .ne 6, 3) := by decide +kernel
theorem dX9_order_107 : decode cX9_order 107 = .ok (.bipush (-3), 2) := by decide +kernel
theorem dX9_order_109 : decode cX9_order 109 = .ok (.ireturn, 1) := by decide +kernel
theorem dX9_order_110 : decode cX9_order 110 = .ok (.iload 6, 2) := by decide +kernel
theorem dX9_order_112 : decode cX9_order 112 = .ok (.iload 5, 2) := by decide +kernel
theorem dX9_order_114 : decode cX9_order 114 = .ok (.if_icmp .lt 6, 3) := by decide +kernel
theorem dX9_order_117 : decode cX9_order 117 = .ok (.bipush (-9), 2) := by decide +kernel
theorem dX9_order_119 : decode cX9_order 119 = .ok (.ireturn, 1) := by decide +kernel
theorem dX9_order_120 : decode cX9_order 120 = .ok (.aload_n 0, 1) := by decide +kernel
theorem dX9_order_121 : decode cX9_order 121 = .ok (.getfield 38, 3) := by decide +kernel
theorem dX9_order_124 : decode cX9_order 124 = .ok (.aload_n 0, 1) := by decide +kernel
theorem dX9_order_125 : decode cX9_order 125 = .ok (.getfield 56, 3) := by decide +kernel
theorem dX9_order_128 : decode cX9_order 128 = .ok (.iload 5, 2) := by decide +kernel
theorem dX9_order_130 : decode cX9_order 130 = .ok (.invokevirtual 206, 3) := by decide +kernel
theorem dX9_order_133 : decode cX9_order 133 = .ok (.iconst 0, 1) := by decide +kernel
theorem dX9_order_134 : decode cX9_order 134 = .ok (.istore 8, 2) := by decide +kernel
theorem dX9_order_136 : decode cX9_order 136 = .ok (.iload 8, 2) := by decide +kernel
theorem dX9_order_138 : decode cX9_order 138 = .ok (.iload 5, 2) := by decide +kernel
theorem dX9_order_140 : decode cX9_order 140 = .ok (.if_icmp .ge 60, 3) := by decide +kernel
theorem dX9_order_143 : decode cX9_order 143 = .ok (.iconst 0, 1) := by decide +kernel
theorem dX9_order_144 : decode cX9_order 144 = .ok (.istore 9, 2) := by decide +kernel
theorem dX9_order_146 : decode cX9_order 146 = .ok (.iload 9, 2) := by decide +kernel
theorem dX9_order_148 : decode cX9_order 148 = .ok (.iload 5, 2) := by decide +kernel
theorem dX9_order_150 : decode cX9_order 150 = .ok (.if_icmp .ge 44, 3) := by decide +kernel
theorem dX9_order_153 : decode cX9_order 153 = .ok (.aload_n 0, 1) := by decide +kernel
theorem dX9_order_154 : decode cX9_order 154 = .ok (.getfield 38, 3) := by decide +kernel
theorem dX9_order_157 : decode cX9_order 157 = .ok (.iload 8, 2) := by decide +kernel
theorem dX9_order_159 : decode cX9_order 159 = .ok (.iload 9, 2) := by decide +kernel
theorem dX9_order_161 : decode cX9_order 161 = .ok (.aload_n 0, 1) := by decide +kernel
theorem dX9_order_162 : decode cX9_order 162 = .ok (.aload_n 0, 1) := by decide +kernel
theorem dX9_order_163 : decode cX9_order 163 = .ok (.getfield 38, 3) := by decide +kernel
theorem dX9_order_166 : decode cX9_order 166 = .ok (.iload 8, 2) := by decide +kernel
theorem dX9_order_168 : decode cX9_order 168 = .ok (.invokevirtual 209, 3) := by decide +kernel
theorem dX9_order_171 : decode cX9_order 171 = .ok (.aload_n 0, 1) := by decide +kernel
theorem dX9_order_172 : decode cX9_order 172 = .ok (.getfield 24, 3) := by decide +kernel
theorem dX9_order_175 : decode cX9_order 175 = .ok (.iload_n 1, 1) := by decide +kernel
theorem dX9_order_176 : decode cX9_order 176 = .ok (.iload 9, 2) := by decide +kernel
theorem dX9_order_178 : decode cX9_order 178 = .ok (.iadd, 1) := by decide +kernel
theorem dX9_order_179 : decode cX9_order 179 = .ok (.invokevirtual 152, 3) := by decide +kernel
theorem dX9_order_182 : decode cX9_order 182 = .ok (.invokevirtual 212, 3) := by decide +kernel
theorem dX9_order_185 : decode cX9_order 185 = .ok (.invokevirtual 215, 3) := by decide +kernel
theorem dX9_order_188 : decode cX9_order 188 = .ok (.iinc 9 1, 3) := by decide +kernel
theorem dX9_order_191 : decode cX9_order 191 = .ok (.goto (-45), 3) := by decide +kernel
theorem dX9_order_194 : decode cX9_order 194 = .ok (.iinc 8 1, 3) := by decide +kernel
theorem dX9_order_197 : decode cX9_order 197 = .ok (.goto (-61), 3) := by decide +kernel
theorem dX9_order_200 : decode cX9_order 200 = .ok (.aload_n 0, 1) := by decide +kernel
theorem dX9_order_201 : decode cX9_order 201 = .ok (.getfield 38, 3) := by decide +kernel
theorem dX9_order_204 : decode cX9_order 204 = .ok (.invokevirtual 219, 3) := by decide +kernel
theorem dX9_order_207 : decode cX9_order 207 = .ok (.iload 6, 2) := by decide +kernel
theorem dX9_order_209 : decode cX9_order 209 = .ok (.ifCond .ge 13, 3) := by decide +kernel
theorem dX9_order_212 : decode cX9_order 212 = .ok (.aload_n 0, 1) := by decide +kernel
theorem dX9_order_213 : decode cX9_order 213 = .ok (.getfield 38, 3) := by decide +kernel
theorem dX9_order_216 : decode cX9_order 216 = .ok (.invokevirtual 222, 3) := by decide +kernel
theorem dX9_order_219 : decode cX9_order 219 = .ok (.goto 12, 3) := by decide +kernel
theorem dX9_order_222 : decode cX9_order 222 = .ok (.aload_n 0, 1) := by decide +kernel
theorem dX9_order_223 : decode cX9_order 223 = .ok (.getfield 38, 3) := by decide +kernel
theorem dX9_order_226 : decode cX9_order 226 = .ok (.iload 6, 2) := by decide +kernel
theorem dX9_order_228 : decode cX9_order 228 = .ok (.invokevirtual 225, 3) := by decide +kernel
theorem dX9_order_231 : decode cX9_order 231 = .ok (.ireturn, 1) := by decide +kernel
set_option maxRecDepth 20000 in
theorem ggX9_turned_X0_knows : GoodIn wsX9_turned wsX0_knows := goodIn_r _ [7, 8, 9, 10, 6, 11, 12, 13, 14, 15, 16, 47, 48, 49] (by decide +kernel) (by decide +kernel)
set_option maxRecDepth 20000 in
theorem gX9_turned_X0_knows : GoodIn wsX9_turned (wsV RX9 169 RX0 yX0_knows wsX0_knows) := goodIn_app (goodIn_of _ (by decide +kernel)) ggX9_turned_X0_knows
set_option maxRecDepth 20000 in
theorem ggX9_turned_X9_within : GoodIn wsX9_turned wsX9_within := goodIn_r _ [16] (by decide +kernel) (by decide +kernel)
set_option maxRecDepth 20000 in
theorem gX9_turned_X9_within : GoodIn wsX9_turned (va_wsS RX9 74 yX9_within wsX9_within) := goodIn_app (goodIn_of _ (by decide +kernel)) ggX9_turned_X9_within
set_option maxRecDepth 20000 in
theorem ggX9_turned_X0_isSquare : GoodIn wsX9_turned wsX0_isSquare := goodIn_r _ [21, 12, 13, 47, 48, 49] (by decide +kernel) (by decide +kernel)
set_option maxRecDepth 20000 in
theorem gX9_turned_X0_isSquare : GoodIn wsX9_turned (wsV RX9 229 RX0 yX0_isSquare wsX0_isSquare) := goodIn_app (goodIn_of _ (by decide +kernel)) ggX9_turned_X0_isSquare
set_option maxRecDepth 20000 in
theorem ggX9_turned_X0_rowOf : GoodIn wsX9_turned wsX0_rowOf := goodIn_r _ [25, 13, 47, 48, 49] (by decide +kernel) (by decide +kernel)
set_option maxRecDepth 20000 in
theorem gX9_turned_X0_rowOf : GoodIn wsX9_turned (wsV RX9 172 RX0 yX0_rowOf wsX0_rowOf) := goodIn_app (goodIn_of _ (by decide +kernel)) ggX9_turned_X0_rowOf
set_option maxRecDepth 20000 in
theorem ggX9_turned_X0_columnOf : GoodIn wsX9_turned wsX0_columnOf := goodIn_r _ [29, 13, 47, 48, 49] (by decide +kernel) (by decide +kernel)
set_option maxRecDepth 20000 in
theorem gX9_turned_X0_columnOf : GoodIn wsX9_turned (wsV RX9 175 RX0 yX0_columnOf wsX0_columnOf) := goodIn_app (goodIn_of _ (by decide +kernel)) ggX9_turned_X0_columnOf
set_option maxRecDepth 20000 in
theorem ggX9_turned_X0_letterAt : GoodIn wsX9_turned wsX0_letterAt := goodIn_r _ [33, 12, 13, 34, 14, 15, 16, 35, 4, 5, 6, 7, 8, 9, 10, 11, 47, 48, 49] (by decide +kernel) (by decide +kernel)
set_option maxRecDepth 20000 in
theorem gX9_turned_X0_letterAt : GoodIn wsX9_turned (wsV RX9 178 RX0 yX0_letterAt wsX0_letterAt) := goodIn_app (goodIn_of _ (by decide +kernel)) ggX9_turned_X0_letterAt
theorem dX9_turned_0 : decode cX9_turned 0 = .ok (.aload_n 0, 1) := by decide +kernel
theorem dX9_turned_1 : decode cX9_turned 1 = .ok (.getfield 31, 3) := by decide +kernel
theorem dX9_turned_4 : decode cX9_turned 4 = .ok (.iload_n 1, 1) := by decide +kernel
theorem dX9_turned_5 : decode cX9_turned 5 = .ok (.invokevirtual 169, 3) := by decide +kernel
theorem dX9_turned_8 : decode cX9_turned 8 = .ok (.ifCond .ne 5, 3) := by decide +kernel
theorem dX9_turned_11 : decode cX9_turned 11 = .ok (.iconst (-1), 1) := by decide +kernel
theorem dX9_turned_12 : decode cX9_turned 12 = .ok (.ireturn, 1) := by decide +kernel
theorem dX9_turned_13 : decode cX9_turned 13 = .ok (.iload_n 2, 1) := by decide +kernel
theorem dX9_turned_14 : decode cX9_turned 14 = .ok (.iconst 1, 1) := by decide +kernel
theorem dX9_turned_15 : decode cX9_turned 15 = .ok (.bipush 60, 2) := by decide +kernel
theorem dX9_turned_17 : decode cX9_turned 17 = .ok (.invokestatic 74, 3) := by decide +kernel
theorem dX9_turned_20 : decode cX9_turned 20 = .ok (.ifCond .eq 13, 3) := by decide +kernel
theorem dX9_turned_23 : decode cX9_turned 23 = .ok (.iload_n 3, 1) := by decide +kernel
theorem dX9_turned_24 : decode cX9_turned 24 = .ok (.iconst 0, 1) := by decide +kernel
theorem dX9_turned_25 : decode cX9_turned 25 = .ok (.ldc 228, 2) := by decide +kernel
theorem dX9_turned_27 : decode cX9_turned 27 = .ok (.invokestatic 74, 3) := by decide +kernel
theorem dX9_turned_30 : decode cX9_turned 30 = .ok (.ifCond .ne 6, 3) := by decide +kernel
theorem dX9_turned_33 : decode cX9_turned 33 = .ok (.bipush (-2), 2) := by decide +kernel
theorem dX9_turned_35 : decode cX9_turned 35 = .ok (.ireturn, 1) := by decide +kernel
theorem dX9_turned_36 : decode cX9_turned 36 = .ok (.aload_n 0, 1) := by decide +kernel
theorem dX9_turned_37 : decode cX9_turned 37 = .ok (.getfield 31, 3) := by decide +kernel
theorem dX9_turned_40 : decode cX9_turned 40 = .ok (.invokevirtual 229, 3) := by decide +kernel
theorem dX9_turned_43 : decode cX9_turned 43 = .ok (.ifCond .ne 6, 3) := by decide +kernel
theorem dX9_turned_46 : decode cX9_turned 46 = .ok (.bipush (-3), 2) := by decide +kernel
theorem dX9_turned_48 : decode cX9_turned 48 = .ok (.ireturn, 1) := by decide +kernel
theorem dX9_turned_49 : decode cX9_turned 49 = .ok (.aload_n 0, 1) := by decide +kernel
theorem dX9_turned_50 : decode cX9_turned 50 = .ok (.getfield 31, 3) := by decide +kernel
theorem dX9_turned_53 : decode cX9_turned 53 = .ok (.aload_n 0, 1) := by decide +kernel
theorem dX9_turned_54 : decode cX9_turned 54 = .ok (.getfield 31, 3) := by decide +kernel
theorem dX9_turned_57 : decode cX9_turned 57 = .ok (.iload_n 1, 1) := by decide +kernel
theorem dX9_turned_58 : decode cX9_turned 58 = .ok (.invokevirtual 172, 3) := by decide +kernel
theorem dX9_turned_61 : decode cX9_turned 61 = .ok (.aload_n 0, 1) := by decide +kernel
theorem dX9_turned_62 : decode cX9_turned 62 = .ok (.getfield 31, 3) := by decide +kernel
theorem dX9_turned_65 : decode cX9_turned 65 = .ok (.iload_n 1, 1) := by decide +kernel
theorem dX9_turned_66 : decode cX9_turned 66 = .ok (.invokevirtual 175, 3) := by decide +kernel
theorem dX9_turned_69 : decode cX9_turned 69 = .ok (.iload_n 3, 1) := by decide +kernel
theorem dX9_turned_70 : decode cX9_turned 70 = .ok (.iload_n 2, 1) := by decide +kernel
theorem dX9_turned_71 : decode cX9_turned 71 = .ok (.idiv, 1) := by decide +kernel
theorem dX9_turned_72 : decode cX9_turned 72 = .ok (.iconst 4, 1) := by decide +kernel
theorem dX9_turned_73 : decode cX9_turned 73 = .ok (.irem, 1) := by decide +kernel
theorem dX9_turned_74 : decode cX9_turned 74 = .ok (.invokevirtual 178, 3) := by decide +kernel
theorem dX9_turned_77 : decode cX9_turned 77 = .ok (.ireturn, 1) := by decide +kernel
set_option maxRecDepth 20000 in
theorem ggX9_when_X9_knifeAt : GoodIn wsX9_when wsX9_knifeAt := goodIn_r _ [9, 10, 11, 12, 13, 8, 14, 90, 91, 92, 93, 94, 95, 96, 97, 98, 99, 100] (by decide +kernel) (by decide +kernel)
set_option maxRecDepth 20000 in
theorem gX9_when_X9_knifeAt : GoodIn wsX9_when (wsV RX9 89 RX9 yX9_knifeAt wsX9_knifeAt) := goodIn_app (goodIn_of _ (by decide +kernel)) ggX9_when_X9_knifeAt
set_option maxRecDepth 20000 in
theorem ggX9_when_X0_knows : GoodIn wsX9_when wsX0_knows := goodIn_r _ [19, 20, 21, 22, 18, 23, 24, 25, 13, 8, 14, 104, 105, 106] (by decide +kernel) (by decide +kernel)
set_option maxRecDepth 20000 in
theorem gX9_when_X0_knows : GoodIn wsX9_when (wsV RX9 169 RX0 yX0_knows wsX0_knows) := goodIn_app (goodIn_of _ (by decide +kernel)) ggX9_when_X0_knows
set_option maxRecDepth 20000 in
theorem ggX9_when_X9_within : GoodIn wsX9_when wsX9_within := goodIn_r _ [14] (by decide +kernel) (by decide +kernel)
set_option maxRecDepth 20000 in
theorem gX9_when_X9_within : GoodIn wsX9_when (va_wsS RX9 74 yX9_within wsX9_within) := goodIn_app (goodIn_of _ (by decide +kernel)) ggX9_when_X9_within
set_option maxRecDepth 20000 in
theorem ggX9_when_X0_isSquare : GoodIn wsX9_when wsX0_isSquare := goodIn_r _ [29, 24, 25, 104, 105, 106] (by decide +kernel) (by decide +kernel)
set_option maxRecDepth 20000 in
theorem gX9_when_X0_isSquare : GoodIn wsX9_when (wsV RX9 229 RX0 yX0_isSquare wsX0_isSquare) := goodIn_app (goodIn_of _ (by decide +kernel)) ggX9_when_X0_isSquare
set_option maxRecDepth 20000 in
theorem ggX9_when_X9_seekHarmless : GoodIn wsX9_when wsX9_seekHarmless := goodIn_r _ [33, 4, 34, 35, 36, 8, 37, 1, 2, 38, 39, 40, 18, 41, 25, 42, 43, 44, 45, 46, 47, 48, 49, 50, 51, 52, 53, 24, 54, 13, 14, 55, 16, 17, 19, 20, 21, 22, 23, 56, 57, 58, 59, 60, 61, 62, 63, 64, 65, 66, 67, 68, 69, 70, 71, 72, 73, 74, 75, 76, 77, 78, 79, 90, 91, 92, 93, 94, 95, 96, 97, 98, 99, 100, 104, 105, 106, 101, 102, 103] (by decide +kernel) (by decide +kernel)
set_option maxRecDepth 20000 in
theorem gX9_when_X9_seekHarmless : GoodIn wsX9_when (wsV RX9 233 RX9 yX9_seekHarmless wsX9_seekHarmless) := goodIn_app (goodIn_of _ (by decide +kernel)) ggX9_when_X9_seekHarmless
set_option maxRecDepth 20000 in
theorem ggX9_when_X3_flightOf : GoodIn wsX9_when wsX3_flightOf := goodIn_r _ [85, 86, 107, 108, 109, 110, 111, 112, 113, 114, 115, 116, 117, 118, 119, 120, 121, 122, 123, 124] (by decide +kernel) (by decide +kernel)
set_option maxRecDepth 20000 in
theorem gX9_when_X3_flightOf_u237X2 : GoodIn wsX9_when (va_wsU RX9 237 RX2 "KnifeBoard$Knife" ⟨"KnifeBoard$Knife", "flightOf", "(I)I"⟩ yX3_flightOf wsX3_flightOf) := goodIn_app (goodIn_of _ (by decide +kernel)) ggX9_when_X3_flightOf
set_option maxRecDepth 20000 in
theorem gX9_when_X3_flightOf : GoodIn wsX9_when (wsV RX9 237 RX3 yX3_flightOf wsX3_flightOf) := goodIn_app (goodIn_of _ (by decide +kernel)) ggX9_when_X3_flightOf
set_option maxRecDepth 20000 in
theorem gX9_when_X3_flightOf_u237X8 : GoodIn wsX9_when (va_wsU RX9 237 RX8 "KnifeBoard$Knife" ⟨"KnifeBoard$Knife", "flightOf", "(I)I"⟩ yX3_flightOf wsX3_flightOf) := goodIn_app (goodIn_of _ (by decide +kernel)) ggX9_when_X3_flightOf
theorem dX9_when_0 : decode cX9_when 0 = .ok (.aload_n 0, 1) := by decide +kernel
theorem dX9_when_1 : decode cX9_when 1 = .ok (.iload_n 1, 1) := by decide +kernel
theorem dX9_when_2 : decode cX9_when 2 = .ok (.invokevirtual 89, 3) := by decide +kernel
theorem dX9_when_5 : decode cX9_when 5 = .ok (.astore 9, 2) := by decide +kernel
theorem dX9_when_7 : decode cX9_when 7 = .ok (.aload 9, 2) := by decide +kernel
theorem dX9_when_9 : decode cX9_when 9 = .ok (.ifnull 14, 3) := by decide +kernel
theorem dX9_when_12 : decode cX9_when 12 = .ok (.aload_n 0, 1) := by decide +kernel
theorem dX9_when_13 : decode cX9_when 13 = .ok (.getfield 31, 3) := by decide +kernel
theorem dX9_when_16 : decode cX9_when 16 = .ok (.iload_n 3, 1) := by decide +kernel
theorem dX9_when_17 : decode cX9_when 17 = .ok (.invokevirtual 169, 3) := by decide +kernel
theorem dX9_when_20 : decode cX9_when 20 = .ok (.ifCond .ne 5, 3) := by decide +kernel
theorem dX9_when_23 : decode cX9_when 23 = .ok (.iconst (-1), 1) := by decide +kernel
theorem dX9_when_24 : decode cX9_when 24 = .ok (.ireturn, 1) := by decide +kernel
theorem dX9_when_25 : decode cX9_when 25 = .ok (.iload_n 2, 1) := by decide +kernel
theorem dX9_when_26 : decode cX9_when 26 = .ok (.iconst 1, 1) := by decide +kernel
theorem dX9_when_27 : decode cX9_when 27 = .ok (.bipush 40, 2) := by decide +kernel
theorem dX9_when_29 : decode cX9_when 29 = .ok (.invokestatic 74, 3) := by decide +kernel
theorem dX9_when_32 : decode cX9_when 32 = .ok (.ifCond .eq 25, 3) := by decide +kernel
theorem dX9_when_35 : decode cX9_when 35 = .ok (.iload 4, 2) := by decide +kernel
theorem dX9_when_37 : decode cX9_when 37 = .ok (.iconst 1, 1) := by decide +kernel
theorem dX9_when_38 : decode cX9_when 38 = .ok (.bipush 60, 2) := by decide +kernel
theorem dX9_when_40 : decode cX9_when 40 = .ok (.invokestatic 74, 3) := by decide +kernel
theorem dX9_when_43 : decode cX9_when 43 = .ok (.ifCond .eq 14, 3) := by decide +kernel
theorem dX9_when_46 : decode cX9_when 46 = .ok (.iload 5, 2) := by decide +kernel
theorem dX9_when_48 : decode cX9_when 48 = .ok (.iconst 1, 1) := by decide +kernel
theorem dX9_when_49 : decode cX9_when 49 = .ok (.bipush 60, 2) := by decide +kernel
theorem dX9_when_51 : decode cX9_when 51 = .ok (.invokestatic 74, 3) := by decide +kernel
theorem dX9_when_54 : decode cX9_when 54 = .ok (.ifCond .ne 6, 3) := by decide +kernel
theorem dX9_when_57 : decode cX9_when 57 = .ok (.bipush (-2), 2) := by decide +kernel
theorem dX9_when_59 : decode cX9_when 59 = .ok (.ireturn, 1) := by decide +kernel
theorem dX9_when_60 : decode cX9_when 60 = .ok (.iload 6, 2) := by decide +kernel
theorem dX9_when_62 : decode cX9_when 62 = .ok (.iconst 0, 1) := by decide +kernel
theorem dX9_when_63 : decode cX9_when 63 = .ok (.iload 5, 2) := by decide +kernel
theorem dX9_when_65 : decode cX9_when 65 = .ok (.invokestatic 74, 3) := by decide +kernel
theorem dX9_when_68 : decode cX9_when 68 = .ok (.ifCond .eq 27, 3) := by decide +kernel
theorem dX9_when_71 : decode cX9_when 71 = .ok (.iload 7, 2) := by decide +kernel
theorem dX9_when_73 : decode cX9_when 73 = .ok (.iconst 0, 1) := by decide +kernel
theorem dX9_when_74 : decode cX9_when 74 = .ok (.sipush 1000, 3) := by decide +kernel
theorem dX9_when_77 : decode cX9_when 77 = .ok (.invokestatic 74, 3) := by decide +kernel
theorem dX9_when_80 : decode cX9_when 80 = .ok (.ifCond .eq 15, 3) := by decide +kernel
theorem dX9_when_83 : decode cX9_when 83 = .ok (.iload 8, 2) := by decide +kernel
theorem dX9_when_85 : decode cX9_when 85 = .ok (.iconst 0, 1) := by decide +kernel
theorem dX9_when_86 : decode cX9_when 86 = .ok (.sipush 9999, 3) := by decide +kernel
theorem dX9_when_89 : decode cX9_when 89 = .ok (.invokestatic 74, 3) := by decide +kernel
theorem dX9_when_92 : decode cX9_when 92 = .ok (.ifCond .ne 6, 3) := by decide +kernel
theorem dX9_when_95 : decode cX9_when 95 = .ok (.bipush (-2), 2) := by decide +kernel
theorem dX9_when_97 : decode cX9_when 97 = .ok (.ireturn, 1) := by decide +kernel
theorem dX9_when_98 : decode cX9_when 98 = .ok (.aload_n 0, 1) := by decide +kernel
theorem dX9_when_99 : decode cX9_when 99 = .ok (.getfield 24, 3) := by decide +kernel
theorem dX9_when_102 : decode cX9_when 102 = .ok (.getfield 145, 3) := by decide +kernel
theorem dX9_when_105 : decode cX9_when 105 = .ok (.ifCond .eq 13, 3) := by decide +kernel
theorem dX9_when_108 : decode cX9_when 108 = .ok (.aload_n 0, 1) := by decide +kernel
theorem dX9_when_109 : decode cX9_when 109 = .ok (.getfield 31, 3) := by decide +kernel
theorem dX9_when_112 : decode cX9_when 112 = .ok (.invokevirtual 229, 3) := by decide +kernel
theorem dX9_when_115 : decode cX9_when 115 = .ok (.ifCond .ne 6, 3) := by decide +kernel
theorem dX9_when_118 : decode cX9_when 118 = .ok (.bipush (-3), 2) := by decide +kernel
theorem dX9_when_120 : decode cX9_when 120 = .ok (.ireturn, 1) := by decide +kernel
theorem dX9_when_121 : decode cX9_when 121 = .ok (.aload_n 0, 1) := by decide +kernel
theorem dX9_when_122 : decode cX9_when 122 = .ok (.iload_n 3, 1) := by decide +kernel
theorem dX9_when_123 : decode cX9_when 123 = .ok (.iload 7, 2) := by decide +kernel
theorem dX9_when_125 : decode cX9_when 125 = .ok (.invokevirtual 233, 3) := by decide +kernel
theorem dX9_when_128 : decode cX9_when 128 = .ok (.aload 9, 2) := by decide +kernel
theorem dX9_when_130 : decode cX9_when 130 = .ok (.iload_n 2, 1) := by decide +kernel
theorem dX9_when_131 : decode cX9_when 131 = .ok (.invokevirtual 237, 3) := by decide +kernel
theorem dX9_when_134 : decode cX9_when 134 = .ok (.istore 10, 2) := by decide +kernel
theorem dX9_when_136 : decode cX9_when 136 = .ok (.iload 8, 2) := by decide +kernel
theorem dX9_when_138 : decode cX9_when 138 = .ok (.istore 11, 2) := by decide +kernel
theorem dX9_when_140 : decode cX9_when 140 = .ok (.iload 11, 2) := by decide +kernel
theorem dX9_when_142 : decode cX9_when 142 = .ok (.iload 8, 2) := by decide +kernel
theorem dX9_when_144 : decode cX9_when 144 = .ok (.sipush 1000, 3) := by decide +kernel
theorem dX9_when_147 : decode cX9_when 147 = .ok (.iadd, 1) := by decide +kernel
theorem dX9_when_148 : decode cX9_when 148 = .ok (.if_icmp .gt 56, 3) := by decide +kernel
theorem dX9_when_151 : decode cX9_when 151 = .ok (.iload 11, 2) := by decide +kernel
theorem dX9_when_153 : decode cX9_when 153 = .ok (.iload 10, 2) := by decide +kernel
theorem dX9_when_155 : decode cX9_when 155 = .ok (.iadd, 1) := by decide +kernel
theorem dX9_when_156 : decode cX9_when 156 = .ok (.istore 12, 2) := by decide +kernel
theorem dX9_when_158 : decode cX9_when 158 = .ok (.iload 12, 2) := by decide +kernel
