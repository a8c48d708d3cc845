theorem dX9_init_0 : decode cX9_init 0 = .ok (.aload_n 0, 1) := by decide +kernel
theorem dX9_init_1 : decode cX9_init 1 = .ok (.invokespecial 1, 3) := by decide +kernel
theorem dX9_init_4 : decode cX9_init 4 = .ok (.aload_n 0, 1) := by decide +kernel
theorem dX9_init_5 : decode cX9_init 5 = .ok (.bipush 8, 2) := by decide +kernel
theorem dX9_init_7 : decode cX9_init 7 = .ok (.newarray .int, 2) := by decide +kernel
theorem dX9_init_9 : decode cX9_init 9 = .ok (.dup, 1) := by decide +kernel
theorem dX9_init_10 : decode cX9_init 10 = .ok (.iconst 0, 1) := by decide +kernel
theorem dX9_init_11 : decode cX9_init 11 = .ok (.iconst (-1), 1) := by decide +kernel
theorem dX9_init_12 : decode cX9_init 12 = .ok (.iastore, 1) := by decide +kernel
theorem dX9_init_13 : decode cX9_init 13 = .ok (.dup, 1) := by decide +kernel
theorem dX9_init_14 : decode cX9_init 14 = .ok (.iconst 1, 1) := by decide +kernel
theorem dX9_init_15 : decode cX9_init 15 = .ok (.iconst (-1), 1) := by decide +kernel
theorem dX9_init_16 : decode cX9_init 16 = .ok (.iastore, 1) := by decide +kernel
theorem dX9_init_17 : decode cX9_init 17 = .ok (.dup, 1) := by decide +kernel
theorem dX9_init_18 : decode cX9_init 18 = .ok (.iconst 2, 1) := by decide +kernel
theorem dX9_init_19 : decode cX9_init 19 = .ok (.iconst (-1), 1) := by decide +kernel
theorem dX9_init_20 : decode cX9_init 20 = .ok (.iastore, 1) := by decide +kernel
theorem dX9_init_21 : decode cX9_init 21 = .ok (.dup, 1) := by decide +kernel
theorem dX9_init_22 : decode cX9_init 22 = .ok (.iconst 3, 1) := by decide +kernel
theorem dX9_init_23 : decode cX9_init 23 = .ok (.iconst (-1), 1) := by decide +kernel
theorem dX9_init_24 : decode cX9_init 24 = .ok (.iastore, 1) := by decide +kernel
theorem dX9_init_25 : decode cX9_init 25 = .ok (.dup, 1) := by decide +kernel
theorem dX9_init_26 : decode cX9_init 26 = .ok (.iconst 4, 1) := by decide +kernel
theorem dX9_init_27 : decode cX9_init 27 = .ok (.iconst (-1), 1) := by decide +kernel
theorem dX9_init_28 : decode cX9_init 28 = .ok (.iastore, 1) := by decide +kernel
theorem dX9_init_29 : decode cX9_init 29 = .ok (.dup, 1) := by decide +kernel
theorem dX9_init_30 : decode cX9_init 30 = .ok (.iconst 5, 1) := by decide +kernel
theorem dX9_init_31 : decode cX9_init 31 = .ok (.iconst (-1), 1) := by decide +kernel
theorem dX9_init_32 : decode cX9_init 32 = .ok (.iastore, 1) := by decide +kernel
theorem dX9_init_33 : decode cX9_init 33 = .ok (.dup, 1) := by decide +kernel
theorem dX9_init_34 : decode cX9_init 34 = .ok (.bipush 6, 2) := by decide +kernel
theorem dX9_init_36 : decode cX9_init 36 = .ok (.iconst (-1), 1) := by decide +kernel
theorem dX9_init_37 : decode cX9_init 37 = .ok (.iastore, 1) := by decide +kernel
theorem dX9_init_38 : decode cX9_init 38 = .ok (.dup, 1) := by decide +kernel
theorem dX9_init_39 : decode cX9_init 39 = .ok (.bipush 7, 2) := by decide +kernel
theorem dX9_init_41 : decode cX9_init 41 = .ok (.iconst (-1), 1) := by decide +kernel
theorem dX9_init_42 : decode cX9_init 42 = .ok (.iastore, 1) := by decide +kernel
theorem dX9_init_43 : decode cX9_init 43 = .ok (.putfield 7, 3) := by decide +kernel
theorem dX9_init_46 : decode cX9_init 46 = .ok (.aload_n 0, 1) := by decide +kernel
theorem dX9_init_47 : decode cX9_init 47 = .ok (.bipush 8, 2) := by decide +kernel
theorem dX9_init_49 : decode cX9_init 49 = .ok (.newarray .int, 2) := by decide +kernel
theorem dX9_init_51 : decode cX9_init 51 = .ok (.putfield 13, 3) := by decide +kernel
theorem dX9_init_54 : decode cX9_init 54 = .ok (.aload_n 0, 1) := by decide +kernel
theorem dX9_init_55 : decode cX9_init 55 = .ok (.sipush 320, 3) := by decide +kernel
theorem dX9_init_58 : decode cX9_init 58 = .ok (.newarray .int, 2) := by decide +kernel
theorem dX9_init_60 : decode cX9_init 60 = .ok (.putfield 16, 3) := by decide +kernel
theorem dX9_init_63 : decode cX9_init 63 = .ok (.aload_n 0, 1) := by decide +kernel
theorem dX9_init_64 : decode cX9_init 64 = .ok (.bipush 51, 2) := by decide +kernel
theorem dX9_init_66 : decode cX9_init 66 = .ok (.newarray .int, 2) := by decide +kernel
theorem dX9_init_68 : decode cX9_init 68 = .ok (.putfield 19, 3) := by decide +kernel
theorem dX9_init_71 : decode cX9_init 71 = .ok (.aload_n 0, 1) := by decide +kernel
theorem dX9_init_72 : decode cX9_init 72 = .ok (.bipush 51, 2) := by decide +kernel
theorem dX9_init_74 : decode cX9_init 74 = .ok (.newarray .int, 2) := by decide +kernel
theorem dX9_init_76 : decode cX9_init 76 = .ok (.putfield 22, 3) := by decide +kernel
theorem dX9_init_79 : decode cX9_init 79 = .ok (.aload_n 0, 1) := by decide +kernel
theorem dX9_init_80 : decode cX9_init 80 = .ok (.bipush 51, 2) := by decide +kernel
theorem dX9_init_82 : decode cX9_init 82 = .ok (.newarray .int, 2) := by decide +kernel
theorem dX9_init_84 : decode cX9_init 84 = .ok (.putfield 25, 3) := by decide +kernel
theorem dX9_init_87 : decode cX9_init 87 = .ok (.aload_n 0, 1) := by decide +kernel
theorem dX9_init_88 : decode cX9_init 88 = .ok (.sipush 1224, 3) := by decide +kernel
theorem dX9_init_91 : decode cX9_init 91 = .ok (.newarray .int, 2) := by decide +kernel
theorem dX9_init_93 : decode cX9_init 93 = .ok (.putfield 28, 3) := by decide +kernel
theorem dX9_init_96 : decode cX9_init 96 = .ok (.aload_n 0, 1) := by decide +kernel
theorem dX9_init_97 : decode cX9_init 97 = .ok (.bipush 100, 2) := by decide +kernel
theorem dX9_init_99 : decode cX9_init 99 = .ok (.newarray .int, 2) := by decide +kernel
theorem dX9_init_101 : decode cX9_init 101 = .ok (.putfield 31, 3) := by decide +kernel
theorem dX9_init_104 : decode cX9_init 104 = .ok (.aload_n 0, 1) := by decide +kernel
theorem dX9_init_105 : decode cX9_init 105 = .ok (.iconst 2, 1) := by decide +kernel
theorem dX9_init_106 : decode cX9_init 106 = .ok (.newarray .boolean, 2) := by decide +kernel
theorem dX9_init_108 : decode cX9_init 108 = .ok (.putfield 34, 3) := by decide +kernel
theorem dX9_init_111 : decode cX9_init 111 = .ok (.aload_n 0, 1) := by decide +kernel
theorem dX9_init_112 : decode cX9_init 112 = .ok (.bipush 102, 2) := by decide +kernel
theorem dX9_init_114 : decode cX9_init 114 = .ok (.newarray .int, 2) := by decide +kernel
theorem dX9_init_116 : decode cX9_init 116 = .ok (.putfield 38, 3) := by decide +kernel
theorem dX9_init_119 : decode cX9_init 119 = .ok (.aload_n 0, 1) := by decide +kernel
theorem dX9_init_120 : decode cX9_init 120 = .ok (.bipush 16, 2) := by decide +kernel
theorem dX9_init_122 : decode cX9_init 122 = .ok (.newarray .int, 2) := by decide +kernel
theorem dX9_init_124 : decode cX9_init 124 = .ok (.putfield 41, 3) := by decide +kernel
theorem dX9_init_127 : decode cX9_init 127 = .ok (.return_, 1) := by decide +kernel
theorem dX9_in_0 : decode cX9_in 0 = .ok (.lload_n 0, 1) := by decide +kernel
theorem dX9_in_1 : decode cX9_in 1 = .ok (.lload_n 2, 1) := by decide +kernel
theorem dX9_in_2 : decode cX9_in 2 = .ok (.lcmp, 1) := by decide +kernel
theorem dX9_in_3 : decode cX9_in 3 = .ok (.ifCond .lt 14, 3) := by decide +kernel
theorem dX9_in_6 : decode cX9_in 6 = .ok (.lload_n 0, 1) := by decide +kernel
theorem dX9_in_7 : decode cX9_in 7 = .ok (.lload 4, 2) := by decide +kernel
theorem dX9_in_9 : decode cX9_in 9 = .ok (.lcmp, 1) := by decide +kernel
theorem dX9_in_10 : decode cX9_in 10 = .ok (.ifCond .gt 7, 3) := by decide +kernel
theorem dX9_in_13 : decode cX9_in 13 = .ok (.iconst 1, 1) := by decide +kernel
theorem dX9_in_14 : decode cX9_in 14 = .ok (.goto 4, 3) := by decide +kernel
theorem dX9_in_17 : decode cX9_in 17 = .ok (.iconst 0, 1) := by decide +kernel
theorem dX9_in_18 : decode cX9_in 18 = .ok (.ireturn, 1) := by decide +kernel
theorem dX9_finding_0 : decode cX9_finding 0 = .ok (.aload_n 0, 1) := by decide +kernel
theorem dX9_finding_1 : decode cX9_finding 1 = .ok (.iload_n 1, 1) := by decide +kernel
theorem dX9_finding_2 : decode cX9_finding 2 = .ok (.putfield 48, 3) := by decide +kernel
theorem dX9_finding_5 : decode cX9_finding 5 = .ok (.ldc 51, 2) := by decide +kernel
theorem dX9_finding_7 : decode cX9_finding 7 = .ok (.iload_n 1, 1) := by decide +kernel
theorem dX9_finding_8 : decode cX9_finding 8 = .ok (.isub, 1) := by decide +kernel
theorem dX9_finding_9 : decode cX9_finding 9 = .ok (.ireturn, 1) := by decide +kernel
set_option maxRecDepth 20000 in
theorem ggX9_isRow_X9_in : GoodIn wsX9_isRow wsX9_in := goodIn_r _ [5] (by decide +kernel) (by decide +kernel)
set_option maxRecDepth 20000 in
theorem gX9_isRow_X9_in : GoodIn wsX9_isRow (va_wsS RX9 54 yX9_in wsX9_in) := goodIn_app (goodIn_of _ (by decide +kernel)) ggX9_isRow_X9_in
theorem dX9_isRow_0 : decode cX9_isRow 0 = .ok (.iload_n 0, 1) := by decide +kernel
theorem dX9_isRow_1 : decode cX9_isRow 1 = .ok (.i2l, 1) := by decide +kernel
theorem dX9_isRow_2 : decode cX9_isRow 2 = .ok (.lconst 0, 1) := by decide +kernel
theorem dX9_isRow_3 : decode cX9_isRow 3 = .ok (.ldc2_w 52, 3) := by decide +kernel
theorem dX9_isRow_6 : decode cX9_isRow 6 = .ok (.invokestatic 54, 3) := by decide +kernel
theorem dX9_isRow_9 : decode cX9_isRow 9 = .ok (.ireturn, 1) := by decide +kernel
set_option maxRecDepth 20000 in
theorem ggX9_row_X9_isRow : GoodIn wsX9_row wsX9_isRow := goodIn_r _ [11, 12, 13, 14, 10, 15] (by decide +kernel) (by decide +kernel)
set_option maxRecDepth 20000 in
theorem gX9_row_X9_isRow : GoodIn wsX9_row (va_wsS RX9 58 yX9_isRow wsX9_isRow) := goodIn_app (goodIn_of _ (by decide +kernel)) ggX9_row_X9_isRow
set_option maxRecDepth 20000 in
theorem ggX9_row_X9_in : GoodIn wsX9_row wsX9_in := goodIn_r _ [15] (by decide +kernel) (by decide +kernel)
set_option maxRecDepth 20000 in
theorem gX9_row_X9_in : GoodIn wsX9_row (va_wsS RX9 54 yX9_in wsX9_in) := goodIn_app (goodIn_of _ (by decide +kernel)) ggX9_row_X9_in
set_option maxRecDepth 20000 in
theorem ggX9_row_X9_finding : GoodIn wsX9_row wsX9_finding := goodIn_r _ [19, 4, 20, 21, 22, 23, 24, 25, 26, 27, 28, 29, 30, 31, 32, 33, 34, 35, 36, 37, 38, 39, 40, 41, 42, 43] (by decide +kernel) (by decide +kernel)
set_option maxRecDepth 20000 in
theorem gX9_row_X9_finding : GoodIn wsX9_row (wsV RX9 65 RX9 yX9_finding wsX9_finding) := goodIn_app (goodIn_of _ (by decide +kernel)) ggX9_row_X9_finding
theorem dX9_row_0 : decode cX9_row 0 = .ok (.aload_n 0, 1) := by decide +kernel
theorem dX9_row_1 : decode cX9_row 1 = .ok (.iconst 0, 1) := by decide +kernel
theorem dX9_row_2 : decode cX9_row 2 = .ok (.putfield 44, 3) := by decide +kernel
theorem dX9_row_5 : decode cX9_row 5 = .ok (.iload_n 1, 1) := by decide +kernel
theorem dX9_row_6 : decode cX9_row 6 = .ok (.invokestatic 58, 3) := by decide +kernel
theorem dX9_row_9 : decode cX9_row 9 = .ok (.ifCond .eq 21, 3) := by decide +kernel
theorem dX9_row_12 : decode cX9_row 12 = .ok (.iload_n 2, 1) := by decide +kernel
theorem dX9_row_13 : decode cX9_row 13 = .ok (.i2l, 1) := by decide +kernel
theorem dX9_row_14 : decode cX9_row 14 = .ok (.lconst 0, 1) := by decide +kernel
theorem dX9_row_15 : decode cX9_row 15 = .ok (.ldc2_w 62, 3) := by decide +kernel
theorem dX9_row_18 : decode cX9_row 18 = .ok (.invokestatic 54, 3) := by decide +kernel
theorem dX9_row_21 : decode cX9_row 21 = .ok (.ifCond .eq 9, 3) := by decide +kernel
theorem dX9_row_24 : decode cX9_row 24 = .ok (.iload_n 3, 1) := by decide +kernel
theorem dX9_row_25 : decode cX9_row 25 = .ok (.bipush 40, 2) := by decide +kernel
theorem dX9_row_27 : decode cX9_row 27 = .ok (.if_icmp .le 6, 3) := by decide +kernel
theorem dX9_row_30 : decode cX9_row 30 = .ok (.ldc 64, 2) := by decide +kernel
theorem dX9_row_32 : decode cX9_row 32 = .ok (.ireturn, 1) := by decide +kernel
theorem dX9_row_33 : decode cX9_row 33 = .ok (.aload_n 0, 1) := by decide +kernel
theorem dX9_row_34 : decode cX9_row 34 = .ok (.iconst 0, 1) := by decide +kernel
theorem dX9_row_35 : decode cX9_row 35 = .ok (.putfield 48, 3) := by decide +kernel
theorem dX9_row_38 : decode cX9_row 38 = .ok (.iload_n 3, 1) := by decide +kernel
theorem dX9_row_39 : decode cX9_row 39 = .ok (.ifCond .ge 9, 3) := by decide +kernel
theorem dX9_row_42 : decode cX9_row 42 = .ok (.aload_n 0, 1) := by decide +kernel
theorem dX9_row_43 : decode cX9_row 43 = .ok (.iconst 4, 1) := by decide +kernel
theorem dX9_row_44 : decode cX9_row 44 = .ok (.invokevirtual 65, 3) := by decide +kernel
theorem dX9_row_47 : decode cX9_row 47 = .ok (.ireturn, 1) := by decide +kernel
theorem dX9_row_48 : decode cX9_row 48 = .ok (.aload_n 0, 1) := by decide +kernel
theorem dX9_row_49 : decode cX9_row 49 = .ok (.getfield 7, 3) := by decide +kernel
theorem dX9_row_52 : decode cX9_row 52 = .ok (.iload_n 1, 1) := by decide +kernel
theorem dX9_row_53 : decode cX9_row 53 = .ok (.iload_n 2, 1) := by decide +kernel
theorem dX9_row_54 : decode cX9_row 54 = .ok (.iastore, 1) := by decide +kernel
theorem dX9_row_55 : decode cX9_row 55 = .ok (.aload_n 0, 1) := by decide +kernel
theorem dX9_row_56 : decode cX9_row 56 = .ok (.getfield 13, 3) := by decide +kernel
theorem dX9_row_59 : decode cX9_row 59 = .ok (.iload_n 1, 1) := by decide +kernel
theorem dX9_row_60 : decode cX9_row 60 = .ok (.iload_n 3, 1) := by decide +kernel
theorem dX9_row_61 : decode cX9_row 61 = .ok (.iastore, 1) := by decide +kernel
theorem dX9_row_62 : decode cX9_row 62 = .ok (.iconst 0, 1) := by decide +kernel
theorem dX9_row_63 : decode cX9_row 63 = .ok (.istore 4, 2) := by decide +kernel
theorem dX9_row_65 : decode cX9_row 65 = .ok (.iload 4, 2) := by decide +kernel
theorem dX9_row_67 : decode cX9_row 67 = .ok (.bipush 40, 2) := by decide +kernel
theorem dX9_row_69 : decode cX9_row 69 = .ok (.if_icmp .ge 22, 3) := by decide +kernel
theorem dX9_row_72 : decode cX9_row 72 = .ok (.aload_n 0, 1) := by decide +kernel
theorem dX9_row_73 : decode cX9_row 73 = .ok (.getfield 16, 3) := by decide +kernel
theorem dX9_row_76 : decode cX9_row 76 = .ok (.bipush 40, 2) := by decide +kernel
theorem dX9_row_78 : decode cX9_row 78 = .ok (.iload_n 1, 1) := by decide +kernel
theorem dX9_row_79 : decode cX9_row 79 = .ok (.imul, 1) := by decide +kernel
theorem dX9_row_80 : decode cX9_row 80 = .ok (.iload 4, 2) := by decide +kernel
theorem dX9_row_82 : decode cX9_row 82 = .ok (.iadd, 1) := by decide +kernel
theorem dX9_row_83 : decode cX9_row 83 = .ok (.iconst 0, 1) := by decide +kernel
theorem dX9_row_84 : decode cX9_row 84 = .ok (.iastore, 1) := by decide +kernel
theorem dX9_row_85 : decode cX9_row 85 = .ok (.iinc 4 1, 3) := by decide +kernel
theorem dX9_row_88 : decode cX9_row 88 = .ok (.goto (-23), 3) := by decide +kernel
theorem dX9_row_91 : decode cX9_row 91 = .ok (.iload_n 3, 1) := by decide +kernel
theorem dX9_row_92 : decode cX9_row 92 = .ok (.ireturn, 1) := by decide +kernel
set_option maxRecDepth 20000 in
theorem ggX9_set_X9_isRow : GoodIn wsX9_set wsX9_isRow := goodIn_r _ [10, 11, 12, 13, 9, 14] (by decide +kernel) (by decide +kernel)
set_option maxRecDepth 20000 in
theorem gX9_set_X9_isRow : GoodIn wsX9_set (va_wsS RX9 58 yX9_isRow wsX9_isRow) := goodIn_app (goodIn_of _ (by decide +kernel)) ggX9_set_X9_isRow
set_option maxRecDepth 20000 in
theorem ggX9_set_X9_finding : GoodIn wsX9_set wsX9_finding := goodIn_r _ [18, 3, 19, 20, 21, 22, 23, 24, 25, 26, 27, 28, 29, 30, 31, 32, 33, 34, 35, 36, 37, 38, 39, 40, 41, 42] (by decide +kernel) (by decide +kernel)
set_option maxRecDepth 20000 in
theorem gX9_set_X9_finding : GoodIn wsX9_set (wsV RX9 65 RX9 yX9_finding wsX9_finding) := goodIn_app (goodIn_of _ (by decide +kernel)) ggX9_set_X9_finding
set_option maxRecDepth 20000 in
theorem ggX9_set_X9_in : GoodIn wsX9_set wsX9_in := goodIn_r _ [14] (by decide +kernel) (by decide +kernel)
set_option maxRecDepth 20000 in
theorem gX9_set_X9_in : GoodIn wsX9_set (va_wsS RX9 54 yX9_in wsX9_in) := goodIn_app (goodIn_of _ (by decide +kernel)) ggX9_set_X9_in
theorem dX9_set_0 : decode cX9_set 0 = .ok (.aload_n 0, 1) := by decide +kernel
theorem dX9_set_1 : decode cX9_set 1 = .ok (.iconst 0, 1) := by decide +kernel
theorem dX9_set_2 : decode cX9_set 2 = .ok (.putfield 44, 3) := by decide +kernel
theorem dX9_set_5 : decode cX9_set 5 = .ok (.iload_n 1, 1) := by decide +kernel
theorem dX9_set_6 : decode cX9_set 6 = .ok (.invokestatic 58, 3) := by decide +kernel
theorem dX9_set_9 : decode cX9_set 9 = .ok (.ifCond .ne 6, 3) := by decide +kernel
theorem dX9_set_12 : decode cX9_set 12 = .ok (.ldc 64, 2) := by decide +kernel
theorem dX9_set_14 : decode cX9_set 14 = .ok (.ireturn, 1) := by decide +kernel
theorem dX9_set_15 : decode cX9_set 15 = .ok (.aload_n 0, 1) := by decide +kernel
theorem dX9_set_16 : decode cX9_set 16 = .ok (.iconst 0, 1) := by decide +kernel
theorem dX9_set_17 : decode cX9_set 17 = .ok (.putfield 48, 3) := by decide +kernel
theorem dX9_set_20 : decode cX9_set 20 = .ok (.aload_n 0, 1) := by decide +kernel
theorem dX9_set_21 : decode cX9_set 21 = .ok (.getfield 7, 3) := by decide +kernel
theorem dX9_set_24 : decode cX9_set 24 = .ok (.iload_n 1, 1) := by decide +kernel
theorem dX9_set_25 : decode cX9_set 25 = .ok (.iaload, 1) := by decide +kernel
theorem dX9_set_26 : decode cX9_set 26 = .ok (.ifCond .ge 9, 3) := by decide +kernel
theorem dX9_set_29 : decode cX9_set 29 = .ok (.aload_n 0, 1) := by decide +kernel
theorem dX9_set_30 : decode cX9_set 30 = .ok (.iconst 1, 1) := by decide +kernel
theorem dX9_set_31 : decode cX9_set 31 = .ok (.invokevirtual 65, 3) := by decide +kernel
theorem dX9_set_34 : decode cX9_set 34 = .ok (.ireturn, 1) := by decide +kernel
theorem dX9_set_35 : decode cX9_set 35 = .ok (.iload_n 2, 1) := by decide +kernel
theorem dX9_set_36 : decode cX9_set 36 = .ok (.i2l, 1) := by decide +kernel
theorem dX9_set_37 : decode cX9_set 37 = .ok (.lconst 0, 1) := by decide +kernel
theorem dX9_set_38 : decode cX9_set 38 = .ok (.aload_n 0, 1) := by decide +kernel
theorem dX9_set_39 : decode cX9_set 39 = .ok (.getfield 13, 3) := by decide +kernel
theorem dX9_set_42 : decode cX9_set 42 = .ok (.iload_n 1, 1) := by decide +kernel
theorem dX9_set_43 : decode cX9_set 43 = .ok (.iaload, 1) := by decide +kernel
theorem dX9_set_44 : decode cX9_set 44 = .ok (.iconst 1, 1) := by decide +kernel
theorem dX9_set_45 : decode cX9_set 45 = .ok (.isub, 1) := by decide +kernel
theorem dX9_set_46 : decode cX9_set 46 = .ok (.i2l, 1) := by decide +kernel
theorem dX9_set_47 : decode cX9_set 47 = .ok (.invokestatic 54, 3) := by decide +kernel
theorem dX9_set_50 : decode cX9_set 50 = .ok (.ifCond .ne 9, 3) := by decide +kernel
theorem dX9_set_53 : decode cX9_set 53 = .ok (.aload_n 0, 1) := by decide +kernel
theorem dX9_set_54 : decode cX9_set 54 = .ok (.iconst 2, 1) := by decide +kernel
theorem dX9_set_55 : decode cX9_set 55 = .ok (.invokevirtual 65, 3) := by decide +kernel
theorem dX9_set_58 : decode cX9_set 58 = .ok (.ireturn, 1) := by decide +kernel
theorem dX9_set_59 : decode cX9_set 59 = .ok (.aload_n 0, 1) := by decide +kernel
theorem dX9_set_60 : decode cX9_set 60 = .ok (.getfield 16, 3) := by decide +kernel
theorem dX9_set_63 : decode cX9_set 63 = .ok (.bipush 40, 2) := by decide +kernel
theorem dX9_set_65 : decode cX9_set 65 = .ok (.iload_n 1, 1) := by decide +kernel
theorem dX9_set_66 : decode cX9_set 66 = .ok (.imul, 1) := by decide +kernel
theorem dX9_set_67 : decode cX9_set 67 = .ok (.iload_n 2, 1) := by decide +kernel
theorem dX9_set_68 : decode cX9_set 68 = .ok (.iadd, 1) := by decide +kernel
theorem dX9_set_69 : decode cX9_set 69 = .ok (.aload_n 0, 1) := by decide +kernel
theorem dX9_set_70 : decode cX9_set 70 = .ok (.getfield 7, 3) := by decide +kernel
theorem dX9_set_73 : decode cX9_set 73 = .ok (.iload_n 1, 1) := by decide +kernel
theorem dX9_set_74 : decode cX9_set 74 = .ok (.iaload, 1) := by decide +kernel
theorem dX9_set_75 : decode cX9_set 75 = .ok (.ifCond .ne 8, 3) := by decide +kernel
theorem dX9_set_78 : decode cX9_set 78 = .ok (.iload_n 3, 1) := by decide +kernel
theorem dX9_set_79 : decode cX9_set 79 = .ok (.i2b, 1) := by decide +kernel
theorem dX9_set_80 : decode cX9_set 80 = .ok (.goto 19, 3) := by decide +kernel
theorem dX9_set_83 : decode cX9_set 83 = .ok (.aload_n 0, 1) := by decide +kernel
theorem dX9_set_84 : decode cX9_set 84 = .ok (.getfield 7, 3) := by decide +kernel
theorem dX9_set_87 : decode cX9_set 87 = .ok (.iload_n 1, 1) := by decide +kernel
theorem dX9_set_88 : decode cX9_set 88 = .ok (.iaload, 1) := by decide +kernel
theorem dX9_set_89 : decode cX9_set 89 = .ok (.iconst 1, 1) := by decide +kernel
theorem dX9_set_90 : decode cX9_set 90 = .ok (.if_icmp .ne 8, 3) := by decide +kernel
theorem dX9_set_93 : decode cX9_set 93 = .ok (.iload_n 3, 1) := by decide +kernel
theorem dX9_set_94 : decode cX9_set 94 = .ok (.i2s, 1) := by decide +kernel
theorem dX9_set_95 : decode cX9_set 95 = .ok (.goto 4, 3) := by decide +kernel
theorem dX9_set_98 : decode cX9_set 98 = .ok (.iload_n 3, 1) := by decide +kernel
theorem dX9_set_99 : decode cX9_set 99 = .ok (.iastore, 1) := by decide +kernel
theorem dX9_set_100 : decode cX9_set 100 = .ok (.aload_n 0, 1) := by decide +kernel
theorem dX9_set_101 : decode cX9_set 101 = .ok (.getfield 16, 3) := by decide +kernel
theorem dX9_set_104 : decode cX9_set 104 = .ok (.bipush 40, 2) := by decide +kernel
theorem dX9_set_106 : decode cX9_set 106 = .ok (.iload_n 1, 1) := by decide +kernel
theorem dX9_set_107 : decode cX9_set 107 = .ok (.imul, 1) := by decide +kernel
theorem dX9_set_108 : decode cX9_set 108 = .ok (.iload_n 2, 1) := by decide +kernel
theorem dX9_set_109 : decode cX9_set 109 = .ok (.iadd, 1) := by decide +kernel
theorem dX9_set_110 : decode cX9_set 110 = .ok (.iaload, 1) := by decide +kernel
theorem dX9_set_111 : decode cX9_set 111 = .ok (.ireturn, 1) := by decide +kernel
set_option maxRecDepth 20000 in
theorem ggX9_copy_X9_isRow : GoodIn wsX9_copy wsX9_isRow := goodIn_r _ [10, 11, 12, 13, 9, 14] (by decide +kernel) (by decide +kernel)
set_option maxRecDepth 20000 in
theorem gX9_copy_X9_isRow : GoodIn wsX9_copy (va_wsS RX9 58 yX9_isRow wsX9_isRow) := goodIn_app (goodIn_of _ (by decide +kernel)) ggX9_copy_X9_isRow
set_option maxRecDepth 20000 in
theorem ggX9_copy_X9_finding : GoodIn wsX9_copy wsX9_finding := goodIn_r _ [18, 3, 19, 20, 21, 22, 23, 24, 25, 26, 27, 28, 29, 30, 31, 32, 33, 34, 35, 36, 37, 38, 39, 40, 41, 42] (by decide +kernel) (by decide +kernel)
set_option maxRecDepth 20000 in
theorem gX9_copy_X9_finding : GoodIn wsX9_copy (wsV RX9 65 RX9 yX9_finding wsX9_finding) := goodIn_app (goodIn_of _ (by decide +kernel)) ggX9_copy_X9_finding
theorem dX9_copy_0 : decode cX9_copy 0 = .ok (.aload_n 0, 1) := by decide +kernel
theorem dX9_copy_1 : decode cX9_copy 1 = .ok (.iconst 0, 1) := by decide +kernel
theorem dX9_copy_2 : decode cX9_copy 2 = .ok (.putfield 44, 3) := by decide +kernel
theorem dX9_copy_5 : decode cX9_copy 5 = .ok (.iload_n 1, 1) := by decide +kernel
theorem dX9_copy_6 : decode cX9_copy 6 = .ok (.invokestatic 58, 3) := by decide +kernel
theorem dX9_copy_9 : decode cX9_copy 9 = .ok (.ifCond .eq 10, 3) := by decide +kernel
theorem dX9_copy_12 : decode cX9_copy 12 = .ok (.iload_n 3, 1) := by decide +kernel
theorem dX9_copy_13 : decode cX9_copy 13 = .ok (.invokestatic 58, 3) := by decide +kernel
theorem dX9_copy_16 : decode cX9_copy 16 = .ok (.ifCond .ne 6, 3) := by decide +kernel
theorem dX9_copy_19 : decode cX9_copy 19 = .ok (.ldc 64, 2) := by decide +kernel
theorem dX9_copy_21 : decode cX9_copy 21 = .ok (.ireturn, 1) := by decide +kernel
theorem dX9_copy_22 : decode cX9_copy 22 = .ok (.aload_n 0, 1) := by decide +kernel
theorem dX9_copy_23 : decode cX9_copy 23 = .ok (.iconst 0, 1) := by decide +kernel
theorem dX9_copy_24 : decode cX9_copy 24 = .ok (.putfield 48, 3) := by decide +kernel
theorem dX9_copy_27 : decode cX9_copy 27 = .ok (.aload_n 0, 1) := by decide +kernel
theorem dX9_copy_28 : decode cX9_copy 28 = .ok (.getfield 7, 3) := by decide +kernel
theorem dX9_copy_31 : decode cX9_copy 31 = .ok (.iload_n 1, 1) := by decide +kernel
theorem dX9_copy_32 : decode cX9_copy 32 = .ok (.iaload, 1) := by decide +kernel
theorem dX9_copy_33 : decode cX9_copy 33 = .ok (.ifCond .lt 12, 3) := by decide +kernel
theorem dX9_copy_36 : decode cX9_copy 36 = .ok (.aload_n 0, 1) := by decide +kernel
theorem dX9_copy_37 : decode cX9_copy 37 = .ok (.getfield 7, 3) := by decide +kernel
theorem dX9_copy_40 : decode cX9_copy 40 = .ok (.iload_n 3, 1) := by decide +kernel
theorem dX9_copy_41 : decode cX9_copy 41 = .ok (.iaload, 1) := by decide +kernel
theorem dX9_copy_42 : decode cX9_copy 42 = .ok (.ifCond .ge 9, 3) := by decide +kernel
theorem dX9_copy_45 : decode cX9_copy 45 = .ok (.aload_n 0, 1) := by decide +kernel
theorem dX9_copy_46 : decode cX9_copy 46 = .ok (.iconst 1, 1) := by decide +kernel
theorem dX9_copy_47 : decode cX9_copy 47 = .ok (.invokevirtual 65, 3) := by decide +kernel
theorem dX9_copy_50 : decode cX9_copy 50 = .ok (.ireturn, 1) := by decide +kernel
theorem dX9_copy_51 : decode cX9_copy 51 = .ok (.aload_n 0, 1) := by decide +kernel
theorem dX9_copy_52 : decode cX9_copy 52 = .ok (.getfield 7, 3) := by decide +kernel
theorem dX9_copy_55 : decode cX9_copy 55 = .ok (.iload_n 1, 1) := by decide +kernel
theorem dX9_copy_56 : decode cX9_copy 56 = .ok (.iaload, 1) := by decide +kernel
theorem dX9_copy_57 : decode cX9_copy 57 = .ok (.aload_n 0, 1) := by decide +kernel
theorem dX9_copy_58 : decode cX9_copy 58 = .ok (.getfield 7, 3) := by decide +kernel
theorem dX9_copy_61 : decode cX9_copy 61 = .ok (.iload_n 3, 1) := by decide +kernel
theorem dX9_copy_62 : decode cX9_copy 62 = .ok (.iaload, 1) := by decide +kernel
theorem dX9_copy_63 : decode cX9_copy 63 = .ok (.if_icmp .eq 9, 3) := by decide +kernel
theorem dX9_copy_66 : decode cX9_copy 66 = .ok (.aload_n 0, 1) := by decide +kernel
theorem dX9_copy_67 : decode cX9_copy 67 = .ok (.iconst 5, 1) := by decide +kernel
theorem dX9_copy_68 : decode cX9_copy 68 = .ok (.invokevirtual 65, 3) := by decide +kernel
theorem dX9_copy_71 : decode cX9_copy 71 = .ok (.ireturn, 1) := by decide +kernel
theorem dX9_copy_72 : decode cX9_copy 72 = .ok (.iload_n 2, 1) := by decide +kernel
theorem dX9_copy_73 : decode cX9_copy 73 = .ok (.ifCond .lt 48, 3) := by decide +kernel
theorem dX9_copy_76 : decode cX9_copy 76 = .ok (.iload 4, 2) := by decide +kernel
theorem dX9_copy_78 : decode cX9_copy 78 = .ok (.ifCond .lt 43, 3) := by decide +kernel
theorem dX9_copy_81 : decode cX9_copy 81 = .ok (.iload 5, 2) := by decide +kernel
theorem dX9_copy_83 : decode cX9_copy 83 = .ok (.ifCond .lt 38, 3) := by decide +kernel
theorem dX9_copy_86 : decode cX9_copy 86 = .ok (.iload_n 2, 1) := by decide +kernel
theorem dX9_copy_87 : decode cX9_copy 87 = .ok (.i2l, 1) := by decide +kernel
theorem dX9_copy_88 : decode cX9_copy 88 = .ok (.iload 5, 2) := by decide +kernel
theorem dX9_copy_90 : decode cX9_copy 90 = .ok (.i2l, 1) := by decide +kernel
theorem dX9_copy_91 : decode cX9_copy 91 = .ok (.ladd, 1) := by decide +kernel
theorem dX9_copy_92 : decode cX9_copy 92 = .ok (.aload_n 0, 1) := by decide +kernel
theorem dX9_copy_93 : decode cX9_copy 93 = .ok (.getfield 13, 3) := by decide +kernel
theorem dX9_copy_96 : decode cX9_copy 96 = .ok (.iload_n 1, 1) := by decide +kernel
theorem dX9_copy_97 : decode cX9_copy 97 = .ok (.iaload, 1) := by decide +kernel
theorem dX9_copy_98 : decode cX9_copy 98 = .ok (.i2l, 1) := by decide +kernel
theorem dX9_copy_99 : decode cX9_copy 99 = .ok (.lcmp, 1) := by decide +kernel
theorem dX9_copy_100 : decode cX9_copy 100 = .ok (.ifCond .gt 21, 3) := by decide +kernel
theorem dX9_copy_103 : decode cX9_copy 103 = .ok (.iload 4, 2) := by decide +kernel
theorem dX9_copy_105 : decode cX9_copy 105 = .ok (.i2l, 1) := by decide +kernel
theorem dX9_copy_106 : decode cX9_copy 106 = .ok (.iload 5, 2) := by decide +kernel
theorem dX9_copy_108 : decode cX9_copy 108 = .ok (.i2l, 1) := by decide +kernel
theorem dX9_copy_109 : decode cX9_copy 109 = .ok (.ladd, 1) := by decide +kernel
theorem dX9_copy_110 : decode cX9_copy 110 = .ok (.aload_n 0, 1) := by decide +kernel
theorem dX9_copy_111 : decode cX9_copy 111 = .ok (.getfield 13, 3) := by decide +kernel
theorem dX9_copy_114 : decode cX9_copy 114 = .ok (.iload_n 3, 1) := by decide +kernel
theorem dX9_copy_115 : decode cX9_copy 115 = .ok (.iaload, 1) := by decide +kernel
theorem dX9_copy_116 : decode cX9_copy 116 = .ok (.i2l, 1) := by decide +kernel
theorem dX9_copy_117 : decode cX9_copy 117 = .ok (.lcmp, 1) := by decide +kernel
theorem dX9_copy_118 : decode cX9_copy 118 = .ok (.ifCond .le 9, 3) := by decide +kernel
theorem dX9_copy_121 : decode cX9_copy 121 = .ok (.aload_n 0, 1) := by decide +kernel
theorem dX9_copy_122 : decode cX9_copy 122 = .ok (.iconst 2, 1) := by decide +kernel
theorem dX9_copy_123 : decode cX9_copy 123 = .ok (.invokevirtual 65, 3) := by decide +kernel
theorem dX9_copy_126 : decode cX9_copy 126 = .ok (.ireturn, 1) := by decide +kernel
theorem dX9_copy_127 : decode cX9_copy 127 = .ok (.iload_n 2, 1) := by decide +kernel
theorem dX9_copy_128 : decode cX9_copy 128 = .ok (.iload 4, 2) := by decide +kernel
theorem dX9_copy_130 : decode cX9_copy 130 = .ok (.if_icmp .lt 7, 3) := by decide +kernel
theorem dX9_copy_133 : decode cX9_copy 133 = .ok (.iconst 1, 1) := by decide +kernel
theorem dX9_copy_134 : decode cX9_copy 134 = .ok (.goto 4, 3) := by decide +kernel
theorem dX9_copy_137 : decode cX9_copy 137 = .ok (.iconst 0, 1) := by decide +kernel
theorem dX9_copy_138 : decode cX9_copy 138 = .ok (.istore 6, 2) := by decide +kernel
theorem dX9_copy_140 : decode cX9_copy 140 = .ok (.iconst 0, 1) := by decide +kernel
theorem dX9_copy_141 : decode cX9_copy 141 = .ok (.istore 7, 2) := by decide +kernel
theorem dX9_copy_143 : decode cX9_copy 143 = .ok (.iload 7, 2) := by decide +kernel
theorem dX9_copy_145 : decode cX9_copy 145 = .ok (.iload 5, 2) := by decide +kernel
theorem dX9_copy_147 : decode cX9_copy 147 = .ok (.if_icmp .ge 57, 3) := by decide +kernel
theorem dX9_copy_150 : decode cX9_copy 150 = .ok (.iload 6, 2) := by decide +kernel
theorem dX9_copy_152 : decode cX9_copy 152 = .ok (.ifCond .eq 8, 3) := by decide +kernel
theorem dX9_copy_155 : decode cX9_copy 155 = .ok (.iload 7, 2) := by decide +kernel
theorem dX9_copy_157 : decode cX9_copy 157 = .ok (.goto 10, 3) := by decide +kernel
theorem dX9_copy_160 : decode cX9_copy 160 = .ok (.iload 5, 2) := by decide +kernel
theorem dX9_copy_162 : decode cX9_copy 162 = .ok (.iconst 1, 1) := by decide +kernel
theorem dX9_copy_163 : decode cX9_copy 163 = .ok (.isub, 1) := by decide +kernel
theorem dX9_copy_164 : decode cX9_copy 164 = .ok (.iload 7, 2) := by decide +kernel
theorem dX9_copy_166 : decode cX9_copy 166 = .ok (.isub, 1) := by decide +kernel
theorem dX9_copy_167 : decode cX9_copy 167 = .ok (.istore 8, 2) := by decide +kernel
theorem dX9_copy_169 : decode cX9_copy 169 = .ok (.aload_n 0, 1) := by decide +kernel
theorem dX9_copy_170 : decode cX9_copy 170 = .ok (.getfield 16, 3) := by decide +kernel
theorem dX9_copy_173 : decode cX9_copy 173 = .ok (.bipush 40, 2) := by decide +kernel
theorem dX9_copy_175 : decode cX9_copy 175 = .ok (.iload_n 3, 1) := by decide +kernel
theorem dX9_copy_176 : decode cX9_copy 176 = .ok (.imul, 1) := by decide +kernel
theorem dX9_copy_177 : decode cX9_copy 177 = .ok (.iload 4, 2) := by decide +kernel
theorem dX9_copy_179 : decode cX9_copy 179 = .ok (.iadd, 1) := by decide +kernel
theorem dX9_copy_180 : decode cX9_copy 180 = .ok (.iload 8, 2) := by decide +kernel
theorem dX9_copy_182 : decode cX9_copy 182 = .ok (.iadd, 1) := by decide +kernel
theorem dX9_copy_183 : decode cX9_copy 183 = .ok (.aload_n 0, 1) := by decide +kernel
theorem dX9_copy_184 : decode cX9_copy 184 = .ok (.getfield 16, 3) := by decide +kernel
theorem dX9_copy_187 : decode cX9_copy 187 = .ok (.bipush 40, 2) := by decide +kernel
theorem dX9_copy_189 : decode cX9_copy 189 = .ok (.iload_n 1, 1) := by decide +kernel
theorem dX9_copy_190 : decode cX9_copy 190 = .ok (.imul, 1) := by decide +kernel
theorem dX9_copy_191 : decode cX9_copy 191 = .ok (.iload_n 2, 1) := by decide +kernel
theorem dX9_copy_192 : decode cX9_copy 192 = .ok (.iadd, 1) := by decide +kernel
theorem dX9_copy_193 : decode cX9_copy 193 = .ok (.iload 8, 2) := by decide +kernel
theorem dX9_copy_195 : decode cX9_copy 195 = .ok (.iadd, 1) := by decide +kernel
theorem dX9_copy_196 : decode cX9_copy 196 = .ok (.iaload, 1) := by decide +kernel
theorem dX9_copy_197 : decode cX9_copy 197 = .ok (.iastore, 1) := by decide +kernel
theorem dX9_copy_198 : decode cX9_copy 198 = .ok (.iinc 7 1, 3) := by decide +kernel
theorem dX9_copy_201 : decode cX9_copy 201 = .ok (.goto (-58), 3) := by decide +kernel
theorem dX9_copy_204 : decode cX9_copy 204 = .ok (.iload 5, 2) := by decide +kernel
theorem dX9_copy_206 : decode cX9_copy 206 = .ok (.ireturn, 1) := by decide +kernel
set_option maxRecDepth 20000 in
theorem ggX9_drop_X9_isRow : GoodIn wsX9_drop wsX9_isRow := goodIn_r _ [9, 10, 11, 12, 8, 13] (by decide +kernel) (by decide +kernel)
set_option maxRecDepth 20000 in
theorem gX9_drop_X9_isRow : GoodIn wsX9_drop (va_wsS RX9 58 yX9_isRow wsX9_isRow) := goodIn_app (goodIn_of _ (by decide +kernel)) ggX9_drop_X9_isRow
set_option maxRecDepth 20000 in
theorem ggX9_drop_X9_finding : GoodIn wsX9_drop wsX9_finding := goodIn_r _ [17, 3, 18, 19, 20, 21, 22, 23, 24, 25, 26, 27, 28, 29, 30, 31, 32, 33, 34, 35, 36, 37, 38, 39, 40, 41] (by decide +kernel) (by decide +kernel)
set_option maxRecDepth 20000 in
theorem gX9_drop_X9_finding : GoodIn wsX9_drop (wsV RX9 65 RX9 yX9_finding wsX9_finding) := goodIn_app (goodIn_of _ (by decide +kernel)) ggX9_drop_X9_finding
theorem dX9_drop_0 : decode cX9_drop 0 = .ok (.aload_n 0, 1) := by decide +kernel
theorem dX9_drop_1 : decode cX9_drop 1 = .ok (.iconst 0, 1) := by decide +kernel
theorem dX9_drop_2 : decode cX9_drop 2 = .ok (.putfield 44, 3) := by decide +kernel
theorem dX9_drop_5 : decode cX9_drop 5 = .ok (.iload_n 1, 1) := by decide +kernel
theorem dX9_drop_6 : decode cX9_drop 6 = .ok (.invokestatic 58, 3) := by decide +kernel
theorem dX9_drop_9 : decode cX9_drop 9 = .ok (.ifCond .ne 6, 3) := by decide +kernel
theorem dX9_drop_12 : decode cX9_drop 12 = .ok (.ldc 64, 2) := by decide +kernel
theorem dX9_drop_14 : decode cX9_drop 14 = .ok (.ireturn, 1) := by decide +kernel
theorem dX9_drop_15 : decode cX9_drop 15 = .ok (.aload_n 0, 1) := by decide +kernel
theorem dX9_drop_16 : decode cX9_drop 16 = .ok (.iconst 0, 1) := by decide +kernel
theorem dX9_drop_17 : decode cX9_drop 17 = .ok (.putfield 48, 3) := by decide +kernel
theorem dX9_drop_20 : decode cX9_drop 20 = .ok (.aload_n 0, 1) := by decide +kernel
theorem dX9_drop_21 : decode cX9_drop 21 = .ok (.getfield 7, 3) := by decide +kernel
theorem dX9_drop_24 : decode cX9_drop 24 = .ok (.iload_n 1, 1) := by decide +kernel
theorem dX9_drop_25 : decode cX9_drop 25 = .ok (.iaload, 1) := by decide +kernel
theorem dX9_drop_26 : decode cX9_drop 26 = .ok (.ifCond .ge 9, 3) := by decide +kernel
theorem dX9_drop_29 : decode cX9_drop 29 = .ok (.aload_n 0, 1) := by decide +kernel
theorem dX9_drop_30 : decode cX9_drop 30 = .ok (.iconst 1, 1) := by decide +kernel
theorem dX9_drop_31 : decode cX9_drop 31 = .ok (.invokevirtual 65, 3) := by decide +kernel
theorem dX9_drop_34 : decode cX9_drop 34 = .ok (.ireturn, 1) := by decide +kernel
theorem dX9_drop_35 : decode cX9_drop 35 = .ok (.aload_n 0, 1) := by decide +kernel
theorem dX9_drop_36 : decode cX9_drop 36 = .ok (.getfield 7, 3) := by decide +kernel
theorem dX9_drop_39 : decode cX9_drop 39 = .ok (.iload_n 1, 1) := by decide +kernel
theorem dX9_drop_40 : decode cX9_drop 40 = .ok (.iconst (-1), 1) := by decide +kernel
theorem dX9_drop_41 : decode cX9_drop 41 = .ok (.iastore, 1) := by decide +kernel
theorem dX9_drop_42 : decode cX9_drop 42 = .ok (.aload_n 0, 1) := by decide +kernel
theorem dX9_drop_43 : decode cX9_drop 43 = .ok (.getfield 13, 3) := by decide +kernel
theorem dX9_drop_46 : decode cX9_drop 46 = .ok (.iload_n 1, 1) := by decide +kernel
theorem dX9_drop_47 : decode cX9_drop 47 = .ok (.iaload, 1) := by decide +kernel
theorem dX9_drop_48 : decode cX9_drop 48 = .ok (.ireturn, 1) := by decide +kernel
set_option maxRecDepth 20000 in
theorem ggX9_feed_X9_in : GoodIn wsX9_feed wsX9_in := goodIn_r _ [10] (by decide +kernel) (by decide +kernel)
set_option maxRecDepth 20000 in
theorem gX9_feed_X9_in : GoodIn wsX9_feed (va_wsS RX9 54 yX9_in wsX9_in) := goodIn_app (goodIn_of _ (by decide +kernel)) ggX9_feed_X9_in
theorem dX9_feed_0 : decode cX9_feed 0 = .ok (.aload_n 0, 1) := by decide +kernel
theorem dX9_feed_1 : decode cX9_feed 1 = .ok (.iconst 0, 1) := by decide +kernel
theorem dX9_feed_2 : decode cX9_feed 2 = .ok (.putfield 44, 3) := by decide +kernel
theorem dX9_feed_5 : decode cX9_feed 5 = .ok (.iload_n 1, 1) := by decide +kernel
theorem dX9_feed_6 : decode cX9_feed 6 = .ok (.i2l, 1) := by decide +kernel
theorem dX9_feed_7 : decode cX9_feed 7 = .ok (.lconst 0, 1) := by decide +kernel
theorem dX9_feed_8 : decode cX9_feed 8 = .ok (.ldc2_w 69, 3) := by decide +kernel
theorem dX9_feed_11 : decode cX9_feed 11 = .ok (.invokestatic 54, 3) := by decide +kernel
theorem dX9_feed_14 : decode cX9_feed 14 = .ok (.ifCond .ne 6, 3) := by decide +kernel
theorem dX9_feed_17 : decode cX9_feed 17 = .ok (.ldc 64, 2) := by decide +kernel
theorem dX9_feed_19 : decode cX9_feed 19 = .ok (.ireturn, 1) := by decide +kernel
theorem dX9_feed_20 : decode cX9_feed 20 = .ok (.aload_n 0, 1) := by decide +kernel
theorem dX9_feed_21 : decode cX9_feed 21 = .ok (.getfield 71, 3) := by decide +kernel
theorem dX9_feed_24 : decode cX9_feed 24 = .ok (.bipush 100, 2) := by decide +kernel
theorem dX9_feed_26 : decode cX9_feed 26 = .ok (.if_icmp .ne 6, 3) := by decide +kernel
theorem dX9_feed_29 : decode cX9_feed 29 = .ok (.ldc 74, 2) := by decide +kernel
theorem dX9_feed_31 : decode cX9_feed 31 = .ok (.ireturn, 1) := by decide +kernel
theorem dX9_feed_32 : decode cX9_feed 32 = .ok (.aload_n 0, 1) := by decide +kernel
theorem dX9_feed_33 : decode cX9_feed 33 = .ok (.getfield 31, 3) := by decide +kernel
theorem dX9_feed_36 : decode cX9_feed 36 = .ok (.aload_n 0, 1) := by decide +kernel
theorem dX9_feed_37 : decode cX9_feed 37 = .ok (.getfield 71, 3) := by decide +kernel
theorem dX9_feed_40 : decode cX9_feed 40 = .ok (.iload_n 1, 1) := by decide +kernel
theorem dX9_feed_41 : decode cX9_feed 41 = .ok (.iastore, 1) := by decide +kernel
theorem dX9_feed_42 : decode cX9_feed 42 = .ok (.aload_n 0, 1) := by decide +kernel
theorem dX9_feed_43 : decode cX9_feed 43 = .ok (.dup, 1) := by decide +kernel
theorem dX9_feed_44 : decode cX9_feed 44 = .ok (.getfield 71, 3) := by decide +kernel
theorem dX9_feed_47 : decode cX9_feed 47 = .ok (.iconst 1, 1) := by decide +kernel
theorem dX9_feed_48 : decode cX9_feed 48 = .ok (.iadd, 1) := by decide +kernel
theorem dX9_feed_49 : decode cX9_feed 49 = .ok (.putfield 71, 3) := by decide +kernel
theorem dX9_feed_52 : decode cX9_feed 52 = .ok (.aload_n 0, 1) := by decide +kernel
theorem dX9_feed_53 : decode cX9_feed 53 = .ok (.getfield 71, 3) := by decide +kernel
theorem dX9_feed_56 : decode cX9_feed 56 = .ok (.ireturn, 1) := by decide +kernel
theorem dX9_bad_0 : decode cX9_bad 0 = .ok (.aload_n 0, 1) := by decide +kernel
theorem dX9_bad_1 : decode cX9_bad 1 = .ok (.getfield 75, 3) := by decide +kernel
theorem dX9_bad_4 : decode cX9_bad 4 = .ok (.ifCond .ne 16, 3) := by decide +kernel
theorem dX9_bad_7 : decode cX9_bad 7 = .ok (.aload_n 0, 1) := by decide +kernel
theorem dX9_bad_8 : decode cX9_bad 8 = .ok (.iload_n 1, 1) := by decide +kernel
theorem dX9_bad_9 : decode cX9_bad 9 = .ok (.putfield 75, 3) := by decide +kernel
theorem dX9_bad_12 : decode cX9_bad 12 = .ok (.aload_n 0, 1) := by decide +kernel
theorem dX9_bad_13 : decode cX9_bad 13 = .ok (.aload_n 0, 1) := by decide +kernel
theorem dX9_bad_14 : decode cX9_bad 14 = .ok (.getfield 78, 3) := by decide +kernel
theorem dX9_bad_17 : decode cX9_bad 17 = .ok (.putfield 81, 3) := by decide +kernel
theorem dX9_bad_20 : decode cX9_bad 20 = .ok (.return_, 1) := by decide +kernel
set_option maxRecDepth 20000 in
theorem ggX9_nextToken_X9_in : GoodIn wsX9_nextToken wsX9_in := goodIn_r _ [15] (by decide +kernel) (by decide +kernel)
set_option maxRecDepth 20000 in
theorem gX9_nextToken_X9_in : GoodIn wsX9_nextToken (va_wsS RX9 54 yX9_in wsX9_in) := goodIn_app (goodIn_of _ (by decide +kernel)) ggX9_nextToken_X9_in
theorem dX9_nextToken_0 : decode cX9_nextToken 0 = .ok (.aload_n 0, 1) := by decide +kernel
theorem dX9_nextToken_1 : decode cX9_nextToken 1 = .ok (.aload_n 0, 1) := by decide +kernel
theorem dX9_nextToken_2 : decode cX9_nextToken 2 = .ok (.getfield 84, 3) := by decide +kernel
theorem dX9_nextToken_5 : decode cX9_nextToken 5 = .ok (.putfield 78, 3) := by decide +kernel
theorem dX9_nextToken_8 : decode cX9_nextToken 8 = .ok (.aload_n 0, 1) := by decide +kernel
theorem dX9_nextToken_9 : decode cX9_nextToken 9 = .ok (.aload_n 0, 1) := by decide +kernel
theorem dX9_nextToken_10 : decode cX9_nextToken 10 = .ok (.getfield 84, 3) := by decide +kernel
theorem dX9_nextToken_13 : decode cX9_nextToken 13 = .ok (.aload_n 0, 1) := by decide +kernel
theorem dX9_nextToken_14 : decode cX9_nextToken 14 = .ok (.getfield 71, 3) := by decide +kernel
theorem dX9_nextToken_17 : decode cX9_nextToken 17 = .ok (.if_icmp .ge 15, 3) := by decide +kernel
theorem dX9_nextToken_20 : decode cX9_nextToken 20 = .ok (.aload_n 0, 1) := by decide +kernel
theorem dX9_nextToken_21 : decode cX9_nextToken 21 = .ok (.getfield 31, 3) := by decide +kernel
theorem dX9_nextToken_24 : decode cX9_nextToken 24 = .ok (.aload_n 0, 1) := by decide +kernel
theorem dX9_nextToken_25 : decode cX9_nextToken 25 = .ok (.getfield 84, 3) := by decide +kernel
theorem dX9_nextToken_28 : decode cX9_nextToken 28 = .ok (.iaload, 1) := by decide +kernel
theorem dX9_nextToken_29 : decode cX9_nextToken 29 = .ok (.goto 5, 3) := by decide +kernel
theorem dX9_nextToken_32 : decode cX9_nextToken 32 = .ok (.ldc 87, 2) := by decide +kernel
theorem dX9_nextToken_34 : decode cX9_nextToken 34 = .ok (.putfield 88, 3) := by decide +kernel
theorem dX9_nextToken_37 : decode cX9_nextToken 37 = .ok (.aload_n 0, 1) := by decide +kernel
theorem dX9_nextToken_38 : decode cX9_nextToken 38 = .ok (.aload_n 0, 1) := by decide +kernel
theorem dX9_nextToken_39 : decode cX9_nextToken 39 = .ok (.getfield 84, 3) := by decide +kernel
theorem dX9_nextToken_42 : decode cX9_nextToken 42 = .ok (.aload_n 0, 1) := by decide +kernel
theorem dX9_nextToken_43 : decode cX9_nextToken 43 = .ok (.getfield 71, 3) := by decide +kernel
theorem dX9_nextToken_46 : decode cX9_nextToken 46 = .ok (.if_icmp .ne 7, 3) := by decide +kernel
theorem dX9_nextToken_49 : decode cX9_nextToken 49 = .ok (.iconst 1, 1) := by decide +kernel
theorem dX9_nextToken_50 : decode cX9_nextToken 50 = .ok (.goto 68, 3) := by decide +kernel
theorem dX9_nextToken_53 : decode cX9_nextToken 53 = .ok (.aload_n 0, 1) := by decide +kernel
theorem dX9_nextToken_54 : decode cX9_nextToken 54 = .ok (.getfield 88, 3) := by decide +kernel
theorem dX9_nextToken_57 : decode cX9_nextToken 57 = .ok (.i2l, 1) := by decide +kernel
theorem dX9_nextToken_58 : decode cX9_nextToken 58 = .ok (.ldc2_w 91, 3) := by decide +kernel
theorem dX9_nextToken_61 : decode cX9_nextToken 61 = .ok (.ldc2_w 93, 3) := by decide +kernel
theorem dX9_nextToken_64 : decode cX9_nextToken 64 = .ok (.invokestatic 54, 3) := by decide +kernel
theorem dX9_nextToken_67 : decode cX9_nextToken 67 = .ok (.ifCond .eq 7, 3) := by decide +kernel
theorem dX9_nextToken_70 : decode cX9_nextToken 70 = .ok (.iconst 2, 1) := by decide +kernel
theorem dX9_nextToken_71 : decode cX9_nextToken 71 = .ok (.goto 47, 3) := by decide +kernel
theorem dX9_nextToken_74 : decode cX9_nextToken 74 = .ok (.aload_n 0, 1) := by decide +kernel
theorem dX9_nextToken_75 : decode cX9_nextToken 75 = .ok (.getfield 88, 3) := by decide +kernel
theorem dX9_nextToken_78 : decode cX9_nextToken 78 = .ok (.i2l, 1) := by decide +kernel
theorem dX9_nextToken_79 : decode cX9_nextToken 79 = .ok (.ldc2_w 95, 3) := by decide +kernel
theorem dX9_nextToken_82 : decode cX9_nextToken 82 = .ok (.ldc2_w 97, 3) := by decide +kernel
theorem dX9_nextToken_85 : decode cX9_nextToken 85 = .ok (.invokestatic 54, 3) := by decide +kernel
theorem dX9_nextToken_88 : decode cX9_nextToken 88 = .ok (.ifCond .eq 7, 3) := by decide +kernel
theorem dX9_nextToken_91 : decode cX9_nextToken 91 = .ok (.iconst 3, 1) := by decide +kernel
theorem dX9_nextToken_92 : decode cX9_nextToken 92 = .ok (.goto 26, 3) := by decide +kernel
theorem dX9_nextToken_95 : decode cX9_nextToken 95 = .ok (.aload_n 0, 1) := by decide +kernel
theorem dX9_nextToken_96 : decode cX9_nextToken 96 = .ok (.getfield 88, 3) := by decide +kernel
theorem dX9_nextToken_99 : decode cX9_nextToken 99 = .ok (.bipush 44, 2) := by decide +kernel
theorem dX9_nextToken_101 : decode cX9_nextToken 101 = .ok (.if_icmp .eq 12, 3) := by decide +kernel
theorem dX9_nextToken_104 : decode cX9_nextToken 104 = .ok (.aload_n 0, 1) := by decide +kernel
theorem dX9_nextToken_105 : decode cX9_nextToken 105 = .ok (.getfield 88, 3) := by decide +kernel
theorem dX9_nextToken_108 : decode cX9_nextToken 108 = .ok (.bipush 59, 2) := by decide +kernel
theorem dX9_nextToken_110 : decode cX9_nextToken 110 = .ok (.if_icmp .ne 7, 3) := by decide +kernel
theorem dX9_nextToken_113 : decode cX9_nextToken 113 = .ok (.iconst 4, 1) := by decide +kernel
theorem dX9_nextToken_114 : decode cX9_nextToken 114 = .ok (.goto 4, 3) := by decide +kernel
theorem dX9_nextToken_117 : decode cX9_nextToken 117 = .ok (.iconst 0, 1) := by decide +kernel
theorem dX9_nextToken_118 : decode cX9_nextToken 118 = .ok (.putfield 99, 3) := by decide +kernel
theorem dX9_nextToken_121 : decode cX9_nextToken 121 = .ok (.aload_n 0, 1) := by decide +kernel
theorem dX9_nextToken_122 : decode cX9_nextToken 122 = .ok (.dup, 1) := by decide +kernel
theorem dX9_nextToken_123 : decode cX9_nextToken 123 = .ok (.getfield 84, 3) := by decide +kernel
theorem dX9_nextToken_126 : decode cX9_nextToken 126 = .ok (.aload_n 0, 1) := by decide +kernel
theorem dX9_nextToken_127 : decode cX9_nextToken 127 = .ok (.getfield 84, 3) := by decide +kernel
theorem dX9_nextToken_130 : decode cX9_nextToken 130 = .ok (.aload_n 0, 1) := by decide +kernel
theorem dX9_nextToken_131 : decode cX9_nextToken 131 = .ok (.getfield 71, 3) := by decide +kernel
theorem dX9_nextToken_134 : decode cX9_nextToken 134 = .ok (.if_icmp .ge 7, 3) := by decide +kernel
theorem dX9_nextToken_137 : decode cX9_nextToken 137 = .ok (.iconst 1, 1) := by decide +kernel
theorem dX9_nextToken_138 : decode cX9_nextToken 138 = .ok (.goto 4, 3) := by decide +kernel
theorem dX9_nextToken_141 : decode cX9_nextToken 141 = .ok (.iconst 0, 1) := by decide +kernel
theorem dX9_nextToken_142 : decode cX9_nextToken 142 = .ok (.iadd, 1) := by decide +kernel
theorem dX9_nextToken_143 : decode cX9_nextToken 143 = .ok (.putfield 84, 3) := by decide +kernel
theorem dX9_nextToken_146 : decode cX9_nextToken 146 = .ok (.aload_n 0, 1) := by decide +kernel
theorem dX9_nextToken_147 : decode cX9_nextToken 147 = .ok (.getfield 99, 3) := by decide +kernel
theorem dX9_nextToken_150 : decode cX9_nextToken 150 = .ok (.iconst 3, 1) := by decide +kernel
theorem dX9_nextToken_151 : decode cX9_nextToken 151 = .ok (.if_icmp .ne 126, 3) := by decide +kernel
theorem dX9_nextToken_154 : decode cX9_nextToken 154 = .ok (.aload_n 0, 1) := by decide +kernel
theorem dX9_nextToken_155 : decode cX9_nextToken 155 = .ok (.dup, 1) := by decide +kernel
theorem dX9_nextToken_156 : decode cX9_nextToken 156 = .ok (.getfield 88, 3) := by decide +kernel
theorem dX9_nextToken_159 : decode cX9_nextToken 159 = .ok (.bipush 48, 2) := by decide +kernel
theorem dX9_nextToken_161 : decode cX9_nextToken 161 = .ok (.isub, 1) := by decide +kernel
theorem dX9_nextToken_162 : decode cX9_nextToken 162 = .ok (.putfield 88, 3) := by decide +kernel
theorem dX9_nextToken_165 : decode cX9_nextToken 165 = .ok (.aload_n 0, 1) := by decide +kernel
theorem dX9_nextToken_166 : decode cX9_nextToken 166 = .ok (.getfield 84, 3) := by decide +kernel
theorem dX9_nextToken_169 : decode cX9_nextToken 169 = .ok (.aload_n 0, 1) := by decide +kernel
theorem dX9_nextToken_170 : decode cX9_nextToken 170 = .ok (.getfield 71, 3) := by decide +kernel
theorem dX9_nextToken_173 : decode cX9_nextToken 173 = .ok (.if_icmp .ge 82, 3) := by decide +kernel
theorem dX9_nextToken_176 : decode cX9_nextToken 176 = .ok (.aload_n 0, 1) := by decide +kernel
theorem dX9_nextToken_177 : decode cX9_nextToken 177 = .ok (.getfield 31, 3) := by decide +kernel
theorem dX9_nextToken_180 : decode cX9_nextToken 180 = .ok (.aload_n 0, 1) := by decide +kernel
theorem dX9_nextToken_181 : decode cX9_nextToken 181 = .ok (.getfield 84, 3) := by decide +kernel
theorem dX9_nextToken_184 : decode cX9_nextToken 184 = .ok (.iaload, 1) := by decide +kernel
theorem dX9_nextToken_185 : decode cX9_nextToken 185 = .ok (.i2l, 1) := by decide +kernel
theorem dX9_nextToken_186 : decode cX9_nextToken 186 = .ok (.ldc2_w 95, 3) := by decide +kernel
theorem dX9_nextToken_189 : decode cX9_nextToken 189 = .ok (.ldc2_w 97, 3) := by decide +kernel
theorem dX9_nextToken_192 : decode cX9_nextToken 192 = .ok (.invokestatic 54, 3) := by decide +kernel
theorem dX9_nextToken_195 : decode cX9_nextToken 195 = .ok (.ifCond .eq 60, 3) := by decide +kernel
theorem dX9_nextToken_198 : decode cX9_nextToken 198 = .ok (.aload_n 0, 1) := by decide +kernel
theorem dX9_nextToken_199 : decode cX9_nextToken 199 = .ok (.aload_n 0, 1) := by decide +kernel
theorem dX9_nextToken_200 : decode cX9_nextToken 200 = .ok (.getfield 84, 3) := by decide +kernel
theorem dX9_nextToken_203 : decode cX9_nextToken 203 = .ok (.aload_n 0, 1) := by decide +kernel
theorem dX9_nextToken_204 : decode cX9_nextToken 204 = .ok (.getfield 78, 3) := by decide +kernel
theorem dX9_nextToken_207 : decode cX9_nextToken 207 = .ok (.isub, 1) := by decide +kernel
theorem dX9_nextToken_208 : decode cX9_nextToken 208 = .ok (.iconst 2, 1) := by decide +kernel
theorem dX9_nextToken_209 : decode cX9_nextToken 209 = .ok (.if_icmp .ge 26, 3) := by decide +kernel
theorem dX9_nextToken_212 : decode cX9_nextToken 212 = .ok (.bipush 10, 2) := by decide +kernel
theorem dX9_nextToken_214 : decode cX9_nextToken 214 = .ok (.aload_n 0, 1) := by decide +kernel
theorem dX9_nextToken_215 : decode cX9_nextToken 215 = .ok (.getfield 88, 3) := by decide +kernel
theorem dX9_nextToken_218 : decode cX9_nextToken 218 = .ok (.imul, 1) := by decide +kernel
theorem dX9_nextToken_219 : decode cX9_nextToken 219 = .ok (.aload_n 0, 1) := by decide +kernel
theorem dX9_nextToken_220 : decode cX9_nextToken 220 = .ok (.getfield 31, 3) := by decide +kernel
theorem dX9_nextToken_223 : decode cX9_nextToken 223 = .ok (.aload_n 0, 1) := by decide +kernel
theorem dX9_nextToken_224 : decode cX9_nextToken 224 = .ok (.getfield 84, 3) := by decide +kernel
theorem dX9_nextToken_227 : decode cX9_nextToken 227 = .ok (.iaload, 1) := by decide +kernel
theorem dX9_nextToken_228 : decode cX9_nextToken 228 = .ok (.iadd, 1) := by decide +kernel
theorem dX9_nextToken_229 : decode cX9_nextToken 229 = .ok (.bipush 48, 2) := by decide +kernel
theorem dX9_nextToken_231 : decode cX9_nextToken 231 = .ok (.isub, 1) := by decide +kernel
theorem dX9_nextToken_232 : decode cX9_nextToken 232 = .ok (.goto 7, 3) := by decide +kernel
theorem dX9_nextToken_235 : decode cX9_nextToken 235 = .ok (.aload_n 0, 1) := by decide +kernel
theorem dX9_nextToken_236 : decode cX9_nextToken 236 = .ok (.getfield 88, 3) := by decide +kernel
theorem dX9_nextToken_239 : decode cX9_nextToken 239 = .ok (.putfield 88, 3) := by decide +kernel
theorem dX9_nextToken_242 : decode cX9_nextToken 242 = .ok (.aload_n 0, 1) := by decide +kernel
theorem dX9_nextToken_243 : decode cX9_nextToken 243 = .ok (.dup, 1) := by decide +kernel
theorem dX9_nextToken_244 : decode cX9_nextToken 244 = .ok (.getfield 84, 3) := by decide +kernel
theorem dX9_nextToken_247 : decode cX9_nextToken 247 = .ok (.iconst 1, 1) := by decide +kernel
theorem dX9_nextToken_248 : decode cX9_nextToken 248 = .ok (.iadd, 1) := by decide +kernel
theorem dX9_nextToken_249 : decode cX9_nextToken 249 = .ok (.putfield 84, 3) := by decide +kernel
theorem dX9_nextToken_252 : decode cX9_nextToken 252 = .ok (.goto (-87), 3) := by decide +kernel
theorem dX9_nextToken_255 : decode cX9_nextToken 255 = .ok (.aload_n 0, 1) := by decide +kernel
theorem dX9_nextToken_256 : decode cX9_nextToken 256 = .ok (.aload_n 0, 1) := by decide +kernel
theorem dX9_nextToken_257 : decode cX9_nextToken 257 = .ok (.getfield 84, 3) := by decide +kernel
theorem dX9_nextToken_260 : decode cX9_nextToken 260 = .ok (.aload_n 0, 1) := by decide +kernel
theorem dX9_nextToken_261 : decode cX9_nextToken 261 = .ok (.getfield 78, 3) := by decide +kernel
theorem dX9_nextToken_264 : decode cX9_nextToken 264 = .ok (.isub, 1) := by decide +kernel
theorem dX9_nextToken_265 : decode cX9_nextToken 265 = .ok (.iconst 2, 1) := by decide +kernel
theorem dX9_nextToken_266 : decode cX9_nextToken 266 = .ok (.if_icmp .le 7, 3) := by decide +kernel
theorem dX9_nextToken_269 : decode cX9_nextToken 269 = .ok (.iconst 0, 1) := by decide +kernel
theorem dX9_nextToken_270 : decode cX9_nextToken 270 = .ok (.goto 4, 3) := by decide +kernel
theorem dX9_nextToken_273 : decode cX9_nextToken 273 = .ok (.iconst 3, 1) := by decide +kernel
theorem dX9_nextToken_274 : decode cX9_nextToken 274 = .ok (.putfield 99, 3) := by decide +kernel
theorem dX9_nextToken_277 : decode cX9_nextToken 277 = .ok (.return_, 1) := by decide +kernel
set_option maxRecDepth 20000 in
theorem ggX9_must_X9_bad : GoodIn wsX9_must wsX9_bad := goodIn_r _ [6, 1, 7, 8, 26, 27, 28, 29, 30, 31, 32, 33, 34, 35, 36, 37, 38, 39, 40, 41, 42, 43, 44, 45, 46, 47, 48] (by decide +kernel) (by decide +kernel)
set_option maxRecDepth 20000 in
theorem gX9_must_X9_bad : GoodIn wsX9_must (wsV RX9 102 RX9 yX9_bad wsX9_bad) := goodIn_app (goodIn_of _ (by decide +kernel)) ggX9_must_X9_bad
set_option maxRecDepth 20000 in
theorem ggX9_must_X9_nextToken : GoodIn wsX9_must wsX9_nextToken := goodIn_r _ [12, 13, 7, 14, 15, 16, 17, 18, 19, 20, 21, 22, 23, 24, 5, 25, 26, 27, 28, 29, 30, 31, 32, 33, 34, 35, 36, 37, 38, 39, 40, 41, 42, 43, 44, 45, 46, 47, 48] (by decide +kernel) (by decide +kernel)
set_option maxRecDepth 20000 in
theorem gX9_must_X9_nextToken : GoodIn wsX9_must (wsV RX9 106 RX9 yX9_nextToken wsX9_nextToken) := goodIn_app (goodIn_of _ (by decide +kernel)) ggX9_must_X9_nextToken
theorem dX9_must_0 : decode cX9_must 0 = .ok (.iload_n 1, 1) := by decide +kernel
theorem dX9_must_1 : decode cX9_must 1 = .ok (.ifCond .ne 8, 3) := by decide +kernel
theorem dX9_must_4 : decode cX9_must 4 = .ok (.aload_n 0, 1) := by decide +kernel
theorem dX9_must_5 : decode cX9_must 5 = .ok (.iconst 1, 1) := by decide +kernel
theorem dX9_must_6 : decode cX9_must 6 = .ok (.invokevirtual 102, 3) := by decide +kernel
theorem dX9_must_9 : decode cX9_must 9 = .ok (.aload_n 0, 1) := by decide +kernel
theorem dX9_must_10 : decode cX9_must 10 = .ok (.getfield 75, 3) := by decide +kernel
theorem dX9_must_13 : decode cX9_must 13 = .ok (.ifCond .ne 7, 3) := by decide +kernel
theorem dX9_must_16 : decode cX9_must 16 = .ok (.aload_n 0, 1) := by decide +kernel
theorem dX9_must_17 : decode cX9_must 17 = .ok (.invokevirtual 106, 3) := by decide +kernel
theorem dX9_must_20 : decode cX9_must 20 = .ok (.return_, 1) := by decide +kernel
theorem dX9_isLetter_0 : decode cX9_isLetter 0 = .ok (.aload_n 0, 1) := by decide +kernel
theorem dX9_isLetter_1 : decode cX9_isLetter 1 = .ok (.getfield 75, 3) := by decide +kernel
theorem dX9_isLetter_4 : decode cX9_isLetter 4 = .ok (.ifCond .ne 23, 3) := by decide +kernel
theorem dX9_isLetter_7 : decode cX9_isLetter 7 = .ok (.aload_n 0, 1) := by decide +kernel
theorem dX9_isLetter_8 : decode cX9_isLetter 8 = .ok (.getfield 99, 3) := by decide +kernel
theorem dX9_isLetter_11 : decode cX9_isLetter 11 = .ok (.iconst 2, 1) := by decide +kernel
theorem dX9_isLetter_12 : decode cX9_isLetter 12 = .ok (.if_icmp .ne 15, 3) := by decide +kernel
theorem dX9_isLetter_15 : decode cX9_isLetter 15 = .ok (.aload_n 0, 1) := by decide +kernel
theorem dX9_isLetter_16 : decode cX9_isLetter 16 = .ok (.getfield 88, 3) := by decide +kernel
theorem dX9_isLetter_19 : decode cX9_isLetter 19 = .ok (.iload_n 1, 1) := by decide +kernel
theorem dX9_isLetter_20 : decode cX9_isLetter 20 = .ok (.if_icmp .ne 7, 3) := by decide +kernel
theorem dX9_isLetter_23 : decode cX9_isLetter 23 = .ok (.iconst 1, 1) := by decide +kernel
theorem dX9_isLetter_24 : decode cX9_isLetter 24 = .ok (.goto 4, 3) := by decide +kernel
theorem dX9_isLetter_27 : decode cX9_isLetter 27 = .ok (.iconst 0, 1) := by decide +kernel
theorem dX9_isLetter_28 : decode cX9_isLetter 28 = .ok (.ireturn, 1) := by decide +kernel
set_option maxRecDepth 20000 in
theorem ggX9_number_X9_bad : GoodIn wsX9_number wsX9_bad := goodIn_r _ [8, 1, 9, 10, 30, 31, 32, 33, 34, 35, 36, 37, 38, 39, 40, 41, 42, 43, 44, 45, 46, 47, 48, 49, 50, 51, 52] (by decide +kernel) (by decide +kernel)
set_option maxRecDepth 20000 in
theorem gX9_number_X9_bad : GoodIn wsX9_number (wsV RX9 102 RX9 yX9_bad wsX9_bad) := goodIn_app (goodIn_of _ (by decide +kernel)) ggX9_number_X9_bad
set_option maxRecDepth 20000 in
theorem ggX9_number_X9_in : GoodIn wsX9_number wsX9_in := goodIn_r _ [13] (by decide +kernel) (by decide +kernel)
set_option maxRecDepth 20000 in
theorem gX9_number_X9_in : GoodIn wsX9_number (va_wsS RX9 54 yX9_in wsX9_in) := goodIn_app (goodIn_of _ (by decide +kernel)) ggX9_number_X9_in
set_option maxRecDepth 20000 in
theorem ggX9_number_X9_must : GoodIn wsX9_number wsX9_must := goodIn_r _ [17, 1, 4, 5, 6, 7, 8, 9, 10, 18, 19, 20, 21, 22, 23, 24, 25, 3, 26, 27, 28, 29, 2, 11, 12, 13, 30, 31, 32, 33, 34, 35, 36, 37, 38, 39, 40, 41, 42, 43, 44, 45, 46, 47, 48, 49, 50, 51, 52] (by decide +kernel) (by decide +kernel)
set_option maxRecDepth 20000 in
theorem gX9_number_X9_must : GoodIn wsX9_number (wsV RX9 109 RX9 yX9_must wsX9_must) := goodIn_app (goodIn_of _ (by decide +kernel)) ggX9_number_X9_must
theorem dX9_number_0 : decode cX9_number 0 = .ok (.aload_n 0, 1) := by decide +kernel
theorem dX9_number_1 : decode cX9_number 1 = .ok (.getfield 75, 3) := by decide +kernel
theorem dX9_number_4 : decode cX9_number 4 = .ok (.ifCond .ne 16, 3) := by decide +kernel
theorem dX9_number_7 : decode cX9_number 7 = .ok (.aload_n 0, 1) := by decide +kernel
theorem dX9_number_8 : decode cX9_number 8 = .ok (.getfield 99, 3) := by decide +kernel
theorem dX9_number_11 : decode cX9_number 11 = .ok (.iconst 3, 1) := by decide +kernel
theorem dX9_number_12 : decode cX9_number 12 = .ok (.if_icmp .eq 8, 3) := by decide +kernel
theorem dX9_number_15 : decode cX9_number 15 = .ok (.aload_n 0, 1) := by decide +kernel
theorem dX9_number_16 : decode cX9_number 16 = .ok (.iconst 1, 1) := by decide +kernel
theorem dX9_number_17 : decode cX9_number 17 = .ok (.invokevirtual 102, 3) := by decide +kernel
theorem dX9_number_20 : decode cX9_number 20 = .ok (.aload_n 0, 1) := by decide +kernel
theorem dX9_number_21 : decode cX9_number 21 = .ok (.getfield 75, 3) := by decide +kernel
theorem dX9_number_24 : decode cX9_number 24 = .ok (.ifCond .ne 23, 3) := by decide +kernel
theorem dX9_number_27 : decode cX9_number 27 = .ok (.aload_n 0, 1) := by decide +kernel
theorem dX9_number_28 : decode cX9_number 28 = .ok (.getfield 88, 3) := by decide +kernel
theorem dX9_number_31 : decode cX9_number 31 = .ok (.i2l, 1) := by decide +kernel
theorem dX9_number_32 : decode cX9_number 32 = .ok (.iload_n 1, 1) := by decide +kernel
theorem dX9_number_33 : decode cX9_number 33 = .ok (.i2l, 1) := by decide +kernel
theorem dX9_number_34 : decode cX9_number 34 = .ok (.iload_n 2, 1) := by decide +kernel
theorem dX9_number_35 : decode cX9_number 35 = .ok (.i2l, 1) := by decide +kernel
theorem dX9_number_36 : decode cX9_number 36 = .ok (.invokestatic 54, 3) := by decide +kernel
theorem dX9_number_39 : decode cX9_number 39 = .ok (.ifCond .ne 8, 3) := by decide +kernel
theorem dX9_number_42 : decode cX9_number 42 = .ok (.aload_n 0, 1) := by decide +kernel
theorem dX9_number_43 : decode cX9_number 43 = .ok (.iconst 2, 1) := by decide +kernel
theorem dX9_number_44 : decode cX9_number 44 = .ok (.invokevirtual 102, 3) := by decide +kernel
theorem dX9_number_47 : decode cX9_number 47 = .ok (.aload_n 0, 1) := by decide +kernel
theorem dX9_number_48 : decode cX9_number 48 = .ok (.getfield 75, 3) := by decide +kernel
theorem dX9_number_51 : decode cX9_number 51 = .ok (.ifCond .ne 10, 3) := by decide +kernel
theorem dX9_number_54 : decode cX9_number 54 = .ok (.aload_n 0, 1) := by decide +kernel
theorem dX9_number_55 : decode cX9_number 55 = .ok (.getfield 88, 3) := by decide +kernel
theorem dX9_number_58 : decode cX9_number 58 = .ok (.goto 4, 3) := by decide +kernel
theorem dX9_number_61 : decode cX9_number 61 = .ok (.iload_n 1, 1) := by decide +kernel
theorem dX9_number_62 : decode cX9_number 62 = .ok (.istore_n 3, 1) := by decide +kernel
theorem dX9_number_63 : decode cX9_number 63 = .ok (.aload_n 0, 1) := by decide +kernel
theorem dX9_number_64 : decode cX9_number 64 = .ok (.iconst 1, 1) := by decide +kernel
theorem dX9_number_65 : decode cX9_number 65 = .ok (.invokevirtual 109, 3) := by decide +kernel
theorem dX9_number_68 : decode cX9_number 68 = .ok (.iload_n 3, 1) := by decide +kernel
theorem dX9_number_69 : decode cX9_number 69 = .ok (.ireturn, 1) := by decide +kernel
set_option maxRecDepth 20000 in
theorem ggX9_mustSign_X9_must : GoodIn wsX9_mustSign wsX9_must := goodIn_r _ [7, 8, 9, 10, 11, 6, 12, 13, 14, 15, 16, 17, 18, 19, 20, 21, 22, 2, 23, 24, 25, 26, 1, 27, 28, 29, 30, 31, 32, 33, 34, 35, 36, 37, 38, 39, 40, 41, 42, 43, 44, 45, 46, 47, 48, 49, 50, 51, 52] (by decide +kernel) (by decide +kernel)
set_option maxRecDepth 20000 in
theorem gX9_mustSign_X9_must : GoodIn wsX9_mustSign (wsV RX9 109 RX9 yX9_must wsX9_must) := goodIn_app (goodIn_of _ (by decide +kernel)) ggX9_mustSign_X9_must
theorem dX9_mustSign_0 : decode cX9_mustSign 0 = .ok (.aload_n 0, 1) := by decide +kernel
theorem dX9_mustSign_1 : decode cX9_mustSign 1 = .ok (.aload_n 0, 1) := by decide +kernel
theorem dX9_mustSign_2 : decode cX9_mustSign 2 = .ok (.getfield 99, 3) := by decide +kernel
theorem dX9_mustSign_5 : decode cX9_mustSign 5 = .ok (.iconst 4, 1) := by decide +kernel
theorem dX9_mustSign_6 : decode cX9_mustSign 6 = .ok (.if_icmp .ne 15, 3) := by decide +kernel
theorem dX9_mustSign_9 : decode cX9_mustSign 9 = .ok (.aload_n 0, 1) := by decide +kernel
theorem dX9_mustSign_10 : decode cX9_mustSign 10 = .ok (.getfield 88, 3) := by decide +kernel
theorem dX9_mustSign_13 : decode cX9_mustSign 13 = .ok (.iload_n 1, 1) := by decide +kernel
theorem dX9_mustSign_14 : decode cX9_mustSign 14 = .ok (.if_icmp .ne 7, 3) := by decide +kernel
theorem dX9_mustSign_17 : decode cX9_mustSign 17 = .ok (.iconst 1, 1) := by decide +kernel
theorem dX9_mustSign_18 : decode cX9_mustSign 18 = .ok (.goto 4, 3) := by decide +kernel
theorem dX9_mustSign_21 : decode cX9_mustSign 21 = .ok (.iconst 0, 1) := by decide +kernel
theorem dX9_mustSign_22 : decode cX9_mustSign 22 = .ok (.invokevirtual 109, 3) := by decide +kernel
theorem dX9_mustSign_25 : decode cX9_mustSign 25 = .ok (.return_, 1) := by decide +kernel
set_option maxRecDepth 20000 in
theorem ggX9_begin_X9_nextToken : GoodIn wsX9_begin wsX9_nextToken := goodIn_r _ [7, 1, 8, 9, 10, 11, 12, 13, 14, 15, 16, 17, 18, 19, 6, 20, 21, 22, 23, 24, 25, 26, 27, 28, 29, 30, 31, 32, 33, 34, 35, 36, 37, 38, 39, 40, 41, 42, 43] (by decide +kernel) (by decide +kernel)
set_option maxRecDepth 20000 in
theorem gX9_begin_X9_nextToken : GoodIn wsX9_begin (wsV RX9 106 RX9 yX9_nextToken wsX9_nextToken) := goodIn_app (goodIn_of _ (by decide +kernel)) ggX9_begin_X9_nextToken
theorem dX9_begin_0 : decode cX9_begin 0 = .ok (.aload_n 0, 1) := by decide +kernel
theorem dX9_begin_1 : decode cX9_begin 1 = .ok (.iconst 0, 1) := by decide +kernel
theorem dX9_begin_2 : decode cX9_begin 2 = .ok (.putfield 84, 3) := by decide +kernel
theorem dX9_begin_5 : decode cX9_begin 5 = .ok (.aload_n 0, 1) := by decide +kernel
theorem dX9_begin_6 : decode cX9_begin 6 = .ok (.iconst 0, 1) := by decide +kernel
theorem dX9_begin_7 : decode cX9_begin 7 = .ok (.putfield 75, 3) := by decide +kernel
theorem dX9_begin_10 : decode cX9_begin 10 = .ok (.aload_n 0, 1) := by decide +kernel
theorem dX9_begin_11 : decode cX9_begin 11 = .ok (.invokevirtual 106, 3) := by decide +kernel
theorem dX9_begin_14 : decode cX9_begin 14 = .ok (.return_, 1) := by decide +kernel
set_option maxRecDepth 20000 in
theorem ggX9_failed_X9_bad : GoodIn wsX9_failed wsX9_bad := goodIn_r _ [9, 1, 10, 11, 12, 13, 14, 15, 16, 17, 18, 19, 20, 21, 22, 23, 24, 25, 26, 27, 28, 29, 30, 31, 32, 33, 34] (by decide +kernel) (by decide +kernel)
set_option maxRecDepth 20000 in
theorem gX9_failed_X9_bad : GoodIn wsX9_failed (wsV RX9 102 RX9 yX9_bad wsX9_bad) := goodIn_app (goodIn_of _ (by decide +kernel)) ggX9_failed_X9_bad
theorem dX9_failed_0 : decode cX9_failed 0 = .ok (.aload_n 0, 1) := by decide +kernel
theorem dX9_failed_1 : decode cX9_failed 1 = .ok (.getfield 75, 3) := by decide +kernel
theorem dX9_failed_4 : decode cX9_failed 4 = .ok (.ifCond .ne 16, 3) := by decide +kernel
theorem dX9_failed_7 : decode cX9_failed 7 = .ok (.aload_n 0, 1) := by decide +kernel
theorem dX9_failed_8 : decode cX9_failed 8 = .ok (.getfield 99, 3) := by decide +kernel
theorem dX9_failed_11 : decode cX9_failed 11 = .ok (.iconst 1, 1) := by decide +kernel
theorem dX9_failed_12 : decode cX9_failed 12 = .ok (.if_icmp .eq 8, 3) := by decide +kernel
theorem dX9_failed_15 : decode cX9_failed 15 = .ok (.aload_n 0, 1) := by decide +kernel
theorem dX9_failed_16 : decode cX9_failed 16 = .ok (.iconst 1, 1) := by decide +kernel
theorem dX9_failed_17 : decode cX9_failed 17 = .ok (.invokevirtual 102, 3) := by decide +kernel
theorem dX9_failed_20 : decode cX9_failed 20 = .ok (.aload_n 0, 1) := by decide +kernel
theorem dX9_failed_21 : decode cX9_failed 21 = .ok (.iconst 0, 1) := by decide +kernel
theorem dX9_failed_22 : decode cX9_failed 22 = .ok (.putfield 71, 3) := by decide +kernel
theorem dX9_failed_25 : decode cX9_failed 25 = .ok (.aload_n 0, 1) := by decide +kernel
theorem dX9_failed_26 : decode cX9_failed 26 = .ok (.aload_n 0, 1) := by decide +kernel
theorem dX9_failed_27 : decode cX9_failed 27 = .ok (.getfield 75, 3) := by decide +kernel
theorem dX9_failed_30 : decode cX9_failed 30 = .ok (.ifCond .le 10, 3) := by decide +kernel
theorem dX9_failed_33 : decode cX9_failed 33 = .ok (.aload_n 0, 1) := by decide +kernel
theorem dX9_failed_34 : decode cX9_failed 34 = .ok (.getfield 75, 3) := by decide +kernel
theorem dX9_failed_37 : decode cX9_failed 37 = .ok (.goto 7, 3) := by decide +kernel
theorem dX9_failed_40 : decode cX9_failed 40 = .ok (.aload_n 0, 1) := by decide +kernel
theorem dX9_failed_41 : decode cX9_failed 41 = .ok (.getfield 113, 3) := by decide +kernel
theorem dX9_failed_44 : decode cX9_failed 44 = .ok (.putfield 113, 3) := by decide +kernel
theorem dX9_failed_47 : decode cX9_failed 47 = .ok (.aload_n 0, 1) := by decide +kernel
theorem dX9_failed_48 : decode cX9_failed 48 = .ok (.getfield 75, 3) := by decide +kernel
theorem dX9_failed_51 : decode cX9_failed 51 = .ok (.ifCond .le 7, 3) := by decide +kernel
theorem dX9_failed_54 : decode cX9_failed 54 = .ok (.iconst 1, 1) := by decide +kernel
theorem dX9_failed_55 : decode cX9_failed 55 = .ok (.goto 4, 3) := by decide +kernel
theorem dX9_failed_58 : decode cX9_failed 58 = .ok (.iconst 0, 1) := by decide +kernel
theorem dX9_failed_59 : decode cX9_failed 59 = .ok (.ireturn, 1) := by decide +kernel
theorem dX9_fault_0 : decode cX9_fault 0 = .ok (.aload_n 0, 1) := by decide +kernel
theorem dX9_fault_1 : decode cX9_fault 1 = .ok (.iconst 0, 1) := by decide +kernel
theorem dX9_fault_2 : decode cX9_fault 2 = .ok (.putfield 44, 3) := by decide +kernel
theorem dX9_fault_5 : decode cX9_fault 5 = .ok (.aload_n 0, 1) := by decide +kernel
theorem dX9_fault_6 : decode cX9_fault 6 = .ok (.getfield 113, 3) := by decide +kernel
theorem dX9_fault_9 : decode cX9_fault 9 = .ok (.ireturn, 1) := by decide +kernel
theorem dX9_kindBy_0 : decode cX9_kindBy 0 = .ok (.iload_n 0, 1) := by decide +kernel
theorem dX9_kindBy_1 : decode cX9_kindBy 1 = .ok (.bipush 98, 2) := by decide +kernel
theorem dX9_kindBy_3 : decode cX9_kindBy 3 = .ok (.if_icmp .ne 7, 3) := by decide +kernel
theorem dX9_kindBy_6 : decode cX9_kindBy 6 = .ok (.iconst 1, 1) := by decide +kernel
theorem dX9_kindBy_7 : decode cX9_kindBy 7 = .ok (.goto 45, 3) := by decide +kernel
theorem dX9_kindBy_10 : decode cX9_kindBy 10 = .ok (.iload_n 0, 1) := by decide +kernel
theorem dX9_kindBy_11 : decode cX9_kindBy 11 = .ok (.bipush 97, 2) := by decide +kernel
theorem dX9_kindBy_13 : decode cX9_kindBy 13 = .ok (.if_icmp .ne 7, 3) := by decide +kernel
theorem dX9_kindBy_16 : decode cX9_kindBy 16 = .ok (.iconst 2, 1) := by decide +kernel
theorem dX9_kindBy_17 : decode cX9_kindBy 17 = .ok (.goto 35, 3) := by decide +kernel
theorem dX9_kindBy_20 : decode cX9_kindBy 20 = .ok (.iload_n 0, 1) := by decide +kernel
theorem dX9_kindBy_21 : decode cX9_kindBy 21 = .ok (.bipush 122, 2) := by decide +kernel
theorem dX9_kindBy_23 : decode cX9_kindBy 23 = .ok (.if_icmp .ne 7, 3) := by decide +kernel
theorem dX9_kindBy_26 : decode cX9_kindBy 26 = .ok (.iconst 3, 1) := by decide +kernel
theorem dX9_kindBy_27 : decode cX9_kindBy 27 = .ok (.goto 25, 3) := by decide +kernel
theorem dX9_kindBy_30 : decode cX9_kindBy 30 = .ok (.iload_n 0, 1) := by decide +kernel
theorem dX9_kindBy_31 : decode cX9_kindBy 31 = .ok (.bipush 103, 2) := by decide +kernel
theorem dX9_kindBy_33 : decode cX9_kindBy 33 = .ok (.if_icmp .ne 7, 3) := by decide +kernel
theorem dX9_kindBy_36 : decode cX9_kindBy 36 = .ok (.iconst 4, 1) := by decide +kernel
theorem dX9_kindBy_37 : decode cX9_kindBy 37 = .ok (.goto 15, 3) := by decide +kernel
theorem dX9_kindBy_40 : decode cX9_kindBy 40 = .ok (.iload_n 0, 1) := by decide +kernel
theorem dX9_kindBy_41 : decode cX9_kindBy 41 = .ok (.bipush 108, 2) := by decide +kernel
theorem dX9_kindBy_43 : decode cX9_kindBy 43 = .ok (.if_icmp .ne 7, 3) := by decide +kernel
theorem dX9_kindBy_46 : decode cX9_kindBy 46 = .ok (.iconst 5, 1) := by decide +kernel
theorem dX9_kindBy_47 : decode cX9_kindBy 47 = .ok (.goto 5, 3) := by decide +kernel
theorem dX9_kindBy_50 : decode cX9_kindBy 50 = .ok (.ldc 87, 2) := by decide +kernel
theorem dX9_kindBy_52 : decode cX9_kindBy 52 = .ok (.ireturn, 1) := by decide +kernel
set_option maxRecDepth 20000 in
theorem ggX9_isSort_X9_kindBy : GoodIn wsX9_isSort wsX9_kindBy := goodIn_r _ [8, 4] (by decide +kernel) (by decide +kernel)
set_option maxRecDepth 20000 in
theorem gX9_isSort_X9_kindBy : GoodIn wsX9_isSort (va_wsS RX9 116 yX9_kindBy wsX9_kindBy) := goodIn_app (goodIn_of _ (by decide +kernel)) ggX9_isSort_X9_kindBy
theorem dX9_isSort_0 : decode cX9_isSort 0 = .ok (.aload_n 0, 1) := by decide +kernel
theorem dX9_isSort_1 : decode cX9_isSort 1 = .ok (.getfield 75, 3) := by decide +kernel
theorem dX9_isSort_4 : decode cX9_isSort 4 = .ok (.ifCond .ne 27, 3) := by decide +kernel
theorem dX9_isSort_7 : decode cX9_isSort 7 = .ok (.aload_n 0, 1) := by decide +kernel
theorem dX9_isSort_8 : decode cX9_isSort 8 = .ok (.getfield 99, 3) := by decide +kernel
theorem dX9_isSort_11 : decode cX9_isSort 11 = .ok (.iconst 2, 1) := by decide +kernel
theorem dX9_isSort_12 : decode cX9_isSort 12 = .ok (.if_icmp .ne 19, 3) := by decide +kernel
theorem dX9_isSort_15 : decode cX9_isSort 15 = .ok (.aload_n 0, 1) := by decide +kernel
theorem dX9_isSort_16 : decode cX9_isSort 16 = .ok (.getfield 88, 3) := by decide +kernel
theorem dX9_isSort_19 : decode cX9_isSort 19 = .ok (.invokestatic 116, 3) := by decide +kernel
theorem dX9_isSort_22 : decode cX9_isSort 22 = .ok (.ldc 87, 2) := by decide +kernel
theorem dX9_isSort_24 : decode cX9_isSort 24 = .ok (.if_icmp .eq 7, 3) := by decide +kernel
theorem dX9_isSort_27 : decode cX9_isSort 27 = .ok (.iconst 1, 1) := by decide +kernel
theorem dX9_isSort_28 : decode cX9_isSort 28 = .ok (.goto 4, 3) := by decide +kernel
theorem dX9_isSort_31 : decode cX9_isSort 31 = .ok (.iconst 0, 1) := by decide +kernel
theorem dX9_isSort_32 : decode cX9_isSort 32 = .ok (.ireturn, 1) := by decide +kernel
set_option maxRecDepth 20000 in
theorem ggX9_readBidder_X9_kindBy : GoodIn wsX9_readBidder wsX9_kindBy := goodIn_r _ [7, 8] (by decide +kernel) (by decide +kernel)
set_option maxRecDepth 20000 in
theorem gX9_readBidder_X9_kindBy : GoodIn wsX9_readBidder (va_wsS RX9 116 yX9_kindBy wsX9_kindBy) := goodIn_app (goodIn_of _ (by decide +kernel)) ggX9_readBidder_X9_kindBy
set_option maxRecDepth 20000 in
theorem ggX9_readBidder_X9_bad : GoodIn wsX9_readBidder wsX9_bad := goodIn_r _ [12, 3, 13, 14, 42, 43, 44, 45, 46, 47, 48, 49, 50, 51, 52, 53, 54, 55, 56, 57, 58, 59, 60, 61, 62, 63, 64] (by decide +kernel) (by decide +kernel)
set_option maxRecDepth 20000 in
theorem gX9_readBidder_X9_bad : GoodIn wsX9_readBidder (wsV RX9 102 RX9 yX9_bad wsX9_bad) := goodIn_app (goodIn_of _ (by decide +kernel)) ggX9_readBidder_X9_bad
set_option maxRecDepth 20000 in
theorem ggX9_readBidder_X9_must : GoodIn wsX9_readBidder wsX9_must := goodIn_r _ [18, 3, 9, 10, 11, 6, 12, 13, 14, 19, 20, 21, 22, 23, 24, 25, 8, 1, 26, 27, 28, 29, 30, 31, 32, 33, 42, 43, 44, 45, 46, 47, 48, 49, 50, 51, 52, 53, 54, 55, 56, 57, 58, 59, 60, 61, 62, 63, 64] (by decide +kernel) (by decide +kernel)
set_option maxRecDepth 20000 in
theorem gX9_readBidder_X9_must : GoodIn wsX9_readBidder (wsV RX9 109 RX9 yX9_must wsX9_must) := goodIn_app (goodIn_of _ (by decide +kernel)) ggX9_readBidder_X9_must
set_option maxRecDepth 20000 in
theorem ggX9_readBidder_X9_number : GoodIn wsX9_readBidder wsX9_number := goodIn_r _ [37, 3, 30, 1, 9, 10, 11, 6, 12, 13, 14, 31, 32, 33, 15, 16, 17, 18, 19, 20, 21, 22, 23, 24, 25, 8, 26, 27, 28, 29, 42, 43, 44, 45, 46, 47, 48, 49, 50, 51, 52, 53, 54, 55, 56, 57, 58, 59, 60, 61, 62, 63, 64] (by decide +kernel) (by decide +kernel)
set_option maxRecDepth 20000 in
theorem gX9_readBidder_X9_number : GoodIn wsX9_readBidder (wsV RX9 119 RX9 yX9_number wsX9_number) := goodIn_app (goodIn_of _ (by decide +kernel)) ggX9_readBidder_X9_number
set_option maxRecDepth 20000 in
theorem ggX9_readBidder_X9_mustSign : GoodIn wsX9_readBidder wsX9_mustSign := goodIn_r _ [41, 30, 1, 15, 16, 17, 6, 18, 3, 9, 10, 11, 12, 13, 14, 19, 20, 21, 22, 23, 24, 25, 8, 26, 27, 28, 29, 31, 32, 33, 42, 43, 44, 45, 46, 47, 48, 49, 50, 51, 52, 53, 54, 55, 56, 57, 58, 59, 60, 61, 62, 63, 64] (by decide +kernel) (by decide +kernel)
set_option maxRecDepth 20000 in
theorem gX9_readBidder_X9_mustSign : GoodIn wsX9_readBidder (wsV RX9 123 RX9 yX9_mustSign wsX9_mustSign) := goodIn_app (goodIn_of _ (by decide +kernel)) ggX9_readBidder_X9_mustSign
theorem dX9_readBidder_0 : decode cX9_readBidder 0 = .ok (.aload_n 0, 1) := by decide +kernel
theorem dX9_readBidder_1 : decode cX9_readBidder 1 = .ok (.getfield 88, 3) := by decide +kernel
theorem dX9_readBidder_4 : decode cX9_readBidder 4 = .ok (.invokestatic 116, 3) := by decide +kernel
theorem dX9_readBidder_7 : decode cX9_readBidder 7 = .ok (.istore_n 1, 1) := by decide +kernel
theorem dX9_readBidder_8 : decode cX9_readBidder 8 = .ok (.aload_n 0, 1) := by decide +kernel
theorem dX9_readBidder_9 : decode cX9_readBidder 9 = .ok (.getfield 22, 3) := by decide +kernel
theorem dX9_readBidder_12 : decode cX9_readBidder 12 = .ok (.iconst 4, 1) := by decide +kernel
theorem dX9_readBidder_13 : decode cX9_readBidder 13 = .ok (.iaload, 1) := by decide +kernel
theorem dX9_readBidder_14 : decode cX9_readBidder 14 = .ok (.iconst 5, 1) := by decide +kernel
theorem dX9_readBidder_15 : decode cX9_readBidder 15 = .ok (.if_icmp .ne 8, 3) := by decide +kernel
theorem dX9_readBidder_18 : decode cX9_readBidder 18 = .ok (.aload_n 0, 1) := by decide +kernel
theorem dX9_readBidder_19 : decode cX9_readBidder 19 = .ok (.iconst 3, 1) := by decide +kernel
theorem dX9_readBidder_20 : decode cX9_readBidder 20 = .ok (.invokevirtual 102, 3) := by decide +kernel
theorem dX9_readBidder_23 : decode cX9_readBidder 23 = .ok (.aload_n 0, 1) := by decide +kernel
theorem dX9_readBidder_24 : decode cX9_readBidder 24 = .ok (.iconst 1, 1) := by decide +kernel
theorem dX9_readBidder_25 : decode cX9_readBidder 25 = .ok (.invokevirtual 109, 3) := by decide +kernel
theorem dX9_readBidder_28 : decode cX9_readBidder 28 = .ok (.aload_n 0, 1) := by decide +kernel
theorem dX9_readBidder_29 : decode cX9_readBidder 29 = .ok (.iconst 0, 1) := by decide +kernel
theorem dX9_readBidder_30 : decode cX9_readBidder 30 = .ok (.bipush 99, 2) := by decide +kernel
theorem dX9_readBidder_32 : decode cX9_readBidder 32 = .ok (.invokevirtual 119, 3) := by decide +kernel
theorem dX9_readBidder_35 : decode cX9_readBidder 35 = .ok (.istore_n 2, 1) := by decide +kernel
theorem dX9_readBidder_36 : decode cX9_readBidder 36 = .ok (.aload_n 0, 1) := by decide +kernel
theorem dX9_readBidder_37 : decode cX9_readBidder 37 = .ok (.bipush 44, 2) := by decide +kernel
theorem dX9_readBidder_39 : decode cX9_readBidder 39 = .ok (.invokevirtual 123, 3) := by decide +kernel
theorem dX9_readBidder_42 : decode cX9_readBidder 42 = .ok (.aload_n 0, 1) := by decide +kernel
theorem dX9_readBidder_43 : decode cX9_readBidder 43 = .ok (.iconst 0, 1) := by decide +kernel
theorem dX9_readBidder_44 : decode cX9_readBidder 44 = .ok (.bipush 14, 2) := by decide +kernel
theorem dX9_readBidder_46 : decode cX9_readBidder 46 = .ok (.invokevirtual 119, 3) := by decide +kernel
theorem dX9_readBidder_49 : decode cX9_readBidder 49 = .ok (.istore_n 3, 1) := by decide +kernel
theorem dX9_readBidder_50 : decode cX9_readBidder 50 = .ok (.aload_n 0, 1) := by decide +kernel
theorem dX9_readBidder_51 : decode cX9_readBidder 51 = .ok (.bipush 59, 2) := by decide +kernel
theorem dX9_readBidder_53 : decode cX9_readBidder 53 = .ok (.invokevirtual 123, 3) := by decide +kernel
theorem dX9_readBidder_56 : decode cX9_readBidder 56 = .ok (.aload_n 0, 1) := by decide +kernel
theorem dX9_readBidder_57 : decode cX9_readBidder 57 = .ok (.getfield 75, 3) := by decide +kernel
theorem dX9_readBidder_60 : decode cX9_readBidder 60 = .ok (.ifCond .ne 54, 3) := by decide +kernel
theorem dX9_readBidder_63 : decode cX9_readBidder 63 = .ok (.bipush 36, 2) := by decide +kernel
theorem dX9_readBidder_65 : decode cX9_readBidder 65 = .ok (.iconst 3, 1) := by decide +kernel
theorem dX9_readBidder_66 : decode cX9_readBidder 66 = .ok (.aload_n 0, 1) := by decide +kernel
theorem dX9_readBidder_67 : decode cX9_readBidder 67 = .ok (.getfield 22, 3) := by decide +kernel
theorem dX9_readBidder_70 : decode cX9_readBidder 70 = .ok (.iconst 4, 1) := by decide +kernel
theorem dX9_readBidder_71 : decode cX9_readBidder 71 = .ok (.iaload, 1) := by decide +kernel
theorem dX9_readBidder_72 : decode cX9_readBidder 72 = .ok (.imul, 1) := by decide +kernel
theorem dX9_readBidder_73 : decode cX9_readBidder 73 = .ok (.iadd, 1) := by decide +kernel
theorem dX9_readBidder_74 : decode cX9_readBidder 74 = .ok (.istore 4, 2) := by decide +kernel
theorem dX9_readBidder_76 : decode cX9_readBidder 76 = .ok (.aload_n 0, 1) := by decide +kernel
theorem dX9_readBidder_77 : decode cX9_readBidder 77 = .ok (.getfield 22, 3) := by decide +kernel
theorem dX9_readBidder_80 : decode cX9_readBidder 80 = .ok (.iload 4, 2) := by decide +kernel
theorem dX9_readBidder_82 : decode cX9_readBidder 82 = .ok (.iload_n 1, 1) := by decide +kernel
theorem dX9_readBidder_83 : decode cX9_readBidder 83 = .ok (.iastore, 1) := by decide +kernel
theorem dX9_readBidder_84 : decode cX9_readBidder 84 = .ok (.aload_n 0, 1) := by decide +kernel
theorem dX9_readBidder_85 : decode cX9_readBidder 85 = .ok (.getfield 22, 3) := by decide +kernel
theorem dX9_readBidder_88 : decode cX9_readBidder 88 = .ok (.iload 4, 2) := by decide +kernel
theorem dX9_readBidder_90 : decode cX9_readBidder 90 = .ok (.iconst 1, 1) := by decide +kernel
theorem dX9_readBidder_91 : decode cX9_readBidder 91 = .ok (.iadd, 1) := by decide +kernel
theorem dX9_readBidder_92 : decode cX9_readBidder 92 = .ok (.iload_n 2, 1) := by decide +kernel
theorem dX9_readBidder_93 : decode cX9_readBidder 93 = .ok (.iastore, 1) := by decide +kernel
theorem dX9_readBidder_94 : decode cX9_readBidder 94 = .ok (.aload_n 0, 1) := by decide +kernel
theorem dX9_readBidder_95 : decode cX9_readBidder 95 = .ok (.getfield 22, 3) := by decide +kernel
theorem dX9_readBidder_98 : decode cX9_readBidder 98 = .ok (.iload 4, 2) := by decide +kernel
theorem dX9_readBidder_100 : decode cX9_readBidder 100 = .ok (.iconst 2, 1) := by decide +kernel
theorem dX9_readBidder_101 : decode cX9_readBidder 101 = .ok (.iadd, 1) := by decide +kernel
theorem dX9_readBidder_102 : decode cX9_readBidder 102 = .ok (.iload_n 3, 1) := by decide +kernel
theorem dX9_readBidder_103 : decode cX9_readBidder 103 = .ok (.iastore, 1) := by decide +kernel
theorem dX9_readBidder_104 : decode cX9_readBidder 104 = .ok (.aload_n 0, 1) := by decide +kernel
theorem dX9_readBidder_105 : decode cX9_readBidder 105 = .ok (.getfield 22, 3) := by decide +kernel
theorem dX9_readBidder_108 : decode cX9_readBidder 108 = .ok (.iconst 4, 1) := by decide +kernel
theorem dX9_readBidder_109 : decode cX9_readBidder 109 = .ok (.dup2, 1) := by decide +kernel
theorem dX9_readBidder_110 : decode cX9_readBidder 110 = .ok (.iaload, 1) := by decide +kernel
theorem dX9_readBidder_111 : decode cX9_readBidder 111 = .ok (.iconst 1, 1) := by decide +kernel
theorem dX9_readBidder_112 : decode cX9_readBidder 112 = .ok (.iadd, 1) := by decide +kernel
theorem dX9_readBidder_113 : decode cX9_readBidder 113 = .ok (.iastore, 1) := by decide +kernel
theorem dX9_readBidder_114 : decode cX9_readBidder 114 = .ok (.return_, 1) := by decide +kernel
set_option maxRecDepth 20000 in
theorem ggX9_isle_X9_begin : GoodIn wsX9_isle wsX9_begin := goodIn_r _ [16, 17, 3, 18, 19, 20, 15, 21, 22, 23, 24, 25, 4, 6, 26, 27, 28, 5, 29, 30, 31, 68, 69, 70, 71, 72, 73, 74, 75, 76, 77, 78, 79, 80, 81, 82, 83, 84, 85, 86, 87, 88, 89, 90] (by decide +kernel) (by decide +kernel)
set_option maxRecDepth 20000 in
theorem gX9_isle_X9_begin : GoodIn wsX9_isle (wsV RX9 126 RX9 yX9_begin wsX9_begin) := goodIn_app (goodIn_of _ (by decide +kernel)) ggX9_isle_X9_begin
set_option maxRecDepth 20000 in
theorem ggX9_isle_X9_isLetter : GoodIn wsX9_isle wsX9_isLetter := goodIn_r _ [35, 3, 5, 4, 68, 69, 70, 71, 72, 73, 74, 75, 76, 77, 78, 79, 80, 81, 82, 83, 84, 85, 86, 87, 88, 89, 90] (by decide +kernel) (by decide +kernel)
set_option maxRecDepth 20000 in
theorem gX9_isle_X9_isLetter : GoodIn wsX9_isle (wsV RX9 129 RX9 yX9_isLetter wsX9_isLetter) := goodIn_app (goodIn_of _ (by decide +kernel)) ggX9_isle_X9_isLetter
set_option maxRecDepth 20000 in
theorem ggX9_isle_X9_must : GoodIn wsX9_isle wsX9_must := goodIn_r _ [39, 3, 40, 41, 42, 15, 43, 22, 9, 18, 19, 20, 21, 17, 23, 24, 25, 4, 6, 26, 27, 28, 5, 29, 30, 31, 68, 69, 70, 71, 72, 73, 74, 75, 76, 77, 78, 79, 80, 81, 82, 83, 84, 85, 86, 87, 88, 89, 90] (by decide +kernel) (by decide +kernel)
set_option maxRecDepth 20000 in
theorem gX9_isle_X9_must : GoodIn wsX9_isle (wsV RX9 109 RX9 yX9_must wsX9_must) := goodIn_app (goodIn_of _ (by decide +kernel)) ggX9_isle_X9_must
set_option maxRecDepth 20000 in
theorem ggX9_isle_X9_number : GoodIn wsX9_isle wsX9_number := goodIn_r _ [47, 3, 5, 4, 40, 41, 42, 15, 43, 22, 9, 29, 30, 31, 36, 37, 38, 39, 18, 19, 20, 21, 17, 23, 24, 25, 6, 26, 27, 28, 68, 69, 70, 71, 72, 73, 74, 75, 76, 77, 78, 79, 80, 81, 82, 83, 84, 85, 86, 87, 88, 89, 90] (by decide +kernel) (by decide +kernel)
set_option maxRecDepth 20000 in
theorem gX9_isle_X9_number : GoodIn wsX9_isle (wsV RX9 119 RX9 yX9_number wsX9_number) := goodIn_app (goodIn_of _ (by decide +kernel)) ggX9_isle_X9_number
set_option maxRecDepth 20000 in
theorem ggX9_isle_X9_mustSign : GoodIn wsX9_isle wsX9_mustSign := goodIn_r _ [51, 5, 4, 36, 37, 38, 15, 39, 3, 40, 41, 42, 43, 22, 9, 18, 19, 20, 21, 17, 23, 24, 25, 6, 26, 27, 28, 29, 30, 31, 68, 69, 70, 71, 72, 73, 74, 75, 76, 77, 78, 79, 80, 81, 82, 83, 84, 85, 86, 87, 88, 89, 90] (by decide +kernel) (by decide +kernel)
set_option maxRecDepth 20000 in
theorem gX9_isle_X9_mustSign : GoodIn wsX9_isle (wsV RX9 123 RX9 yX9_mustSign wsX9_mustSign) := goodIn_app (goodIn_of _ (by decide +kernel)) ggX9_isle_X9_mustSign
set_option maxRecDepth 20000 in
theorem ggX9_isle_X9_in : GoodIn wsX9_isle wsX9_in := goodIn_r _ [31] (by decide +kernel) (by decide +kernel)
set_option maxRecDepth 20000 in
theorem gX9_isle_X9_in : GoodIn wsX9_isle (va_wsS RX9 54 yX9_in wsX9_in) := goodIn_app (goodIn_of _ (by decide +kernel)) ggX9_isle_X9_in
set_option maxRecDepth 20000 in
theorem ggX9_isle_X9_isSort : GoodIn wsX9_isle wsX9_isSort := goodIn_r _ [55, 3, 5, 4, 25, 56, 57, 15, 58, 68, 69, 70, 71, 72, 73, 74, 75, 76, 77, 78, 79, 80, 81, 82, 83, 84, 85, 86, 87, 88, 89, 90] (by decide +kernel) (by decide +kernel)
set_option maxRecDepth 20000 in
theorem gX9_isle_X9_isSort : GoodIn wsX9_isle (wsV RX9 134 RX9 yX9_isSort wsX9_isSort) := goodIn_app (goodIn_of _ (by decide +kernel)) ggX9_isle_X9_isSort
set_option maxRecDepth 20000 in
theorem ggX9_isle_X9_bad : GoodIn wsX9_isle wsX9_bad := goodIn_r _ [43, 3, 22, 9, 68, 69, 70, 71, 72, 73, 74, 75, 76, 77, 78, 79, 80, 81, 82, 83, 84, 85, 86, 87, 88, 89, 90] (by decide +kernel) (by decide +kernel)
set_option maxRecDepth 20000 in
theorem gX9_isle_X9_bad : GoodIn wsX9_isle (wsV RX9 102 RX9 yX9_bad wsX9_bad) := goodIn_app (goodIn_of _ (by decide +kernel)) ggX9_isle_X9_bad
set_option maxRecDepth 20000 in
theorem ggX9_isle_X9_readBidder : GoodIn wsX9_isle wsX9_readBidder := goodIn_r _ [62, 4, 2, 3, 56, 57, 15, 58, 25, 40, 41, 42, 43, 22, 9, 36, 37, 38, 39, 18, 19, 20, 21, 17, 23, 24, 6, 26, 27, 28, 5, 29, 30, 31, 44, 45, 46, 47, 48, 49, 50, 51, 68, 69, 70, 71, 72, 73, 74, 75, 76, 77, 78, 79, 80, 81, 82, 83, 84, 85, 86, 87, 88, 89, 90] (by decide +kernel) (by decide +kernel)
set_option maxRecDepth 20000 in
theorem gX9_isle_X9_readBidder : GoodIn wsX9_isle (wsV RX9 138 RX9 yX9_readBidder wsX9_readBidder) := goodIn_app (goodIn_of _ (by decide +kernel)) ggX9_isle_X9_readBidder
set_option maxRecDepth 20000 in
theorem ggX9_isle_X9_failed : GoodIn wsX9_isle wsX9_failed := goodIn_r _ [66, 3, 5, 23, 67, 40, 41, 42, 15, 43, 22, 9, 68, 69, 70, 71, 72, 73, 74, 75, 76, 77, 78, 79, 80, 81, 82, 83, 84, 85, 86, 87, 88, 89, 90] (by decide +kernel) (by decide +kernel)
set_option maxRecDepth 20000 in
theorem gX9_isle_X9_failed : GoodIn wsX9_isle (wsV RX9 141 RX9 yX9_failed wsX9_failed) := goodIn_app (goodIn_of _ (by decide +kernel)) ggX9_isle_X9_failed
theorem dX9_isle_0 : decode cX9_isle 0 = .ok (.aload_n 0, 1) := by decide +kernel
theorem dX9_isle_1 : decode cX9_isle 1 = .ok (.iconst 0, 1) := by decide +kernel
theorem dX9_isle_2 : decode cX9_isle 2 = .ok (.putfield 44, 3) := by decide +kernel
theorem dX9_isle_5 : decode cX9_isle 5 = .ok (.aload_n 0, 1) := by decide +kernel
theorem dX9_isle_6 : decode cX9_isle 6 = .ok (.invokevirtual 126, 3) := by decide +kernel
theorem dX9_isle_9 : decode cX9_isle 9 = .ok (.iconst 0, 1) := by decide +kernel
theorem dX9_isle_10 : decode cX9_isle 10 = .ok (.istore_n 1, 1) := by decide +kernel
theorem dX9_isle_11 : decode cX9_isle 11 = .ok (.iload_n 1, 1) := by decide +kernel
theorem dX9_isle_12 : decode cX9_isle 12 = .ok (.bipush 51, 2) := by decide +kernel
theorem dX9_isle_14 : decode cX9_isle 14 = .ok (.if_icmp .ge 16, 3) := by decide +kernel
theorem dX9_isle_17 : decode cX9_isle 17 = .ok (.aload_n 0, 1) := by decide +kernel
theorem dX9_isle_18 : decode cX9_isle 18 = .ok (.getfield 22, 3) := by decide +kernel
theorem dX9_isle_21 : decode cX9_isle 21 = .ok (.iload_n 1, 1) := by decide +kernel
theorem dX9_isle_22 : decode cX9_isle 22 = .ok (.iconst 0, 1) := by decide +kernel
theorem dX9_isle_23 : decode cX9_isle 23 = .ok (.iastore, 1) := by decide +kernel
theorem dX9_isle_24 : decode cX9_isle 24 = .ok (.iinc 1 1, 3) := by decide +kernel
theorem dX9_isle_27 : decode cX9_isle 27 = .ok (.goto (-16), 3) := by decide +kernel
theorem dX9_isle_30 : decode cX9_isle 30 = .ok (.aload_n 0, 1) := by decide +kernel
theorem dX9_isle_31 : decode cX9_isle 31 = .ok (.getfield 22, 3) := by decide +kernel
theorem dX9_isle_34 : decode cX9_isle 34 = .ok (.iconst 0, 1) := by decide +kernel
theorem dX9_isle_35 : decode cX9_isle 35 = .ok (.iconst 1, 1) := by decide +kernel
theorem dX9_isle_36 : decode cX9_isle 36 = .ok (.iastore, 1) := by decide +kernel
theorem dX9_isle_37 : decode cX9_isle 37 = .ok (.aload_n 0, 1) := by decide +kernel
theorem dX9_isle_38 : decode cX9_isle 38 = .ok (.aload_n 0, 1) := by decide +kernel
theorem dX9_isle_39 : decode cX9_isle 39 = .ok (.bipush 105, 2) := by decide +kernel
theorem dX9_isle_41 : decode cX9_isle 41 = .ok (.invokevirtual 129, 3) := by decide +kernel
theorem dX9_isle_44 : decode cX9_isle 44 = .ok (.invokevirtual 109, 3) := by decide +kernel
theorem dX9_isle_47 : decode cX9_isle 47 = .ok (.aload_n 0, 1) := by decide +kernel
theorem dX9_isle_48 : decode cX9_isle 48 = .ok (.getfield 22, 3) := by decide +kernel
theorem dX9_isle_51 : decode cX9_isle 51 = .ok (.iconst 1, 1) := by decide +kernel
theorem dX9_isle_52 : decode cX9_isle 52 = .ok (.aload_n 0, 1) := by decide +kernel
theorem dX9_isle_53 : decode cX9_isle 53 = .ok (.iconst 0, 1) := by decide +kernel
theorem dX9_isle_54 : decode cX9_isle 54 = .ok (.bipush 9, 2) := by decide +kernel
theorem dX9_isle_56 : decode cX9_isle 56 = .ok (.invokevirtual 119, 3) := by decide +kernel
theorem dX9_isle_59 : decode cX9_isle 59 = .ok (.iastore, 1) := by decide +kernel
theorem dX9_isle_60 : decode cX9_isle 60 = .ok (.aload_n 0, 1) := by decide +kernel
theorem dX9_isle_61 : decode cX9_isle 61 = .ok (.bipush 44, 2) := by decide +kernel
theorem dX9_isle_63 : decode cX9_isle 63 = .ok (.invokevirtual 123, 3) := by decide +kernel
theorem dX9_isle_66 : decode cX9_isle 66 = .ok (.aload_n 0, 1) := by decide +kernel
theorem dX9_isle_67 : decode cX9_isle 67 = .ok (.getfield 22, 3) := by decide +kernel
theorem dX9_isle_70 : decode cX9_isle 70 = .ok (.iconst 2, 1) := by decide +kernel
theorem dX9_isle_71 : decode cX9_isle 71 = .ok (.aload_n 0, 1) := by decide +kernel
theorem dX9_isle_72 : decode cX9_isle 72 = .ok (.aload_n 0, 1) := by decide +kernel
theorem dX9_isle_73 : decode cX9_isle 73 = .ok (.getfield 22, 3) := by decide +kernel
theorem dX9_isle_76 : decode cX9_isle 76 = .ok (.iconst 1, 1) := by decide +kernel
theorem dX9_isle_77 : decode cX9_isle 77 = .ok (.iaload, 1) := by decide +kernel
theorem dX9_isle_78 : decode cX9_isle 78 = .ok (.bipush 9, 2) := by decide +kernel
theorem dX9_isle_80 : decode cX9_isle 80 = .ok (.invokevirtual 119, 3) := by decide +kernel
theorem dX9_isle_83 : decode cX9_isle 83 = .ok (.iastore, 1) := by decide +kernel
theorem dX9_isle_84 : decode cX9_isle 84 = .ok (.aload_n 0, 1) := by decide +kernel
theorem dX9_isle_85 : decode cX9_isle 85 = .ok (.bipush 44, 2) := by decide +kernel
theorem dX9_isle_87 : decode cX9_isle 87 = .ok (.invokevirtual 123, 3) := by decide +kernel
theorem dX9_isle_90 : decode cX9_isle 90 = .ok (.aload_n 0, 1) := by decide +kernel
theorem dX9_isle_91 : decode cX9_isle 91 = .ok (.getfield 22, 3) := by decide +kernel
theorem dX9_isle_94 : decode cX9_isle 94 = .ok (.iconst 3, 1) := by decide +kernel
theorem dX9_isle_95 : decode cX9_isle 95 = .ok (.aload_n 0, 1) := by decide +kernel
theorem dX9_isle_96 : decode cX9_isle 96 = .ok (.iconst 1, 1) := by decide +kernel
theorem dX9_isle_97 : decode cX9_isle 97 = .ok (.bipush 9, 2) := by decide +kernel
theorem dX9_isle_99 : decode cX9_isle 99 = .ok (.invokevirtual 119, 3) := by decide +kernel
theorem dX9_isle_102 : decode cX9_isle 102 = .ok (.iastore, 1) := by decide +kernel
theorem dX9_isle_103 : decode cX9_isle 103 = .ok (.aload_n 0, 1) := by decide +kernel
theorem dX9_isle_104 : decode cX9_isle 104 = .ok (.bipush 59, 2) := by decide +kernel
theorem dX9_isle_106 : decode cX9_isle 106 = .ok (.invokevirtual 123, 3) := by decide +kernel
theorem dX9_isle_109 : decode cX9_isle 109 = .ok (.aload_n 0, 1) := by decide +kernel
theorem dX9_isle_110 : decode cX9_isle 110 = .ok (.aload_n 0, 1) := by decide +kernel
theorem dX9_isle_111 : decode cX9_isle 111 = .ok (.bipush 104, 2) := by decide +kernel
theorem dX9_isle_113 : decode cX9_isle 113 = .ok (.invokevirtual 129, 3) := by decide +kernel
theorem dX9_isle_116 : decode cX9_isle 116 = .ok (.invokevirtual 109, 3) := by decide +kernel
theorem dX9_isle_119 : decode cX9_isle 119 = .ok (.iconst 0, 1) := by decide +kernel
theorem dX9_isle_120 : decode cX9_isle 120 = .ok (.istore_n 1, 1) := by decide +kernel
theorem dX9_isle_121 : decode cX9_isle 121 = .ok (.iload_n 1, 1) := by decide +kernel
theorem dX9_isle_122 : decode cX9_isle 122 = .ok (.bipush 15, 2) := by decide +kernel
theorem dX9_isle_124 : decode cX9_isle 124 = .ok (.if_icmp .ge 66, 3) := by decide +kernel
theorem dX9_isle_127 : decode cX9_isle 127 = .ok (.aload_n 0, 1) := by decide +kernel
theorem dX9_isle_128 : decode cX9_isle 128 = .ok (.getfield 75, 3) := by decide +kernel
theorem dX9_isle_131 : decode cX9_isle 131 = .ok (.ifCond .ne 59, 3) := by decide +kernel
theorem dX9_isle_134 : decode cX9_isle 134 = .ok (.aload_n 0, 1) := by decide +kernel
theorem dX9_isle_135 : decode cX9_isle 135 = .ok (.getfield 22, 3) := by decide +kernel
theorem dX9_isle_138 : decode cX9_isle 138 = .ok (.bipush 6, 2) := by decide +kernel
theorem dX9_isle_140 : decode cX9_isle 140 = .ok (.iload_n 1, 1) := by decide +kernel
theorem dX9_isle_141 : decode cX9_isle 141 = .ok (.iadd, 1) := by decide +kernel
theorem dX9_isle_142 : decode cX9_isle 142 = .ok (.aload_n 0, 1) := by decide +kernel
theorem dX9_isle_143 : decode cX9_isle 143 = .ok (.getfield 88, 3) := by decide +kernel
theorem dX9_isle_146 : decode cX9_isle 146 = .ok (.bipush 97, 2) := by decide +kernel
theorem dX9_isle_148 : decode cX9_isle 148 = .ok (.isub, 1) := by decide +kernel
theorem dX9_isle_149 : decode cX9_isle 149 = .ok (.iastore, 1) := by decide +kernel
theorem dX9_isle_150 : decode cX9_isle 150 = .ok (.aload_n 0, 1) := by decide +kernel
theorem dX9_isle_151 : decode cX9_isle 151 = .ok (.aload_n 0, 1) := by decide +kernel
theorem dX9_isle_152 : decode cX9_isle 152 = .ok (.getfield 99, 3) := by decide +kernel
theorem dX9_isle_155 : decode cX9_isle 155 = .ok (.iconst 2, 1) := by decide +kernel
theorem dX9_isle_156 : decode cX9_isle 156 = .ok (.if_icmp .ne 24, 3) := by decide +kernel
theorem dX9_isle_159 : decode cX9_isle 159 = .ok (.aload_n 0, 1) := by decide +kernel
theorem dX9_isle_160 : decode cX9_isle 160 = .ok (.getfield 88, 3) := by decide +kernel
theorem dX9_isle_163 : decode cX9_isle 163 = .ok (.i2l, 1) := by decide +kernel
theorem dX9_isle_164 : decode cX9_isle 164 = .ok (.ldc2_w 91, 3) := by decide +kernel
theorem dX9_isle_167 : decode cX9_isle 167 = .ok (.ldc2_w 132, 3) := by decide +kernel
theorem dX9_isle_170 : decode cX9_isle 170 = .ok (.invokestatic 54, 3) := by decide +kernel
theorem dX9_isle_173 : decode cX9_isle 173 = .ok (.ifCond .eq 7, 3) := by decide +kernel
theorem dX9_isle_176 : decode cX9_isle 176 = .ok (.iconst 1, 1) := by decide +kernel
theorem dX9_isle_177 : decode cX9_isle 177 = .ok (.goto 4, 3) := by decide +kernel
theorem dX9_isle_180 : decode cX9_isle 180 = .ok (.iconst 0, 1) := by decide +kernel
theorem dX9_isle_181 : decode cX9_isle 181 = .ok (.invokevirtual 109, 3) := by decide +kernel
theorem dX9_isle_184 : decode cX9_isle 184 = .ok (.iinc 1 1, 3) := by decide +kernel
theorem dX9_isle_187 : decode cX9_isle 187 = .ok (.goto (-66), 3) := by decide +kernel
theorem dX9_isle_190 : decode cX9_isle 190 = .ok (.aload_n 0, 1) := by decide +kernel
theorem dX9_isle_191 : decode cX9_isle 191 = .ok (.bipush 59, 2) := by decide +kernel
theorem dX9_isle_193 : decode cX9_isle 193 = .ok (.invokevirtual 123, 3) := by decide +kernel
theorem dX9_isle_196 : decode cX9_isle 196 = .ok (.aload_n 0, 1) := by decide +kernel
theorem dX9_isle_197 : decode cX9_isle 197 = .ok (.invokevirtual 134, 3) := by decide +kernel
theorem dX9_isle_200 : decode cX9_isle 200 = .ok (.ifCond .ne 8, 3) := by decide +kernel
theorem dX9_isle_203 : decode cX9_isle 203 = .ok (.aload_n 0, 1) := by decide +kernel
theorem dX9_isle_204 : decode cX9_isle 204 = .ok (.iconst 1, 1) := by decide +kernel
theorem dX9_isle_205 : decode cX9_isle 205 = .ok (.invokevirtual 102, 3) := by decide +kernel
theorem dX9_isle_208 : decode cX9_isle 208 = .ok (.aload_n 0, 1) := by decide +kernel
theorem dX9_isle_209 : decode cX9_isle 209 = .ok (.invokevirtual 134, 3) := by decide +kernel
theorem dX9_isle_212 : decode cX9_isle 212 = .ok (.ifCond .eq 10, 3) := by decide +kernel
theorem dX9_isle_215 : decode cX9_isle 215 = .ok (.aload_n 0, 1) := by decide +kernel
theorem dX9_isle_216 : decode cX9_isle 216 = .ok (.invokevirtual 138, 3) := by decide +kernel
theorem dX9_isle_219 : decode cX9_isle 219 = .ok (.goto (-11), 3) := by decide +kernel
theorem dX9_isle_222 : decode cX9_isle 222 = .ok (.aload_n 0, 1) := by decide +kernel
theorem dX9_isle_223 : decode cX9_isle 223 = .ok (.invokevirtual 141, 3) := by decide +kernel
theorem dX9_isle_226 : decode cX9_isle 226 = .ok (.ifCond .eq 11, 3) := by decide +kernel
theorem dX9_isle_229 : decode cX9_isle 229 = .ok (.ldc 144, 2) := by decide +kernel
theorem dX9_isle_231 : decode cX9_isle 231 = .ok (.aload_n 0, 1) := by decide +kernel
theorem dX9_isle_232 : decode cX9_isle 232 = .ok (.getfield 81, 3) := by decide +kernel
theorem dX9_isle_235 : decode cX9_isle 235 = .ok (.isub, 1) := by decide +kernel
theorem dX9_isle_236 : decode cX9_isle 236 = .ok (.ireturn, 1) := by decide +kernel
theorem dX9_isle_237 : decode cX9_isle 237 = .ok (.aload_n 0, 1) := by decide +kernel
theorem dX9_isle_238 : decode cX9_isle 238 = .ok (.iconst 0, 1) := by decide +kernel
theorem dX9_isle_239 : decode cX9_isle 239 = .ok (.putfield 145, 3) := by decide +kernel
theorem dX9_isle_242 : decode cX9_isle 242 = .ok (.iconst 0, 1) := by decide +kernel
theorem dX9_isle_243 : decode cX9_isle 243 = .ok (.istore_n 1, 1) := by decide +kernel
theorem dX9_isle_244 : decode cX9_isle 244 = .ok (.iload_n 1, 1) := by decide +kernel
theorem dX9_isle_245 : decode cX9_isle 245 = .ok (.bipush 51, 2) := by decide +kernel
theorem dX9_isle_247 : decode cX9_isle 247 = .ok (.if_icmp .ge 21, 3) := by decide +kernel
theorem dX9_isle_250 : decode cX9_isle 250 = .ok (.aload_n 0, 1) := by decide +kernel
theorem dX9_isle_251 : decode cX9_isle 251 = .ok (.getfield 19, 3) := by decide +kernel
theorem dX9_isle_254 : decode cX9_isle 254 = .ok (.iload_n 1, 1) := by decide +kernel
theorem dX9_isle_255 : decode cX9_isle 255 = .ok (.aload_n 0, 1) := by decide +kernel
theorem dX9_isle_256 : decode cX9_isle 256 = .ok (.getfield 22, 3) := by decide +kernel
theorem dX9_isle_259 : decode cX9_isle 259 = .ok (.iload_n 1, 1) := by decide +kernel
theorem dX9_isle_260 : decode cX9_isle 260 = .ok (.iaload, 1) := by decide +kernel
theorem dX9_isle_261 : decode cX9_isle 261 = .ok (.iastore, 1) := by decide +kernel
theorem dX9_isle_262 : decode cX9_isle 262 = .ok (.iinc 1 1, 3) := by decide +kernel
theorem dX9_isle_265 : decode cX9_isle 265 = .ok (.goto (-21), 3) := by decide +kernel
theorem dX9_isle_268 : decode cX9_isle 268 = .ok (.aload_n 0, 1) := by decide +kernel
theorem dX9_isle_269 : decode cX9_isle 269 = .ok (.getfield 19, 3) := by decide +kernel
theorem dX9_isle_272 : decode cX9_isle 272 = .ok (.iconst 4, 1) := by decide +kernel
theorem dX9_isle_273 : decode cX9_isle 273 = .ok (.iaload, 1) := by decide +kernel
theorem dX9_isle_274 : decode cX9_isle 274 = .ok (.ireturn, 1) := by decide +kernel
theorem dX9_isThere_0 : decode cX9_isThere 0 = .ok (.aload_n 0, 1) := by decide +kernel
theorem dX9_isThere_1 : decode cX9_isThere 1 = .ok (.getfield 19, 3) := by decide +kernel
theorem dX9_isThere_4 : decode cX9_isThere 4 = .ok (.iconst 0, 1) := by decide +kernel
theorem dX9_isThere_5 : decode cX9_isThere 5 = .ok (.iaload, 1) := by decide +kernel
theorem dX9_isThere_6 : decode cX9_isThere 6 = .ok (.iconst 1, 1) := by decide +kernel
theorem dX9_isThere_7 : decode cX9_isThere 7 = .ok (.if_icmp .ne 7, 3) := by decide +kernel
theorem dX9_isThere_10 : decode cX9_isThere 10 = .ok (.iconst 1, 1) := by decide +kernel
theorem dX9_isThere_11 : decode cX9_isThere 11 = .ok (.goto 4, 3) := by decide +kernel
theorem dX9_isThere_14 : decode cX9_isThere 14 = .ok (.iconst 0, 1) := by decide +kernel
theorem dX9_isThere_15 : decode cX9_isThere 15 = .ok (.ireturn, 1) := by decide +kernel
set_option maxRecDepth 20000 in
theorem ggX9_isBidder_X9_in : GoodIn wsX9_isBidder wsX9_in := goodIn_r _ [5] (by decide +kernel) (by decide +kernel)
set_option maxRecDepth 20000 in
theorem gX9_isBidder_X9_in : GoodIn wsX9_isBidder (va_wsS RX9 54 yX9_in wsX9_in) := goodIn_app (goodIn_of _ (by decide +kernel)) ggX9_isBidder_X9_in
theorem dX9_isBidder_0 : decode cX9_isBidder 0 = .ok (.iload_n 1, 1) := by decide +kernel
theorem dX9_isBidder_1 : decode cX9_isBidder 1 = .ok (.i2l, 1) := by decide +kernel
theorem dX9_isBidder_2 : decode cX9_isBidder 2 = .ok (.lconst 0, 1) := by decide +kernel
theorem dX9_isBidder_3 : decode cX9_isBidder 3 = .ok (.aload_n 0, 1) := by decide +kernel
theorem dX9_isBidder_4 : decode cX9_isBidder 4 = .ok (.getfield 19, 3) := by decide +kernel
theorem dX9_isBidder_7 : decode cX9_isBidder 7 = .ok (.iconst 4, 1) := by decide +kernel
theorem dX9_isBidder_8 : decode cX9_isBidder 8 = .ok (.iaload, 1) := by decide +kernel
theorem dX9_isBidder_9 : decode cX9_isBidder 9 = .ok (.iconst 1, 1) := by decide +kernel
theorem dX9_isBidder_10 : decode cX9_isBidder 10 = .ok (.isub, 1) := by decide +kernel
theorem dX9_isBidder_11 : decode cX9_isBidder 11 = .ok (.i2l, 1) := by decide +kernel
theorem dX9_isBidder_12 : decode cX9_isBidder 12 = .ok (.invokestatic 54, 3) := by decide +kernel
theorem dX9_isBidder_15 : decode cX9_isBidder 15 = .ok (.ireturn, 1) := by decide +kernel
set_option maxRecDepth 20000 in
theorem ggX9_isCell_X9_in : GoodIn wsX9_isCell wsX9_in := goodIn_r _ [5] (by decide +kernel) (by decide +kernel)
set_option maxRecDepth 20000 in
theorem gX9_isCell_X9_in : GoodIn wsX9_isCell (va_wsS RX9 54 yX9_in wsX9_in) := goodIn_app (goodIn_of _ (by decide +kernel)) ggX9_isCell_X9_in
theorem dX9_isCell_0 : decode cX9_isCell 0 = .ok (.iload_n 0, 1) := by decide +kernel
theorem dX9_isCell_1 : decode cX9_isCell 1 = .ok (.i2l, 1) := by decide +kernel
theorem dX9_isCell_2 : decode cX9_isCell 2 = .ok (.lconst 0, 1) := by decide +kernel
theorem dX9_isCell_3 : decode cX9_isCell 3 = .ok (.ldc2_w 148, 3) := by decide +kernel
theorem dX9_isCell_6 : decode cX9_isCell 6 = .ok (.invokestatic 54, 3) := by decide +kernel
theorem dX9_isCell_9 : decode cX9_isCell 9 = .ok (.ireturn, 1) := by decide +kernel
theorem dX9_of_0 : decode cX9_of 0 = .ok (.aload_n 0, 1) := by decide +kernel
theorem dX9_of_1 : decode cX9_of 1 = .ok (.bipush 36, 2) := by decide +kernel
theorem dX9_of_3 : decode cX9_of 3 = .ok (.iconst 3, 1) := by decide +kernel
theorem dX9_of_4 : decode cX9_of 4 = .ok (.iload_n 1, 1) := by decide +kernel
theorem dX9_of_5 : decode cX9_of 5 = .ok (.imul, 1) := by decide +kernel
theorem dX9_of_6 : decode cX9_of 6 = .ok (.iadd, 1) := by decide +kernel
theorem dX9_of_7 : decode cX9_of 7 = .ok (.iload_n 2, 1) := by decide +kernel
theorem dX9_of_8 : decode cX9_of 8 = .ok (.iadd, 1) := by decide +kernel
theorem dX9_of_9 : decode cX9_of 9 = .ok (.iaload, 1) := by decide +kernel
theorem dX9_of_10 : decode cX9_of 10 = .ok (.ireturn, 1) := by decide +kernel
theorem dX9_levelBy_0 : decode cX9_levelBy 0 = .ok (.iload_n 1, 1) := by decide +kernel
theorem dX9_levelBy_1 : decode cX9_levelBy 1 = .ok (.bipush 12, 2) := by decide +kernel
theorem dX9_levelBy_3 : decode cX9_levelBy 3 = .ok (.irem, 1) := by decide +kernel
theorem dX9_levelBy_4 : decode cX9_levelBy 4 = .ok (.istore_n 2, 1) := by decide +kernel
theorem dX9_levelBy_5 : decode cX9_levelBy 5 = .ok (.iload_n 2, 1) := by decide +kernel
theorem dX9_levelBy_6 : decode cX9_levelBy 6 = .ok (.bipush 6, 2) := by decide +kernel
theorem dX9_levelBy_8 : decode cX9_levelBy 8 = .ok (.if_icmp .le 10, 3) := by decide +kernel
theorem dX9_levelBy_11 : decode cX9_levelBy 11 = .ok (.bipush 12, 2) := by decide +kernel
theorem dX9_levelBy_13 : decode cX9_levelBy 13 = .ok (.iload_n 2, 1) := by decide +kernel
theorem dX9_levelBy_14 : decode cX9_levelBy 14 = .ok (.isub, 1) := by decide +kernel
theorem dX9_levelBy_15 : decode cX9_levelBy 15 = .ok (.goto 4, 3) := by decide +kernel
theorem dX9_levelBy_18 : decode cX9_levelBy 18 = .ok (.iload_n 2, 1) := by decide +kernel
theorem dX9_levelBy_19 : decode cX9_levelBy 19 = .ok (.istore_n 2, 1) := by decide +kernel
theorem dX9_levelBy_20 : decode cX9_levelBy 20 = .ok (.aload_n 0, 1) := by decide +kernel
theorem dX9_levelBy_21 : decode cX9_levelBy 21 = .ok (.iconst 1, 1) := by decide +kernel
theorem dX9_levelBy_22 : decode cX9_levelBy 22 = .ok (.iaload, 1) := by decide +kernel
theorem dX9_levelBy_23 : decode cX9_levelBy 23 = .ok (.aload_n 0, 1) := by decide +kernel
theorem dX9_levelBy_24 : decode cX9_levelBy 24 = .ok (.iconst 2, 1) := by decide +kernel
theorem dX9_levelBy_25 : decode cX9_levelBy 25 = .ok (.iaload, 1) := by decide +kernel
theorem dX9_levelBy_26 : decode cX9_levelBy 26 = .ok (.aload_n 0, 1) := by decide +kernel
theorem dX9_levelBy_27 : decode cX9_levelBy 27 = .ok (.iconst 1, 1) := by decide +kernel
theorem dX9_levelBy_28 : decode cX9_levelBy 28 = .ok (.iaload, 1) := by decide +kernel
theorem dX9_levelBy_29 : decode cX9_levelBy 29 = .ok (.isub, 1) := by decide +kernel
theorem dX9_levelBy_30 : decode cX9_levelBy 30 = .ok (.iload_n 2, 1) := by decide +kernel
theorem dX9_levelBy_31 : decode cX9_levelBy 31 = .ok (.imul, 1) := by decide +kernel
theorem dX9_levelBy_32 : decode cX9_levelBy 32 = .ok (.bipush 6, 2) := by decide +kernel
theorem dX9_levelBy_34 : decode cX9_levelBy 34 = .ok (.idiv, 1) := by decide +kernel
theorem dX9_levelBy_35 : decode cX9_levelBy 35 = .ok (.iadd, 1) := by decide +kernel
theorem dX9_levelBy_36 : decode cX9_levelBy 36 = .ok (.ireturn, 1) := by decide +kernel
set_option maxRecDepth 20000 in
theorem ggX9_isDry_X9_levelBy : GoodIn wsX9_isDry wsX9_levelBy := goodIn_r _ [4] (by decide +kernel) (by decide +kernel)
set_option maxRecDepth 20000 in
theorem gX9_isDry_X9_levelBy : GoodIn wsX9_isDry (va_wsS RX9 150 yX9_levelBy wsX9_levelBy) := goodIn_app (goodIn_of _ (by decide +kernel)) ggX9_isDry_X9_levelBy
theorem dX9_isDry_0 : decode cX9_isDry 0 = .ok (.aload_n 0, 1) := by decide +kernel
theorem dX9_isDry_1 : decode cX9_isDry 1 = .ok (.bipush 6, 2) := by decide +kernel
theorem dX9_isDry_3 : decode cX9_isDry 3 = .ok (.iload_n 1, 1) := by decide +kernel
theorem dX9_isDry_4 : decode cX9_isDry 4 = .ok (.iadd, 1) := by decide +kernel
theorem dX9_isDry_5 : decode cX9_isDry 5 = .ok (.iaload, 1) := by decide +kernel
theorem dX9_isDry_6 : decode cX9_isDry 6 = .ok (.aload_n 0, 1) := by decide +kernel
theorem dX9_isDry_7 : decode cX9_isDry 7 = .ok (.aload_n 0, 1) := by decide +kernel
theorem dX9_isDry_8 : decode cX9_isDry 8 = .ok (.iconst 5, 1) := by decide +kernel
theorem dX9_isDry_9 : decode cX9_isDry 9 = .ok (.iaload, 1) := by decide +kernel
theorem dX9_isDry_10 : decode cX9_isDry 10 = .ok (.invokestatic 150, 3) := by decide +kernel
theorem dX9_isDry_13 : decode cX9_isDry 13 = .ok (.if_icmp .le 7, 3) := by decide +kernel
theorem dX9_isDry_16 : decode cX9_isDry 16 = .ok (.iconst 1, 1) := by decide +kernel
theorem dX9_isDry_17 : decode cX9_isDry 17 = .ok (.goto 4, 3) := by decide +kernel
theorem dX9_isDry_20 : decode cX9_isDry 20 = .ok (.iconst 0, 1) := by decide +kernel
theorem dX9_isDry_21 : decode cX9_isDry 21 = .ok (.ireturn, 1) := by decide +kernel
set_option maxRecDepth 20000 in
theorem ggX9_dryOf_X9_isDry : GoodIn wsX9_dryOf wsX9_isDry := goodIn_r _ [4, 5, 6, 3, 7] (by decide +kernel) (by decide +kernel)
set_option maxRecDepth 20000 in
theorem gX9_dryOf_X9_isDry : GoodIn wsX9_dryOf (va_wsS RX9 154 yX9_isDry wsX9_isDry) := goodIn_app (goodIn_of _ (by decide +kernel)) ggX9_dryOf_X9_isDry
theorem dX9_dryOf_0 : decode cX9_dryOf 0 = .ok (.iconst 0, 1) := by decide +kernel
theorem dX9_dryOf_1 : decode cX9_dryOf 1 = .ok (.istore_n 1, 1) := by decide +kernel
theorem dX9_dryOf_2 : decode cX9_dryOf 2 = .ok (.iconst 0, 1) := by decide +kernel
theorem dX9_dryOf_3 : decode cX9_dryOf 3 = .ok (.istore_n 2, 1) := by decide +kernel
theorem dX9_dryOf_4 : decode cX9_dryOf 4 = .ok (.iload_n 2, 1) := by decide +kernel
theorem dX9_dryOf_5 : decode cX9_dryOf 5 = .ok (.bipush 15, 2) := by decide +kernel
theorem dX9_dryOf_7 : decode cX9_dryOf 7 = .ok (.if_icmp .ge 27, 3) := by decide +kernel
theorem dX9_dryOf_10 : decode cX9_dryOf 10 = .ok (.iload_n 1, 1) := by decide +kernel
theorem dX9_dryOf_11 : decode cX9_dryOf 11 = .ok (.aload_n 0, 1) := by decide +kernel
theorem dX9_dryOf_12 : decode cX9_dryOf 12 = .ok (.iload_n 2, 1) := by decide +kernel
theorem dX9_dryOf_13 : decode cX9_dryOf 13 = .ok (.invokestatic 154, 3) := by decide +kernel
theorem dX9_dryOf_16 : decode cX9_dryOf 16 = .ok (.ifCond .eq 9, 3) := by decide +kernel
theorem dX9_dryOf_19 : decode cX9_dryOf 19 = .ok (.iconst 1, 1) := by decide +kernel
theorem dX9_dryOf_20 : decode cX9_dryOf 20 = .ok (.iload_n 2, 1) := by decide +kernel
theorem dX9_dryOf_21 : decode cX9_dryOf 21 = .ok (.ishl, 1) := by decide +kernel
theorem dX9_dryOf_22 : decode cX9_dryOf 22 = .ok (.goto 4, 3) := by decide +kernel
theorem dX9_dryOf_25 : decode cX9_dryOf 25 = .ok (.iconst 0, 1) := by decide +kernel
theorem dX9_dryOf_26 : decode cX9_dryOf 26 = .ok (.ior, 1) := by decide +kernel
theorem dX9_dryOf_27 : decode cX9_dryOf 27 = .ok (.istore_n 1, 1) := by decide +kernel
theorem dX9_dryOf_28 : decode cX9_dryOf 28 = .ok (.iinc 2 1, 3) := by decide +kernel
theorem dX9_dryOf_31 : decode cX9_dryOf 31 = .ok (.goto (-27), 3) := by decide +kernel
theorem dX9_dryOf_34 : decode cX9_dryOf 34 = .ok (.iload_n 1, 1) := by decide +kernel
theorem dX9_dryOf_35 : decode cX9_dryOf 35 = .ok (.ireturn, 1) := by decide +kernel
set_option maxRecDepth 20000 in
theorem ggX9_deepOf_X9_isDry : GoodIn wsX9_deepOf wsX9_isDry := goodIn_r _ [4, 5, 6, 3, 7] (by decide +kernel) (by decide +kernel)
set_option maxRecDepth 20000 in
theorem gX9_deepOf_X9_isDry : GoodIn wsX9_deepOf (va_wsS RX9 154 yX9_isDry wsX9_isDry) := goodIn_app (goodIn_of _ (by decide +kernel)) ggX9_deepOf_X9_isDry
set_option maxRecDepth 20000 in
theorem ggX9_deepOf_X9_levelBy : GoodIn wsX9_deepOf wsX9_levelBy := goodIn_r _ [7] (by decide +kernel) (by decide +kernel)
set_option maxRecDepth 20000 in
theorem gX9_deepOf_X9_levelBy : GoodIn wsX9_deepOf (va_wsS RX9 150 yX9_levelBy wsX9_levelBy) := goodIn_app (goodIn_of _ (by decide +kernel)) ggX9_deepOf_X9_levelBy
theorem dX9_deepOf_0 : decode cX9_deepOf 0 = .ok (.aload_n 0, 1) := by decide +kernel
theorem dX9_deepOf_1 : decode cX9_deepOf 1 = .ok (.iload_n 1, 1) := by decide +kernel
theorem dX9_deepOf_2 : decode cX9_deepOf 2 = .ok (.invokestatic 154, 3) := by decide +kernel
theorem dX9_deepOf_5 : decode cX9_deepOf 5 = .ok (.ifCond .eq 7, 3) := by decide +kernel
theorem dX9_deepOf_8 : decode cX9_deepOf 8 = .ok (.iconst 0, 1) := by decide +kernel
theorem dX9_deepOf_9 : decode cX9_deepOf 9 = .ok (.goto 17, 3) := by decide +kernel
theorem dX9_deepOf_12 : decode cX9_deepOf 12 = .ok (.aload_n 0, 1) := by decide +kernel
theorem dX9_deepOf_13 : decode cX9_deepOf 13 = .ok (.aload_n 0, 1) := by decide +kernel
theorem dX9_deepOf_14 : decode cX9_deepOf 14 = .ok (.iconst 5, 1) := by decide +kernel
theorem dX9_deepOf_15 : decode cX9_deepOf 15 = .ok (.iaload, 1) := by decide +kernel
theorem dX9_deepOf_16 : decode cX9_deepOf 16 = .ok (.invokestatic 150, 3) := by decide +kernel
theorem dX9_deepOf_19 : decode cX9_deepOf 19 = .ok (.aload_n 0, 1) := by decide +kernel
theorem dX9_deepOf_20 : decode cX9_deepOf 20 = .ok (.bipush 6, 2) := by decide +kernel
theorem dX9_deepOf_22 : decode cX9_deepOf 22 = .ok (.iload_n 1, 1) := by decide +kernel
theorem dX9_deepOf_23 : decode cX9_deepOf 23 = .ok (.iadd, 1) := by decide +kernel
theorem dX9_deepOf_24 : decode cX9_deepOf 24 = .ok (.iaload, 1) := by decide +kernel
theorem dX9_deepOf_25 : decode cX9_deepOf 25 = .ok (.isub, 1) := by decide +kernel
theorem dX9_deepOf_26 : decode cX9_deepOf 26 = .ok (.ireturn, 1) := by decide +kernel
theorem dX9_priceBy_0 : decode cX9_priceBy 0 = .ok (.aload_n 0, 1) := by decide +kernel
theorem dX9_priceBy_1 : decode cX9_priceBy 1 = .ok (.iconst 3, 1) := by decide +kernel
theorem dX9_priceBy_2 : decode cX9_priceBy 2 = .ok (.iaload, 1) := by decide +kernel
theorem dX9_priceBy_3 : decode cX9_priceBy 3 = .ok (.aload_n 0, 1) := by decide +kernel
theorem dX9_priceBy_4 : decode cX9_priceBy 4 = .ok (.bipush 6, 2) := by decide +kernel
theorem dX9_priceBy_6 : decode cX9_priceBy 6 = .ok (.iload_n 2, 1) := by decide +kernel
theorem dX9_priceBy_7 : decode cX9_priceBy 7 = .ok (.iadd, 1) := by decide +kernel
theorem dX9_priceBy_8 : decode cX9_priceBy 8 = .ok (.iaload, 1) := by decide +kernel
theorem dX9_priceBy_9 : decode cX9_priceBy 9 = .ok (.imul, 1) := by decide +kernel
theorem dX9_priceBy_10 : decode cX9_priceBy 10 = .ok (.istore_n 3, 1) := by decide +kernel
theorem dX9_priceBy_11 : decode cX9_priceBy 11 = .ok (.iload_n 1, 1) := by decide +kernel
theorem dX9_priceBy_12 : decode cX9_priceBy 12 = .ok (.tableswitch 46 1 4 #[32, 34, 38, 42], 32) := by decide +kernel
theorem dX9_priceBy_44 : decode cX9_priceBy 44 = .ok (.iload_n 3, 1) := by decide +kernel
theorem dX9_priceBy_45 : decode cX9_priceBy 45 = .ok (.ireturn, 1) := by decide +kernel
theorem dX9_priceBy_46 : decode cX9_priceBy 46 = .ok (.iload_n 3, 1) := by decide +kernel
theorem dX9_priceBy_47 : decode cX9_priceBy 47 = .ok (.iconst 2, 1) := by decide +kernel
theorem dX9_priceBy_48 : decode cX9_priceBy 48 = .ok (.idiv, 1) := by decide +kernel
theorem dX9_priceBy_49 : decode cX9_priceBy 49 = .ok (.ireturn, 1) := by decide +kernel
theorem dX9_priceBy_50 : decode cX9_priceBy 50 = .ok (.iload_n 3, 1) := by decide +kernel
theorem dX9_priceBy_51 : decode cX9_priceBy 51 = .ok (.iconst 1, 1) := by decide +kernel
theorem dX9_priceBy_52 : decode cX9_priceBy 52 = .ok (.iadd, 1) := by decide +kernel
theorem dX9_priceBy_53 : decode cX9_priceBy 53 = .ok (.ireturn, 1) := by decide +kernel
theorem dX9_priceBy_54 : decode cX9_priceBy 54 = .ok (.aload_n 0, 1) := by decide +kernel
theorem dX9_priceBy_55 : decode cX9_priceBy 55 = .ok (.iconst 3, 1) := by decide +kernel
theorem dX9_priceBy_56 : decode cX9_priceBy 56 = .ok (.iaload, 1) := by decide +kernel
theorem dX9_priceBy_57 : decode cX9_priceBy 57 = .ok (.ireturn, 1) := by decide +kernel
theorem dX9_priceBy_58 : decode cX9_priceBy 58 = .ok (.iconst 0, 1) := by decide +kernel
theorem dX9_priceBy_59 : decode cX9_priceBy 59 = .ok (.ireturn, 1) := by decide +kernel
set_option maxRecDepth 20000 in
theorem ggX9_mayHave_X9_isDry : GoodIn wsX9_mayHave wsX9_isDry := goodIn_r _ [4, 5, 6, 3, 7] (by decide +kernel) (by decide +kernel)
set_option maxRecDepth 20000 in
theorem gX9_mayHave_X9_isDry : GoodIn wsX9_mayHave (va_wsS RX9 154 yX9_isDry wsX9_isDry) := goodIn_app (goodIn_of _ (by decide +kernel)) ggX9_mayHave_X9_isDry
set_option maxRecDepth 20000 in
theorem ggX9_mayHave_X9_of : GoodIn wsX9_mayHave wsX9_of := goodIn_r _ [10] (by decide +kernel) (by decide +kernel)
set_option maxRecDepth 20000 in
theorem gX9_mayHave_X9_of : GoodIn wsX9_mayHave (va_wsS RX9 158 yX9_of wsX9_of) := goodIn_app (goodIn_of _ (by decide +kernel)) ggX9_mayHave_X9_of
theorem dX9_mayHave_0 : decode cX9_mayHave 0 = .ok (.aload_n 0, 1) := by decide +kernel
theorem dX9_mayHave_1 : decode cX9_mayHave 1 = .ok (.iload_n 2, 1) := by decide +kernel
theorem dX9_mayHave_2 : decode cX9_mayHave 2 = .ok (.invokestatic 154, 3) := by decide +kernel
theorem dX9_mayHave_5 : decode cX9_mayHave 5 = .ok (.aload_n 0, 1) := by decide +kernel
theorem dX9_mayHave_6 : decode cX9_mayHave 6 = .ok (.iload_n 1, 1) := by decide +kernel
theorem dX9_mayHave_7 : decode cX9_mayHave 7 = .ok (.iconst 0, 1) := by decide +kernel
theorem dX9_mayHave_8 : decode cX9_mayHave 8 = .ok (.invokestatic 158, 3) := by decide +kernel
theorem dX9_mayHave_11 : decode cX9_mayHave 11 = .ok (.iconst 5, 1) := by decide +kernel
theorem dX9_mayHave_12 : decode cX9_mayHave 12 = .ok (.if_icmp .ne 7, 3) := by decide +kernel
theorem dX9_mayHave_15 : decode cX9_mayHave 15 = .ok (.iconst 1, 1) := by decide +kernel
theorem dX9_mayHave_16 : decode cX9_mayHave 16 = .ok (.goto 4, 3) := by decide +kernel
theorem dX9_mayHave_19 : decode cX9_mayHave 19 = .ok (.iconst 0, 1) := by decide +kernel
theorem dX9_mayHave_20 : decode cX9_mayHave 20 = .ok (.if_icmp .eq 7, 3) := by decide +kernel
theorem dX9_mayHave_23 : decode cX9_mayHave 23 = .ok (.iconst 1, 1) := by decide +kernel
theorem dX9_mayHave_24 : decode cX9_mayHave 24 = .ok (.goto 4, 3) := by decide +kernel
theorem dX9_mayHave_27 : decode cX9_mayHave 27 = .ok (.iconst 0, 1) := by decide +kernel
theorem dX9_mayHave_28 : decode cX9_mayHave 28 = .ok (.ireturn, 1) := by decide +kernel
set_option maxRecDepth 20000 in
theorem ggX9_isLostBy_X9_isDry : GoodIn wsX9_isLostBy wsX9_isDry := goodIn_r _ [4, 5, 6, 3, 7] (by decide +kernel) (by decide +kernel)
set_option maxRecDepth 20000 in
theorem gX9_isLostBy_X9_isDry : GoodIn wsX9_isLostBy (va_wsS RX9 154 yX9_isDry wsX9_isDry) := goodIn_app (goodIn_of _ (by decide +kernel)) ggX9_isLostBy_X9_isDry
set_option maxRecDepth 20000 in
theorem ggX9_isLostBy_X9_deepOf : GoodIn wsX9_isLostBy wsX9_deepOf := goodIn_r _ [10, 1, 2, 3, 4, 5, 6, 7] (by decide +kernel) (by decide +kernel)
set_option maxRecDepth 20000 in
theorem gX9_isLostBy_X9_deepOf : GoodIn wsX9_isLostBy (va_wsS RX9 162 yX9_deepOf wsX9_deepOf) := goodIn_app (goodIn_of _ (by decide +kernel)) ggX9_isLostBy_X9_deepOf
theorem dX9_isLostBy_0 : decode cX9_isLostBy 0 = .ok (.aload_n 0, 1) := by decide +kernel
theorem dX9_isLostBy_1 : decode cX9_isLostBy 1 = .ok (.iload_n 2, 1) := by decide +kernel
theorem dX9_isLostBy_2 : decode cX9_isLostBy 2 = .ok (.invokestatic 154, 3) := by decide +kernel
theorem dX9_isLostBy_5 : decode cX9_isLostBy 5 = .ok (.istore_n 3, 1) := by decide +kernel
theorem dX9_isLostBy_6 : decode cX9_isLostBy 6 = .ok (.iload_n 1, 1) := by decide +kernel
theorem dX9_isLostBy_7 : decode cX9_isLostBy 7 = .ok (.iconst 5, 1) := by decide +kernel
theorem dX9_isLostBy_8 : decode cX9_isLostBy 8 = .ok (.if_icmp .ne 7, 3) := by decide +kernel
theorem dX9_isLostBy_11 : decode cX9_isLostBy 11 = .ok (.iload_n 3, 1) := by decide +kernel
theorem dX9_isLostBy_12 : decode cX9_isLostBy 12 = .ok (.goto 34, 3) := by decide +kernel
theorem dX9_isLostBy_15 : decode cX9_isLostBy 15 = .ok (.iload_n 1, 1) := by decide +kernel
theorem dX9_isLostBy_16 : decode cX9_isLostBy 16 = .ok (.iconst 3, 1) := by decide +kernel
theorem dX9_isLostBy_17 : decode cX9_isLostBy 17 = .ok (.if_icmp .ne 20, 3) := by decide +kernel
theorem dX9_isLostBy_20 : decode cX9_isLostBy 20 = .ok (.aload_n 0, 1) := by decide +kernel
theorem dX9_isLostBy_21 : decode cX9_isLostBy 21 = .ok (.iload_n 2, 1) := by decide +kernel
theorem dX9_isLostBy_22 : decode cX9_isLostBy 22 = .ok (.invokestatic 162, 3) := by decide +kernel
theorem dX9_isLostBy_25 : decode cX9_isLostBy 25 = .ok (.iconst 2, 1) := by decide +kernel
theorem dX9_isLostBy_26 : decode cX9_isLostBy 26 = .ok (.if_icmp .lt 7, 3) := by decide +kernel
theorem dX9_isLostBy_29 : decode cX9_isLostBy 29 = .ok (.iconst 1, 1) := by decide +kernel
theorem dX9_isLostBy_30 : decode cX9_isLostBy 30 = .ok (.goto 16, 3) := by decide +kernel
theorem dX9_isLostBy_33 : decode cX9_isLostBy 33 = .ok (.iconst 0, 1) := by decide +kernel
theorem dX9_isLostBy_34 : decode cX9_isLostBy 34 = .ok (.goto 12, 3) := by decide +kernel
theorem dX9_isLostBy_37 : decode cX9_isLostBy 37 = .ok (.iload_n 3, 1) := by decide +kernel
theorem dX9_isLostBy_38 : decode cX9_isLostBy 38 = .ok (.ifCond .ne 7, 3) := by decide +kernel
theorem dX9_isLostBy_41 : decode cX9_isLostBy 41 = .ok (.iconst 1, 1) := by decide +kernel
theorem dX9_isLostBy_42 : decode cX9_isLostBy 42 = .ok (.goto 4, 3) := by decide +kernel
theorem dX9_isLostBy_45 : decode cX9_isLostBy 45 = .ok (.iconst 0, 1) := by decide +kernel
theorem dX9_isLostBy_46 : decode cX9_isLostBy 46 = .ok (.ireturn, 1) := by decide +kernel
set_option maxRecDepth 20000 in
theorem ggX9_hour_X9_of : GoodIn wsX9_hour wsX9_of := goodIn_r _ [4] (by decide +kernel) (by decide +kernel)
set_option maxRecDepth 20000 in
theorem gX9_hour_X9_of : GoodIn wsX9_hour (va_wsS RX9 158 yX9_of wsX9_of) := goodIn_app (goodIn_of _ (by decide +kernel)) ggX9_hour_X9_of
set_option maxRecDepth 20000 in
theorem ggX9_hour_X9_isLostBy : GoodIn wsX9_hour wsX9_isLostBy := goodIn_r _ [7, 8, 9, 3, 10, 11, 12, 13, 14, 15, 16] (by decide +kernel) (by decide +kernel)
set_option maxRecDepth 20000 in
theorem gX9_hour_X9_isLostBy : GoodIn wsX9_hour (va_wsS RX9 165 yX9_isLostBy wsX9_isLostBy) := goodIn_app (goodIn_of _ (by decide +kernel)) ggX9_hour_X9_isLostBy
theorem dX9_hour_0 : decode cX9_hour 0 = .ok (.aload_n 0, 1) := by decide +kernel
theorem dX9_hour_1 : decode cX9_hour 1 = .ok (.iconst 5, 1) := by decide +kernel
theorem dX9_hour_2 : decode cX9_hour 2 = .ok (.dup2, 1) := by decide +kernel
theorem dX9_hour_3 : decode cX9_hour 3 = .ok (.iaload, 1) := by decide +kernel
theorem dX9_hour_4 : decode cX9_hour 4 = .ok (.iconst 1, 1) := by decide +kernel
theorem dX9_hour_5 : decode cX9_hour 5 = .ok (.iadd, 1) := by decide +kernel
theorem dX9_hour_6 : decode cX9_hour 6 = .ok (.iastore, 1) := by decide +kernel
theorem dX9_hour_7 : decode cX9_hour 7 = .ok (.iconst 0, 1) := by decide +kernel
theorem dX9_hour_8 : decode cX9_hour 8 = .ok (.istore_n 1, 1) := by decide +kernel
theorem dX9_hour_9 : decode cX9_hour 9 = .ok (.iload_n 1, 1) := by decide +kernel
theorem dX9_hour_10 : decode cX9_hour 10 = .ok (.bipush 15, 2) := by decide +kernel
theorem dX9_hour_12 : decode cX9_hour 12 = .ok (.if_icmp .ge 52, 3) := by decide +kernel
theorem dX9_hour_15 : decode cX9_hour 15 = .ok (.aload_n 0, 1) := by decide +kernel
theorem dX9_hour_16 : decode cX9_hour 16 = .ok (.bipush 21, 2) := by decide +kernel
theorem dX9_hour_18 : decode cX9_hour 18 = .ok (.iload_n 1, 1) := by decide +kernel
theorem dX9_hour_19 : decode cX9_hour 19 = .ok (.iadd, 1) := by decide +kernel
theorem dX9_hour_20 : decode cX9_hour 20 = .ok (.iaload, 1) := by decide +kernel
theorem dX9_hour_21 : decode cX9_hour 21 = .ok (.iconst 1, 1) := by decide +kernel
theorem dX9_hour_22 : decode cX9_hour 22 = .ok (.isub, 1) := by decide +kernel
theorem dX9_hour_23 : decode cX9_hour 23 = .ok (.istore_n 2, 1) := by decide +kernel
theorem dX9_hour_24 : decode cX9_hour 24 = .ok (.aload_n 0, 1) := by decide +kernel
theorem dX9_hour_25 : decode cX9_hour 25 = .ok (.bipush 21, 2) := by decide +kernel
theorem dX9_hour_27 : decode cX9_hour 27 = .ok (.iload_n 1, 1) := by decide +kernel
theorem dX9_hour_28 : decode cX9_hour 28 = .ok (.iadd, 1) := by decide +kernel
theorem dX9_hour_29 : decode cX9_hour 29 = .ok (.iload_n 2, 1) := by decide +kernel
theorem dX9_hour_30 : decode cX9_hour 30 = .ok (.ifCond .lt 21, 3) := by decide +kernel
theorem dX9_hour_33 : decode cX9_hour 33 = .ok (.aload_n 0, 1) := by decide +kernel
theorem dX9_hour_34 : decode cX9_hour 34 = .ok (.aload_n 0, 1) := by decide +kernel
theorem dX9_hour_35 : decode cX9_hour 35 = .ok (.iload_n 2, 1) := by decide +kernel
theorem dX9_hour_36 : decode cX9_hour 36 = .ok (.iconst 0, 1) := by decide +kernel
theorem dX9_hour_37 : decode cX9_hour 37 = .ok (.invokestatic 158, 3) := by decide +kernel
theorem dX9_hour_40 : decode cX9_hour 40 = .ok (.iload_n 1, 1) := by decide +kernel
theorem dX9_hour_41 : decode cX9_hour 41 = .ok (.invokestatic 165, 3) := by decide +kernel
theorem dX9_hour_44 : decode cX9_hour 44 = .ok (.ifCond .eq 7, 3) := by decide +kernel
theorem dX9_hour_47 : decode cX9_hour 47 = .ok (.iconst 0, 1) := by decide +kernel
theorem dX9_hour_48 : decode cX9_hour 48 = .ok (.goto 9, 3) := by decide +kernel
theorem dX9_hour_51 : decode cX9_hour 51 = .ok (.aload_n 0, 1) := by decide +kernel
theorem dX9_hour_52 : decode cX9_hour 52 = .ok (.bipush 21, 2) := by decide +kernel
theorem dX9_hour_54 : decode cX9_hour 54 = .ok (.iload_n 1, 1) := by decide +kernel
theorem dX9_hour_55 : decode cX9_hour 55 = .ok (.iadd, 1) := by decide +kernel
theorem dX9_hour_56 : decode cX9_hour 56 = .ok (.iaload, 1) := by decide +kernel
theorem dX9_hour_57 : decode cX9_hour 57 = .ok (.iastore, 1) := by decide +kernel
theorem dX9_hour_58 : decode cX9_hour 58 = .ok (.iinc 1 1, 3) := by decide +kernel
theorem dX9_hour_61 : decode cX9_hour 61 = .ok (.goto (-52), 3) := by decide +kernel
theorem dX9_hour_64 : decode cX9_hour 64 = .ok (.return_, 1) := by decide +kernel
theorem dX9_heldOf_0 : decode cX9_heldOf 0 = .ok (.iconst 0, 1) := by decide +kernel
theorem dX9_heldOf_1 : decode cX9_heldOf 1 = .ok (.istore_n 1, 1) := by decide +kernel
theorem dX9_heldOf_2 : decode cX9_heldOf 2 = .ok (.iconst 0, 1) := by decide +kernel
theorem dX9_heldOf_3 : decode cX9_heldOf 3 = .ok (.istore_n 2, 1) := by decide +kernel
theorem dX9_heldOf_4 : decode cX9_heldOf 4 = .ok (.iload_n 2, 1) := by decide +kernel
theorem dX9_heldOf_5 : decode cX9_heldOf 5 = .ok (.bipush 15, 2) := by decide +kernel
theorem dX9_heldOf_7 : decode cX9_heldOf 7 = .ok (.if_icmp .ge 28, 3) := by decide +kernel
theorem dX9_heldOf_10 : decode cX9_heldOf 10 = .ok (.iload_n 1, 1) := by decide +kernel
theorem dX9_heldOf_11 : decode cX9_heldOf 11 = .ok (.aload_n 0, 1) := by decide +kernel
theorem dX9_heldOf_12 : decode cX9_heldOf 12 = .ok (.bipush 21, 2) := by decide +kernel
theorem dX9_heldOf_14 : decode cX9_heldOf 14 = .ok (.iload_n 2, 1) := by decide +kernel
theorem dX9_heldOf_15 : decode cX9_heldOf 15 = .ok (.iadd, 1) := by decide +kernel
theorem dX9_heldOf_16 : decode cX9_heldOf 16 = .ok (.iaload, 1) := by decide +kernel
theorem dX9_heldOf_17 : decode cX9_heldOf 17 = .ok (.ifCond .le 9, 3) := by decide +kernel
theorem dX9_heldOf_20 : decode cX9_heldOf 20 = .ok (.iconst 1, 1) := by decide +kernel
theorem dX9_heldOf_21 : decode cX9_heldOf 21 = .ok (.iload_n 2, 1) := by decide +kernel
theorem dX9_heldOf_22 : decode cX9_heldOf 22 = .ok (.ishl, 1) := by decide +kernel
theorem dX9_heldOf_23 : decode cX9_heldOf 23 = .ok (.goto 4, 3) := by decide +kernel
theorem dX9_heldOf_26 : decode cX9_heldOf 26 = .ok (.iconst 0, 1) := by decide +kernel
theorem dX9_heldOf_27 : decode cX9_heldOf 27 = .ok (.ior, 1) := by decide +kernel
theorem dX9_heldOf_28 : decode cX9_heldOf 28 = .ok (.istore_n 1, 1) := by decide +kernel
theorem dX9_heldOf_29 : decode cX9_heldOf 29 = .ok (.iinc 2 1, 3) := by decide +kernel
theorem dX9_heldOf_32 : decode cX9_heldOf 32 = .ok (.goto (-28), 3) := by decide +kernel
theorem dX9_heldOf_35 : decode cX9_heldOf 35 = .ok (.iload_n 1, 1) := by decide +kernel
theorem dX9_heldOf_36 : decode cX9_heldOf 36 = .ok (.ireturn, 1) := by decide +kernel
theorem dX9_heldBy_0 : decode cX9_heldBy 0 = .ok (.iconst 0, 1) := by decide +kernel
theorem dX9_heldBy_1 : decode cX9_heldBy 1 = .ok (.istore_n 2, 1) := by decide +kernel
theorem dX9_heldBy_2 : decode cX9_heldBy 2 = .ok (.iconst 0, 1) := by decide +kernel
theorem dX9_heldBy_3 : decode cX9_heldBy 3 = .ok (.istore_n 3, 1) := by decide +kernel
theorem dX9_heldBy_4 : decode cX9_heldBy 4 = .ok (.iload_n 3, 1) := by decide +kernel
theorem dX9_heldBy_5 : decode cX9_heldBy 5 = .ok (.bipush 15, 2) := by decide +kernel
theorem dX9_heldBy_7 : decode cX9_heldBy 7 = .ok (.if_icmp .ge 31, 3) := by decide +kernel
theorem dX9_heldBy_10 : decode cX9_heldBy 10 = .ok (.iload_n 2, 1) := by decide +kernel
theorem dX9_heldBy_11 : decode cX9_heldBy 11 = .ok (.aload_n 0, 1) := by decide +kernel
theorem dX9_heldBy_12 : decode cX9_heldBy 12 = .ok (.bipush 21, 2) := by decide +kernel
theorem dX9_heldBy_14 : decode cX9_heldBy 14 = .ok (.iload_n 3, 1) := by decide +kernel
theorem dX9_heldBy_15 : decode cX9_heldBy 15 = .ok (.iadd, 1) := by decide +kernel
theorem dX9_heldBy_16 : decode cX9_heldBy 16 = .ok (.iaload, 1) := by decide +kernel
theorem dX9_heldBy_17 : decode cX9_heldBy 17 = .ok (.iload_n 1, 1) := by decide +kernel
theorem dX9_heldBy_18 : decode cX9_heldBy 18 = .ok (.iconst 1, 1) := by decide +kernel
theorem dX9_heldBy_19 : decode cX9_heldBy 19 = .ok (.iadd, 1) := by decide +kernel
theorem dX9_heldBy_20 : decode cX9_heldBy 20 = .ok (.if_icmp .ne 9, 3) := by decide +kernel
theorem dX9_heldBy_23 : decode cX9_heldBy 23 = .ok (.iconst 1, 1) := by decide +kernel
theorem dX9_heldBy_24 : decode cX9_heldBy 24 = .ok (.iload_n 3, 1) := by decide +kernel
theorem dX9_heldBy_25 : decode cX9_heldBy 25 = .ok (.ishl, 1) := by decide +kernel
theorem dX9_heldBy_26 : decode cX9_heldBy 26 = .ok (.goto 4, 3) := by decide +kernel
theorem dX9_heldBy_29 : decode cX9_heldBy 29 = .ok (.iconst 0, 1) := by decide +kernel
theorem dX9_heldBy_30 : decode cX9_heldBy 30 = .ok (.ior, 1) := by decide +kernel
theorem dX9_heldBy_31 : decode cX9_heldBy 31 = .ok (.istore_n 2, 1) := by decide +kernel
theorem dX9_heldBy_32 : decode cX9_heldBy 32 = .ok (.iinc 3 1, 3) := by decide +kernel
theorem dX9_heldBy_35 : decode cX9_heldBy 35 = .ok (.goto (-31), 3) := by decide +kernel
theorem dX9_heldBy_38 : decode cX9_heldBy 38 = .ok (.iload_n 2, 1) := by decide +kernel
theorem dX9_heldBy_39 : decode cX9_heldBy 39 = .ok (.ireturn, 1) := by decide +kernel
set_option maxRecDepth 20000 in
theorem ggX9_mayBid_X9_mayHave : GoodIn wsX9_mayBid wsX9_mayHave := goodIn_r _ [4, 5, 6, 3, 7, 8, 9, 10, 11, 12, 13] (by decide +kernel) (by decide +kernel)
set_option maxRecDepth 20000 in
theorem gX9_mayBid_X9_mayHave : GoodIn wsX9_mayBid (va_wsS RX9 169 yX9_mayHave wsX9_mayHave) := goodIn_app (goodIn_of _ (by decide +kernel)) ggX9_mayBid_X9_mayHave
theorem dX9_mayBid_0 : decode cX9_mayBid 0 = .ok (.aload_n 0, 1) := by decide +kernel
theorem dX9_mayBid_1 : decode cX9_mayBid 1 = .ok (.bipush 21, 2) := by decide +kernel
theorem dX9_mayBid_3 : decode cX9_mayBid 3 = .ok (.iload_n 2, 1) := by decide +kernel
theorem dX9_mayBid_4 : decode cX9_mayBid 4 = .ok (.iadd, 1) := by decide +kernel
theorem dX9_mayBid_5 : decode cX9_mayBid 5 = .ok (.iaload, 1) := by decide +kernel
theorem dX9_mayBid_6 : decode cX9_mayBid 6 = .ok (.ifCond .ne 16, 3) := by decide +kernel
theorem dX9_mayBid_9 : decode cX9_mayBid 9 = .ok (.aload_n 0, 1) := by decide +kernel
theorem dX9_mayBid_10 : decode cX9_mayBid 10 = .ok (.iload_n 1, 1) := by decide +kernel
theorem dX9_mayBid_11 : decode cX9_mayBid 11 = .ok (.iload_n 2, 1) := by decide +kernel
theorem dX9_mayBid_12 : decode cX9_mayBid 12 = .ok (.invokestatic 169, 3) := by decide +kernel
theorem dX9_mayBid_15 : decode cX9_mayBid 15 = .ok (.ifCond .eq 7, 3) := by decide +kernel
theorem dX9_mayBid_18 : decode cX9_mayBid 18 = .ok (.iconst 1, 1) := by decide +kernel
theorem dX9_mayBid_19 : decode cX9_mayBid 19 = .ok (.goto 4, 3) := by decide +kernel
theorem dX9_mayBid_22 : decode cX9_mayBid 22 = .ok (.iconst 0, 1) := by decide +kernel
theorem dX9_mayBid_23 : decode cX9_mayBid 23 = .ok (.ireturn, 1) := by decide +kernel
set_option maxRecDepth 20000 in
theorem ggX9_buys_X9_of : GoodIn wsX9_buys wsX9_of := goodIn_r _ [4] (by decide +kernel) (by decide +kernel)
set_option maxRecDepth 20000 in
theorem gX9_buys_X9_of : GoodIn wsX9_buys (va_wsS RX9 158 yX9_of wsX9_of) := goodIn_app (goodIn_of _ (by decide +kernel)) ggX9_buys_X9_of
set_option maxRecDepth 20000 in
theorem ggX9_buys_X9_priceBy : GoodIn wsX9_buys wsX9_priceBy := goodIn_r _ [7] (by decide +kernel) (by decide +kernel)
set_option maxRecDepth 20000 in
theorem gX9_buys_X9_priceBy : GoodIn wsX9_buys (va_wsS RX9 172 yX9_priceBy wsX9_priceBy) := goodIn_app (goodIn_of _ (by decide +kernel)) ggX9_buys_X9_priceBy
theorem dX9_buys_0 : decode cX9_buys 0 = .ok (.aload_n 0, 1) := by decide +kernel
theorem dX9_buys_1 : decode cX9_buys 1 = .ok (.bipush 36, 2) := by decide +kernel
theorem dX9_buys_3 : decode cX9_buys 3 = .ok (.iconst 3, 1) := by decide +kernel
theorem dX9_buys_4 : decode cX9_buys 4 = .ok (.iload_n 1, 1) := by decide +kernel
theorem dX9_buys_5 : decode cX9_buys 5 = .ok (.imul, 1) := by decide +kernel
theorem dX9_buys_6 : decode cX9_buys 6 = .ok (.iadd, 1) := by decide +kernel
theorem dX9_buys_7 : decode cX9_buys 7 = .ok (.iconst 1, 1) := by decide +kernel
theorem dX9_buys_8 : decode cX9_buys 8 = .ok (.iadd, 1) := by decide +kernel
theorem dX9_buys_9 : decode cX9_buys 9 = .ok (.dup2, 1) := by decide +kernel
theorem dX9_buys_10 : decode cX9_buys 10 = .ok (.iaload, 1) := by decide +kernel
theorem dX9_buys_11 : decode cX9_buys 11 = .ok (.aload_n 0, 1) := by decide +kernel
theorem dX9_buys_12 : decode cX9_buys 12 = .ok (.aload_n 0, 1) := by decide +kernel
theorem dX9_buys_13 : decode cX9_buys 13 = .ok (.iload_n 1, 1) := by decide +kernel
theorem dX9_buys_14 : decode cX9_buys 14 = .ok (.iconst 0, 1) := by decide +kernel
theorem dX9_buys_15 : decode cX9_buys 15 = .ok (.invokestatic 158, 3) := by decide +kernel
theorem dX9_buys_18 : decode cX9_buys 18 = .ok (.iload_n 2, 1) := by decide +kernel
theorem dX9_buys_19 : decode cX9_buys 19 = .ok (.invokestatic 172, 3) := by decide +kernel
theorem dX9_buys_22 : decode cX9_buys 22 = .ok (.isub, 1) := by decide +kernel
theorem dX9_buys_23 : decode cX9_buys 23 = .ok (.iastore, 1) := by decide +kernel
theorem dX9_buys_24 : decode cX9_buys 24 = .ok (.aload_n 0, 1) := by decide +kernel
theorem dX9_buys_25 : decode cX9_buys 25 = .ok (.bipush 21, 2) := by decide +kernel
theorem dX9_buys_27 : decode cX9_buys 27 = .ok (.iload_n 2, 1) := by decide +kernel
theorem dX9_buys_28 : decode cX9_buys 28 = .ok (.iadd, 1) := by decide +kernel
theorem dX9_buys_29 : decode cX9_buys 29 = .ok (.iload_n 1, 1) := by decide +kernel
theorem dX9_buys_30 : decode cX9_buys 30 = .ok (.iconst 1, 1) := by decide +kernel
theorem dX9_buys_31 : decode cX9_buys 31 = .ok (.iadd, 1) := by decide +kernel
theorem dX9_buys_32 : decode cX9_buys 32 = .ok (.iastore, 1) := by decide +kernel
theorem dX9_buys_33 : decode cX9_buys 33 = .ok (.return_, 1) := by decide +kernel
theorem dX9_layThen_0 : decode cX9_layThen 0 = .ok (.iconst 0, 1) := by decide +kernel
theorem dX9_layThen_1 : decode cX9_layThen 1 = .ok (.istore_n 1, 1) := by decide +kernel
theorem dX9_layThen_2 : decode cX9_layThen 2 = .ok (.iload_n 1, 1) := by decide +kernel
theorem dX9_layThen_3 : decode cX9_layThen 3 = .ok (.bipush 51, 2) := by decide +kernel
theorem dX9_layThen_5 : decode cX9_layThen 5 = .ok (.if_icmp .ge 21, 3) := by decide +kernel
theorem dX9_layThen_8 : decode cX9_layThen 8 = .ok (.aload_n 0, 1) := by decide +kernel
theorem dX9_layThen_9 : decode cX9_layThen 9 = .ok (.getfield 25, 3) := by decide +kernel
