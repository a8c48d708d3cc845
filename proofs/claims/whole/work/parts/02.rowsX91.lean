theorem dX9_layThen_12 : decode cX9_layThen 12 = .ok (.iload_n 1, 1) := by decide +kernel
theorem dX9_layThen_13 : decode cX9_layThen 13 = .ok (.aload_n 0, 1) := by decide +kernel
theorem dX9_layThen_14 : decode cX9_layThen 14 = .ok (.getfield 19, 3) := by decide +kernel
theorem dX9_layThen_17 : decode cX9_layThen 17 = .ok (.iload_n 1, 1) := by decide +kernel
theorem dX9_layThen_18 : decode cX9_layThen 18 = .ok (.iaload, 1) := by decide +kernel
theorem dX9_layThen_19 : decode cX9_layThen 19 = .ok (.iastore, 1) := by decide +kernel
theorem dX9_layThen_20 : decode cX9_layThen 20 = .ok (.iinc 1 1, 3) := by decide +kernel
theorem dX9_layThen_23 : decode cX9_layThen 23 = .ok (.goto (-21), 3) := by decide +kernel
theorem dX9_layThen_26 : decode cX9_layThen 26 = .ok (.return_, 1) := by decide +kernel
theorem dX9_beside_0 : decode cX9_beside 0 = .ok (.iconst 0, 1) := by decide +kernel
theorem dX9_beside_1 : decode cX9_beside 1 = .ok (.istore_n 1, 1) := by decide +kernel
theorem dX9_beside_2 : decode cX9_beside 2 = .ok (.iconst 0, 1) := by decide +kernel
theorem dX9_beside_3 : decode cX9_beside 3 = .ok (.istore_n 2, 1) := by decide +kernel
theorem dX9_beside_4 : decode cX9_beside 4 = .ok (.iload_n 2, 1) := by decide +kernel
theorem dX9_beside_5 : decode cX9_beside 5 = .ok (.bipush 15, 2) := by decide +kernel
theorem dX9_beside_7 : decode cX9_beside 7 = .ok (.if_icmp .ge 90, 3) := by decide +kernel
theorem dX9_beside_10 : decode cX9_beside 10 = .ok (.iload_n 0, 1) := by decide +kernel
theorem dX9_beside_11 : decode cX9_beside 11 = .ok (.iload_n 2, 1) := by decide +kernel
theorem dX9_beside_12 : decode cX9_beside 12 = .ok (.ishr, 1) := by decide +kernel
theorem dX9_beside_13 : decode cX9_beside 13 = .ok (.iconst 1, 1) := by decide +kernel
theorem dX9_beside_14 : decode cX9_beside 14 = .ok (.iand, 1) := by decide +kernel
theorem dX9_beside_15 : decode cX9_beside 15 = .ok (.iconst 1, 1) := by decide +kernel
theorem dX9_beside_16 : decode cX9_beside 16 = .ok (.if_icmp .ne 75, 3) := by decide +kernel
theorem dX9_beside_19 : decode cX9_beside 19 = .ok (.iload_n 1, 1) := by decide +kernel
theorem dX9_beside_20 : decode cX9_beside 20 = .ok (.iload_n 2, 1) := by decide +kernel
theorem dX9_beside_21 : decode cX9_beside 21 = .ok (.iconst 5, 1) := by decide +kernel
theorem dX9_beside_22 : decode cX9_beside 22 = .ok (.irem, 1) := by decide +kernel
theorem dX9_beside_23 : decode cX9_beside 23 = .ok (.ifCond .le 11, 3) := by decide +kernel
theorem dX9_beside_26 : decode cX9_beside 26 = .ok (.iconst 1, 1) := by decide +kernel
theorem dX9_beside_27 : decode cX9_beside 27 = .ok (.iload_n 2, 1) := by decide +kernel
theorem dX9_beside_28 : decode cX9_beside 28 = .ok (.iconst 1, 1) := by decide +kernel
theorem dX9_beside_29 : decode cX9_beside 29 = .ok (.isub, 1) := by decide +kernel
theorem dX9_beside_30 : decode cX9_beside 30 = .ok (.ishl, 1) := by decide +kernel
theorem dX9_beside_31 : decode cX9_beside 31 = .ok (.goto 4, 3) := by decide +kernel
theorem dX9_beside_34 : decode cX9_beside 34 = .ok (.iconst 0, 1) := by decide +kernel
theorem dX9_beside_35 : decode cX9_beside 35 = .ok (.ior, 1) := by decide +kernel
theorem dX9_beside_36 : decode cX9_beside 36 = .ok (.istore_n 1, 1) := by decide +kernel
theorem dX9_beside_37 : decode cX9_beside 37 = .ok (.iload_n 1, 1) := by decide +kernel
theorem dX9_beside_38 : decode cX9_beside 38 = .ok (.iload_n 2, 1) := by decide +kernel
theorem dX9_beside_39 : decode cX9_beside 39 = .ok (.iconst 5, 1) := by decide +kernel
theorem dX9_beside_40 : decode cX9_beside 40 = .ok (.irem, 1) := by decide +kernel
theorem dX9_beside_41 : decode cX9_beside 41 = .ok (.iconst 4, 1) := by decide +kernel
theorem dX9_beside_42 : decode cX9_beside 42 = .ok (.if_icmp .ge 11, 3) := by decide +kernel
theorem dX9_beside_45 : decode cX9_beside 45 = .ok (.iconst 1, 1) := by decide +kernel
theorem dX9_beside_46 : decode cX9_beside 46 = .ok (.iload_n 2, 1) := by decide +kernel
theorem dX9_beside_47 : decode cX9_beside 47 = .ok (.iconst 1, 1) := by decide +kernel
theorem dX9_beside_48 : decode cX9_beside 48 = .ok (.iadd, 1) := by decide +kernel
theorem dX9_beside_49 : decode cX9_beside 49 = .ok (.ishl, 1) := by decide +kernel
theorem dX9_beside_50 : decode cX9_beside 50 = .ok (.goto 4, 3) := by decide +kernel
theorem dX9_beside_53 : decode cX9_beside 53 = .ok (.iconst 0, 1) := by decide +kernel
theorem dX9_beside_54 : decode cX9_beside 54 = .ok (.ior, 1) := by decide +kernel
theorem dX9_beside_55 : decode cX9_beside 55 = .ok (.istore_n 1, 1) := by decide +kernel
theorem dX9_beside_56 : decode cX9_beside 56 = .ok (.iload_n 1, 1) := by decide +kernel
theorem dX9_beside_57 : decode cX9_beside 57 = .ok (.iload_n 2, 1) := by decide +kernel
theorem dX9_beside_58 : decode cX9_beside 58 = .ok (.iconst 4, 1) := by decide +kernel
theorem dX9_beside_59 : decode cX9_beside 59 = .ok (.if_icmp .le 11, 3) := by decide +kernel
theorem dX9_beside_62 : decode cX9_beside 62 = .ok (.iconst 1, 1) := by decide +kernel
theorem dX9_beside_63 : decode cX9_beside 63 = .ok (.iload_n 2, 1) := by decide +kernel
theorem dX9_beside_64 : decode cX9_beside 64 = .ok (.iconst 5, 1) := by decide +kernel
theorem dX9_beside_65 : decode cX9_beside 65 = .ok (.isub, 1) := by decide +kernel
theorem dX9_beside_66 : decode cX9_beside 66 = .ok (.ishl, 1) := by decide +kernel
theorem dX9_beside_67 : decode cX9_beside 67 = .ok (.goto 4, 3) := by decide +kernel
theorem dX9_beside_70 : decode cX9_beside 70 = .ok (.iconst 0, 1) := by decide +kernel
theorem dX9_beside_71 : decode cX9_beside 71 = .ok (.ior, 1) := by decide +kernel
theorem dX9_beside_72 : decode cX9_beside 72 = .ok (.istore_n 1, 1) := by decide +kernel
theorem dX9_beside_73 : decode cX9_beside 73 = .ok (.iload_n 1, 1) := by decide +kernel
theorem dX9_beside_74 : decode cX9_beside 74 = .ok (.iload_n 2, 1) := by decide +kernel
theorem dX9_beside_75 : decode cX9_beside 75 = .ok (.bipush 10, 2) := by decide +kernel
theorem dX9_beside_77 : decode cX9_beside 77 = .ok (.if_icmp .ge 11, 3) := by decide +kernel
theorem dX9_beside_80 : decode cX9_beside 80 = .ok (.iconst 1, 1) := by decide +kernel
theorem dX9_beside_81 : decode cX9_beside 81 = .ok (.iload_n 2, 1) := by decide +kernel
theorem dX9_beside_82 : decode cX9_beside 82 = .ok (.iconst 5, 1) := by decide +kernel
theorem dX9_beside_83 : decode cX9_beside 83 = .ok (.iadd, 1) := by decide +kernel
theorem dX9_beside_84 : decode cX9_beside 84 = .ok (.ishl, 1) := by decide +kernel
theorem dX9_beside_85 : decode cX9_beside 85 = .ok (.goto 4, 3) := by decide +kernel
theorem dX9_beside_88 : decode cX9_beside 88 = .ok (.iconst 0, 1) := by decide +kernel
theorem dX9_beside_89 : decode cX9_beside 89 = .ok (.ior, 1) := by decide +kernel
theorem dX9_beside_90 : decode cX9_beside 90 = .ok (.istore_n 1, 1) := by decide +kernel
theorem dX9_beside_91 : decode cX9_beside 91 = .ok (.iinc 2 1, 3) := by decide +kernel
theorem dX9_beside_94 : decode cX9_beside 94 = .ok (.goto (-90), 3) := by decide +kernel
theorem dX9_beside_97 : decode cX9_beside 97 = .ok (.iload_n 1, 1) := by decide +kernel
theorem dX9_beside_98 : decode cX9_beside 98 = .ok (.ireturn, 1) := by decide +kernel
set_option maxRecDepth 20000 in
theorem ggX9_partsOf_X9_beside : GoodIn wsX9_partsOf wsX9_beside := goodIn_r _ [4] (by decide +kernel) (by decide +kernel)
set_option maxRecDepth 20000 in
theorem gX9_partsOf_X9_beside : GoodIn wsX9_partsOf (va_wsS RX9 175 yX9_beside wsX9_beside) := goodIn_app (goodIn_of _ (by decide +kernel)) ggX9_partsOf_X9_beside
theorem dX9_partsOf_0 : decode cX9_partsOf 0 = .ok (.iload_n 0, 1) := by decide +kernel
theorem dX9_partsOf_1 : decode cX9_partsOf 1 = .ok (.istore_n 1, 1) := by decide +kernel
theorem dX9_partsOf_2 : decode cX9_partsOf 2 = .ok (.iconst 0, 1) := by decide +kernel
theorem dX9_partsOf_3 : decode cX9_partsOf 3 = .ok (.istore_n 2, 1) := by decide +kernel
theorem dX9_partsOf_4 : decode cX9_partsOf 4 = .ok (.iload_n 1, 1) := by decide +kernel
theorem dX9_partsOf_5 : decode cX9_partsOf 5 = .ok (.ifCond .eq 57, 3) := by decide +kernel
theorem dX9_partsOf_8 : decode cX9_partsOf 8 = .ok (.iload_n 1, 1) := by decide +kernel
theorem dX9_partsOf_9 : decode cX9_partsOf 9 = .ok (.iload_n 1, 1) := by decide +kernel
theorem dX9_partsOf_10 : decode cX9_partsOf 10 = .ok (.ineg, 1) := by decide +kernel
theorem dX9_partsOf_11 : decode cX9_partsOf 11 = .ok (.iand, 1) := by decide +kernel
theorem dX9_partsOf_12 : decode cX9_partsOf 12 = .ok (.istore_n 3, 1) := by decide +kernel
theorem dX9_partsOf_13 : decode cX9_partsOf 13 = .ok (.iload_n 3, 1) := by decide +kernel
theorem dX9_partsOf_14 : decode cX9_partsOf 14 = .ok (.invokestatic 175, 3) := by decide +kernel
theorem dX9_partsOf_17 : decode cX9_partsOf 17 = .ok (.iload_n 1, 1) := by decide +kernel
theorem dX9_partsOf_18 : decode cX9_partsOf 18 = .ok (.iand, 1) := by decide +kernel
theorem dX9_partsOf_19 : decode cX9_partsOf 19 = .ok (.iload_n 3, 1) := by decide +kernel
theorem dX9_partsOf_20 : decode cX9_partsOf 20 = .ok (.iconst (-1), 1) := by decide +kernel
theorem dX9_partsOf_21 : decode cX9_partsOf 21 = .ok (.ixor, 1) := by decide +kernel
theorem dX9_partsOf_22 : decode cX9_partsOf 22 = .ok (.iand, 1) := by decide +kernel
theorem dX9_partsOf_23 : decode cX9_partsOf 23 = .ok (.istore 4, 2) := by decide +kernel
theorem dX9_partsOf_25 : decode cX9_partsOf 25 = .ok (.iload 4, 2) := by decide +kernel
theorem dX9_partsOf_27 : decode cX9_partsOf 27 = .ok (.ifCond .eq 23, 3) := by decide +kernel
theorem dX9_partsOf_30 : decode cX9_partsOf 30 = .ok (.iload_n 3, 1) := by decide +kernel
theorem dX9_partsOf_31 : decode cX9_partsOf 31 = .ok (.iload 4, 2) := by decide +kernel
theorem dX9_partsOf_33 : decode cX9_partsOf 33 = .ok (.ior, 1) := by decide +kernel
theorem dX9_partsOf_34 : decode cX9_partsOf 34 = .ok (.istore_n 3, 1) := by decide +kernel
theorem dX9_partsOf_35 : decode cX9_partsOf 35 = .ok (.iload_n 3, 1) := by decide +kernel
theorem dX9_partsOf_36 : decode cX9_partsOf 36 = .ok (.invokestatic 175, 3) := by decide +kernel
theorem dX9_partsOf_39 : decode cX9_partsOf 39 = .ok (.iload_n 1, 1) := by decide +kernel
theorem dX9_partsOf_40 : decode cX9_partsOf 40 = .ok (.iand, 1) := by decide +kernel
theorem dX9_partsOf_41 : decode cX9_partsOf 41 = .ok (.iload_n 3, 1) := by decide +kernel
theorem dX9_partsOf_42 : decode cX9_partsOf 42 = .ok (.iconst (-1), 1) := by decide +kernel
theorem dX9_partsOf_43 : decode cX9_partsOf 43 = .ok (.ixor, 1) := by decide +kernel
theorem dX9_partsOf_44 : decode cX9_partsOf 44 = .ok (.iand, 1) := by decide +kernel
theorem dX9_partsOf_45 : decode cX9_partsOf 45 = .ok (.istore 4, 2) := by decide +kernel
theorem dX9_partsOf_47 : decode cX9_partsOf 47 = .ok (.goto (-22), 3) := by decide +kernel
theorem dX9_partsOf_50 : decode cX9_partsOf 50 = .ok (.iload_n 1, 1) := by decide +kernel
theorem dX9_partsOf_51 : decode cX9_partsOf 51 = .ok (.iload_n 3, 1) := by decide +kernel
theorem dX9_partsOf_52 : decode cX9_partsOf 52 = .ok (.iconst (-1), 1) := by decide +kernel
theorem dX9_partsOf_53 : decode cX9_partsOf 53 = .ok (.ixor, 1) := by decide +kernel
theorem dX9_partsOf_54 : decode cX9_partsOf 54 = .ok (.iand, 1) := by decide +kernel
theorem dX9_partsOf_55 : decode cX9_partsOf 55 = .ok (.istore_n 1, 1) := by decide +kernel
theorem dX9_partsOf_56 : decode cX9_partsOf 56 = .ok (.iinc 2 1, 3) := by decide +kernel
theorem dX9_partsOf_59 : decode cX9_partsOf 59 = .ok (.goto (-55), 3) := by decide +kernel
theorem dX9_partsOf_62 : decode cX9_partsOf 62 = .ok (.iload_n 2, 1) := by decide +kernel
theorem dX9_partsOf_63 : decode cX9_partsOf 63 = .ok (.ireturn, 1) := by decide +kernel
theorem dX9_bits_0 : decode cX9_bits 0 = .ok (.iconst 0, 1) := by decide +kernel
theorem dX9_bits_1 : decode cX9_bits 1 = .ok (.istore_n 1, 1) := by decide +kernel
theorem dX9_bits_2 : decode cX9_bits 2 = .ok (.iconst 0, 1) := by decide +kernel
theorem dX9_bits_3 : decode cX9_bits 3 = .ok (.istore_n 2, 1) := by decide +kernel
theorem dX9_bits_4 : decode cX9_bits 4 = .ok (.iload_n 2, 1) := by decide +kernel
theorem dX9_bits_5 : decode cX9_bits 5 = .ok (.bipush 15, 2) := by decide +kernel
theorem dX9_bits_7 : decode cX9_bits 7 = .ok (.if_icmp .ge 17, 3) := by decide +kernel
theorem dX9_bits_10 : decode cX9_bits 10 = .ok (.iload_n 1, 1) := by decide +kernel
theorem dX9_bits_11 : decode cX9_bits 11 = .ok (.iload_n 0, 1) := by decide +kernel
theorem dX9_bits_12 : decode cX9_bits 12 = .ok (.iload_n 2, 1) := by decide +kernel
theorem dX9_bits_13 : decode cX9_bits 13 = .ok (.ishr, 1) := by decide +kernel
theorem dX9_bits_14 : decode cX9_bits 14 = .ok (.iconst 1, 1) := by decide +kernel
theorem dX9_bits_15 : decode cX9_bits 15 = .ok (.iand, 1) := by decide +kernel
theorem dX9_bits_16 : decode cX9_bits 16 = .ok (.iadd, 1) := by decide +kernel
theorem dX9_bits_17 : decode cX9_bits 17 = .ok (.istore_n 1, 1) := by decide +kernel
theorem dX9_bits_18 : decode cX9_bits 18 = .ok (.iinc 2 1, 3) := by decide +kernel
theorem dX9_bits_21 : decode cX9_bits 21 = .ok (.goto (-17), 3) := by decide +kernel
theorem dX9_bits_24 : decode cX9_bits 24 = .ok (.iload_n 1, 1) := by decide +kernel
theorem dX9_bits_25 : decode cX9_bits 25 = .ok (.ireturn, 1) := by decide +kernel
theorem dX9_keep_0 : decode cX9_keep 0 = .ok (.aload_n 0, 1) := by decide +kernel
theorem dX9_keep_1 : decode cX9_keep 1 = .ok (.getfield 145, 3) := by decide +kernel
theorem dX9_keep_4 : decode cX9_keep 4 = .ok (.bipush 24, 2) := by decide +kernel
theorem dX9_keep_6 : decode cX9_keep 6 = .ok (.if_icmp .ne 43, 3) := by decide +kernel
theorem dX9_keep_9 : decode cX9_keep 9 = .ok (.iconst 0, 1) := by decide +kernel
theorem dX9_keep_10 : decode cX9_keep 10 = .ok (.istore_n 1, 1) := by decide +kernel
theorem dX9_keep_11 : decode cX9_keep 11 = .ok (.iload_n 1, 1) := by decide +kernel
theorem dX9_keep_12 : decode cX9_keep 12 = .ok (.sipush 1173, 3) := by decide +kernel
theorem dX9_keep_15 : decode cX9_keep 15 = .ok (.if_icmp .ge 24, 3) := by decide +kernel
theorem dX9_keep_18 : decode cX9_keep 18 = .ok (.aload_n 0, 1) := by decide +kernel
theorem dX9_keep_19 : decode cX9_keep 19 = .ok (.getfield 28, 3) := by decide +kernel
theorem dX9_keep_22 : decode cX9_keep 22 = .ok (.iload_n 1, 1) := by decide +kernel
theorem dX9_keep_23 : decode cX9_keep 23 = .ok (.aload_n 0, 1) := by decide +kernel
theorem dX9_keep_24 : decode cX9_keep 24 = .ok (.getfield 28, 3) := by decide +kernel
theorem dX9_keep_27 : decode cX9_keep 27 = .ok (.iload_n 1, 1) := by decide +kernel
theorem dX9_keep_28 : decode cX9_keep 28 = .ok (.bipush 51, 2) := by decide +kernel
theorem dX9_keep_30 : decode cX9_keep 30 = .ok (.iadd, 1) := by decide +kernel
theorem dX9_keep_31 : decode cX9_keep 31 = .ok (.iaload, 1) := by decide +kernel
theorem dX9_keep_32 : decode cX9_keep 32 = .ok (.iastore, 1) := by decide +kernel
theorem dX9_keep_33 : decode cX9_keep 33 = .ok (.iinc 1 1, 3) := by decide +kernel
theorem dX9_keep_36 : decode cX9_keep 36 = .ok (.goto (-25), 3) := by decide +kernel
theorem dX9_keep_39 : decode cX9_keep 39 = .ok (.aload_n 0, 1) := by decide +kernel
theorem dX9_keep_40 : decode cX9_keep 40 = .ok (.dup, 1) := by decide +kernel
theorem dX9_keep_41 : decode cX9_keep 41 = .ok (.getfield 145, 3) := by decide +kernel
theorem dX9_keep_44 : decode cX9_keep 44 = .ok (.iconst 1, 1) := by decide +kernel
theorem dX9_keep_45 : decode cX9_keep 45 = .ok (.isub, 1) := by decide +kernel
theorem dX9_keep_46 : decode cX9_keep 46 = .ok (.putfield 145, 3) := by decide +kernel
theorem dX9_keep_49 : decode cX9_keep 49 = .ok (.iconst 0, 1) := by decide +kernel
theorem dX9_keep_50 : decode cX9_keep 50 = .ok (.istore_n 1, 1) := by decide +kernel
theorem dX9_keep_51 : decode cX9_keep 51 = .ok (.iload_n 1, 1) := by decide +kernel
theorem dX9_keep_52 : decode cX9_keep 52 = .ok (.bipush 51, 2) := by decide +kernel
theorem dX9_keep_54 : decode cX9_keep 54 = .ok (.if_icmp .ge 29, 3) := by decide +kernel
theorem dX9_keep_57 : decode cX9_keep 57 = .ok (.aload_n 0, 1) := by decide +kernel
theorem dX9_keep_58 : decode cX9_keep 58 = .ok (.getfield 28, 3) := by decide +kernel
theorem dX9_keep_61 : decode cX9_keep 61 = .ok (.bipush 51, 2) := by decide +kernel
theorem dX9_keep_63 : decode cX9_keep 63 = .ok (.aload_n 0, 1) := by decide +kernel
theorem dX9_keep_64 : decode cX9_keep 64 = .ok (.getfield 145, 3) := by decide +kernel
theorem dX9_keep_67 : decode cX9_keep 67 = .ok (.imul, 1) := by decide +kernel
theorem dX9_keep_68 : decode cX9_keep 68 = .ok (.iload_n 1, 1) := by decide +kernel
theorem dX9_keep_69 : decode cX9_keep 69 = .ok (.iadd, 1) := by decide +kernel
theorem dX9_keep_70 : decode cX9_keep 70 = .ok (.aload_n 0, 1) := by decide +kernel
theorem dX9_keep_71 : decode cX9_keep 71 = .ok (.getfield 19, 3) := by decide +kernel
theorem dX9_keep_74 : decode cX9_keep 74 = .ok (.iload_n 1, 1) := by decide +kernel
theorem dX9_keep_75 : decode cX9_keep 75 = .ok (.iaload, 1) := by decide +kernel
theorem dX9_keep_76 : decode cX9_keep 76 = .ok (.iastore, 1) := by decide +kernel
theorem dX9_keep_77 : decode cX9_keep 77 = .ok (.iinc 1 1, 3) := by decide +kernel
theorem dX9_keep_80 : decode cX9_keep 80 = .ok (.goto (-29), 3) := by decide +kernel
theorem dX9_keep_83 : decode cX9_keep 83 = .ok (.aload_n 0, 1) := by decide +kernel
theorem dX9_keep_84 : decode cX9_keep 84 = .ok (.dup, 1) := by decide +kernel
theorem dX9_keep_85 : decode cX9_keep 85 = .ok (.getfield 145, 3) := by decide +kernel
theorem dX9_keep_88 : decode cX9_keep 88 = .ok (.iconst 1, 1) := by decide +kernel
theorem dX9_keep_89 : decode cX9_keep 89 = .ok (.iadd, 1) := by decide +kernel
theorem dX9_keep_90 : decode cX9_keep 90 = .ok (.putfield 145, 3) := by decide +kernel
theorem dX9_keep_93 : decode cX9_keep 93 = .ok (.return_, 1) := by decide +kernel
set_option maxRecDepth 20000 in
theorem ggX9_hours_X9_isThere : GoodIn wsX9_hours wsX9_isThere := goodIn_r _ [11, 5, 42, 43, 44, 45, 46, 47, 48, 49, 50, 51, 52, 53, 54, 55, 56, 57, 58, 59, 60, 61, 62, 63, 64] (by decide +kernel) (by decide +kernel)
set_option maxRecDepth 20000 in
theorem gX9_hours_X9_isThere : GoodIn wsX9_hours (wsV RX9 178 RX9 yX9_isThere wsX9_isThere) := goodIn_app (goodIn_of _ (by decide +kernel)) ggX9_hours_X9_isThere
set_option maxRecDepth 20000 in
theorem ggX9_hours_X9_in : GoodIn wsX9_hours wsX9_in := goodIn_r _ [14] (by decide +kernel) (by decide +kernel)
set_option maxRecDepth 20000 in
theorem gX9_hours_X9_in : GoodIn wsX9_hours (va_wsS RX9 54 yX9_in wsX9_in) := goodIn_app (goodIn_of _ (by decide +kernel)) ggX9_hours_X9_in
set_option maxRecDepth 20000 in
theorem ggX9_hours_X9_keep : GoodIn wsX9_hours wsX9_keep := goodIn_r _ [18, 19, 20, 5, 42, 43, 44, 45, 46, 47, 48, 49, 50, 51, 52, 53, 54, 55, 56, 57, 58, 59, 60, 61, 62, 63, 64] (by decide +kernel) (by decide +kernel)
set_option maxRecDepth 20000 in
theorem gX9_hours_X9_keep : GoodIn wsX9_hours (wsV RX9 184 RX9 yX9_keep wsX9_keep) := goodIn_app (goodIn_of _ (by decide +kernel)) ggX9_hours_X9_keep
set_option maxRecDepth 20000 in
theorem ggX9_hours_X9_hour : GoodIn wsX9_hours wsX9_hour := goodIn_r _ [23, 24, 25, 10, 26, 27, 28, 29, 30, 31, 32, 33, 34, 35, 36, 37, 38] (by decide +kernel) (by decide +kernel)
set_option maxRecDepth 20000 in
theorem gX9_hours_X9_hour : GoodIn wsX9_hours (va_wsS RX9 187 yX9_hour wsX9_hour) := goodIn_app (goodIn_of _ (by decide +kernel)) ggX9_hours_X9_hour
set_option maxRecDepth 20000 in
theorem ggX9_hours_X9_heldOf : GoodIn wsX9_hours wsX9_heldOf := goodIn_r _ [41] (by decide +kernel) (by decide +kernel)
set_option maxRecDepth 20000 in
theorem gX9_hours_X9_heldOf : GoodIn wsX9_hours (va_wsS RX9 191 yX9_heldOf wsX9_heldOf) := goodIn_app (goodIn_of _ (by decide +kernel)) ggX9_hours_X9_heldOf
theorem dX9_hours_0 : decode cX9_hours 0 = .ok (.aload_n 0, 1) := by decide +kernel
theorem dX9_hours_1 : decode cX9_hours 1 = .ok (.iconst 0, 1) := by decide +kernel
theorem dX9_hours_2 : decode cX9_hours 2 = .ok (.putfield 44, 3) := by decide +kernel
theorem dX9_hours_5 : decode cX9_hours 5 = .ok (.aload_n 0, 1) := by decide +kernel
theorem dX9_hours_6 : decode cX9_hours 6 = .ok (.invokevirtual 178, 3) := by decide +kernel
theorem dX9_hours_9 : decode cX9_hours 9 = .ok (.ifCond .ne 6, 3) := by decide +kernel
theorem dX9_hours_12 : decode cX9_hours 12 = .ok (.ldc 181, 2) := by decide +kernel
theorem dX9_hours_14 : decode cX9_hours 14 = .ok (.ireturn, 1) := by decide +kernel
theorem dX9_hours_15 : decode cX9_hours 15 = .ok (.iload_n 1, 1) := by decide +kernel
theorem dX9_hours_16 : decode cX9_hours 16 = .ok (.i2l, 1) := by decide +kernel
theorem dX9_hours_17 : decode cX9_hours 17 = .ok (.lconst 1, 1) := by decide +kernel
theorem dX9_hours_18 : decode cX9_hours 18 = .ok (.ldc2_w 182, 3) := by decide +kernel
theorem dX9_hours_21 : decode cX9_hours 21 = .ok (.invokestatic 54, 3) := by decide +kernel
theorem dX9_hours_24 : decode cX9_hours 24 = .ok (.ifCond .ne 6, 3) := by decide +kernel
theorem dX9_hours_27 : decode cX9_hours 27 = .ok (.ldc 64, 2) := by decide +kernel
theorem dX9_hours_29 : decode cX9_hours 29 = .ok (.ireturn, 1) := by decide +kernel
theorem dX9_hours_30 : decode cX9_hours 30 = .ok (.aload_n 0, 1) := by decide +kernel
theorem dX9_hours_31 : decode cX9_hours 31 = .ok (.getfield 19, 3) := by decide +kernel
theorem dX9_hours_34 : decode cX9_hours 34 = .ok (.iconst 5, 1) := by decide +kernel
theorem dX9_hours_35 : decode cX9_hours 35 = .ok (.iaload, 1) := by decide +kernel
theorem dX9_hours_36 : decode cX9_hours 36 = .ok (.iload_n 1, 1) := by decide +kernel
theorem dX9_hours_37 : decode cX9_hours 37 = .ok (.iadd, 1) := by decide +kernel
theorem dX9_hours_38 : decode cX9_hours 38 = .ok (.sipush 999, 3) := by decide +kernel
theorem dX9_hours_41 : decode cX9_hours 41 = .ok (.if_icmp .le 6, 3) := by decide +kernel
theorem dX9_hours_44 : decode cX9_hours 44 = .ok (.ldc 74, 2) := by decide +kernel
theorem dX9_hours_46 : decode cX9_hours 46 = .ok (.ireturn, 1) := by decide +kernel
theorem dX9_hours_47 : decode cX9_hours 47 = .ok (.iconst 0, 1) := by decide +kernel
theorem dX9_hours_48 : decode cX9_hours 48 = .ok (.istore_n 2, 1) := by decide +kernel
theorem dX9_hours_49 : decode cX9_hours 49 = .ok (.iload_n 2, 1) := by decide +kernel
theorem dX9_hours_50 : decode cX9_hours 50 = .ok (.iload_n 1, 1) := by decide +kernel
theorem dX9_hours_51 : decode cX9_hours 51 = .ok (.if_icmp .ge 20, 3) := by decide +kernel
theorem dX9_hours_54 : decode cX9_hours 54 = .ok (.aload_n 0, 1) := by decide +kernel
theorem dX9_hours_55 : decode cX9_hours 55 = .ok (.invokevirtual 184, 3) := by decide +kernel
theorem dX9_hours_58 : decode cX9_hours 58 = .ok (.aload_n 0, 1) := by decide +kernel
theorem dX9_hours_59 : decode cX9_hours 59 = .ok (.getfield 19, 3) := by decide +kernel
theorem dX9_hours_62 : decode cX9_hours 62 = .ok (.invokestatic 187, 3) := by decide +kernel
theorem dX9_hours_65 : decode cX9_hours 65 = .ok (.iinc 2 1, 3) := by decide +kernel
theorem dX9_hours_68 : decode cX9_hours 68 = .ok (.goto (-19), 3) := by decide +kernel
theorem dX9_hours_71 : decode cX9_hours 71 = .ok (.aload_n 0, 1) := by decide +kernel
theorem dX9_hours_72 : decode cX9_hours 72 = .ok (.getfield 19, 3) := by decide +kernel
theorem dX9_hours_75 : decode cX9_hours 75 = .ok (.invokestatic 191, 3) := by decide +kernel
theorem dX9_hours_78 : decode cX9_hours 78 = .ok (.ireturn, 1) := by decide +kernel
set_option maxRecDepth 20000 in
theorem ggX9_bid_X9_isBidder : GoodIn wsX9_bid wsX9_isBidder := goodIn_r _ [10, 3, 11, 12, 9, 13, 45, 46, 47, 48, 49, 50, 51, 52, 53, 54, 55, 56, 57, 58, 59, 60, 61, 62, 63, 64, 65, 66, 67] (by decide +kernel) (by decide +kernel)
set_option maxRecDepth 20000 in
theorem gX9_bid_X9_isBidder : GoodIn wsX9_bid (wsV RX9 195 RX9 yX9_isBidder wsX9_isBidder) := goodIn_app (goodIn_of _ (by decide +kernel)) ggX9_bid_X9_isBidder
set_option maxRecDepth 20000 in
theorem ggX9_bid_X9_isCell : GoodIn wsX9_bid wsX9_isCell := goodIn_r _ [16, 17, 11, 12, 9, 13] (by decide +kernel) (by decide +kernel)
set_option maxRecDepth 20000 in
theorem gX9_bid_X9_isCell : GoodIn wsX9_bid (va_wsS RX9 198 yX9_isCell wsX9_isCell) := goodIn_app (goodIn_of _ (by decide +kernel)) ggX9_bid_X9_isCell
set_option maxRecDepth 20000 in
theorem ggX9_bid_X9_mayBid : GoodIn wsX9_bid wsX9_mayBid := goodIn_r _ [20, 21, 22, 9, 23, 24, 25, 26, 27, 28, 29, 30, 31, 32] (by decide +kernel) (by decide +kernel)
set_option maxRecDepth 20000 in
theorem gX9_bid_X9_mayBid : GoodIn wsX9_bid (va_wsS RX9 201 yX9_mayBid wsX9_mayBid) := goodIn_app (goodIn_of _ (by decide +kernel)) ggX9_bid_X9_mayBid
set_option maxRecDepth 20000 in
theorem ggX9_bid_X9_of : GoodIn wsX9_bid wsX9_of := goodIn_r _ [32] (by decide +kernel) (by decide +kernel)
set_option maxRecDepth 20000 in
theorem gX9_bid_X9_of : GoodIn wsX9_bid (va_wsS RX9 158 yX9_of wsX9_of) := goodIn_app (goodIn_of _ (by decide +kernel)) ggX9_bid_X9_of
set_option maxRecDepth 20000 in
theorem ggX9_bid_X9_priceBy : GoodIn wsX9_bid wsX9_priceBy := goodIn_r _ [35] (by decide +kernel) (by decide +kernel)
set_option maxRecDepth 20000 in
theorem gX9_bid_X9_priceBy : GoodIn wsX9_bid (va_wsS RX9 172 yX9_priceBy wsX9_priceBy) := goodIn_app (goodIn_of _ (by decide +kernel)) ggX9_bid_X9_priceBy
set_option maxRecDepth 20000 in
theorem ggX9_bid_X9_keep : GoodIn wsX9_bid wsX9_keep := goodIn_r _ [39, 40, 41, 3, 45, 46, 47, 48, 49, 50, 51, 52, 53, 54, 55, 56, 57, 58, 59, 60, 61, 62, 63, 64, 65, 66, 67] (by decide +kernel) (by decide +kernel)
set_option maxRecDepth 20000 in
theorem gX9_bid_X9_keep : GoodIn wsX9_bid (wsV RX9 184 RX9 yX9_keep wsX9_keep) := goodIn_app (goodIn_of _ (by decide +kernel)) ggX9_bid_X9_keep
set_option maxRecDepth 20000 in
theorem ggX9_bid_X9_buys : GoodIn wsX9_bid wsX9_buys := goodIn_r _ [44, 30, 31, 9, 32, 33, 34, 35] (by decide +kernel) (by decide +kernel)
set_option maxRecDepth 20000 in
theorem gX9_bid_X9_buys : GoodIn wsX9_bid (va_wsS RX9 204 yX9_buys wsX9_buys) := goodIn_app (goodIn_of _ (by decide +kernel)) ggX9_bid_X9_buys
theorem dX9_bid_0 : decode cX9_bid 0 = .ok (.aload_n 0, 1) := by decide +kernel
theorem dX9_bid_1 : decode cX9_bid 1 = .ok (.iconst 0, 1) := by decide +kernel
theorem dX9_bid_2 : decode cX9_bid 2 = .ok (.putfield 44, 3) := by decide +kernel
theorem dX9_bid_5 : decode cX9_bid 5 = .ok (.aload_n 0, 1) := by decide +kernel
theorem dX9_bid_6 : decode cX9_bid 6 = .ok (.iload_n 1, 1) := by decide +kernel
theorem dX9_bid_7 : decode cX9_bid 7 = .ok (.invokevirtual 195, 3) := by decide +kernel
theorem dX9_bid_10 : decode cX9_bid 10 = .ok (.ifCond .eq 10, 3) := by decide +kernel
theorem dX9_bid_13 : decode cX9_bid 13 = .ok (.iload_n 2, 1) := by decide +kernel
theorem dX9_bid_14 : decode cX9_bid 14 = .ok (.invokestatic 198, 3) := by decide +kernel
theorem dX9_bid_17 : decode cX9_bid 17 = .ok (.ifCond .ne 6, 3) := by decide +kernel
theorem dX9_bid_20 : decode cX9_bid 20 = .ok (.ldc 64, 2) := by decide +kernel
theorem dX9_bid_22 : decode cX9_bid 22 = .ok (.ireturn, 1) := by decide +kernel
theorem dX9_bid_23 : decode cX9_bid 23 = .ok (.aload_n 0, 1) := by decide +kernel
theorem dX9_bid_24 : decode cX9_bid 24 = .ok (.getfield 19, 3) := by decide +kernel
theorem dX9_bid_27 : decode cX9_bid 27 = .ok (.iload_n 1, 1) := by decide +kernel
theorem dX9_bid_28 : decode cX9_bid 28 = .ok (.iload_n 2, 1) := by decide +kernel
theorem dX9_bid_29 : decode cX9_bid 29 = .ok (.invokestatic 201, 3) := by decide +kernel
theorem dX9_bid_32 : decode cX9_bid 32 = .ok (.ifCond .ne 6, 3) := by decide +kernel
theorem dX9_bid_35 : decode cX9_bid 35 = .ok (.ldc 181, 2) := by decide +kernel
theorem dX9_bid_37 : decode cX9_bid 37 = .ok (.ireturn, 1) := by decide +kernel
theorem dX9_bid_38 : decode cX9_bid 38 = .ok (.aload_n 0, 1) := by decide +kernel
theorem dX9_bid_39 : decode cX9_bid 39 = .ok (.getfield 19, 3) := by decide +kernel
theorem dX9_bid_42 : decode cX9_bid 42 = .ok (.iload_n 1, 1) := by decide +kernel
theorem dX9_bid_43 : decode cX9_bid 43 = .ok (.iconst 1, 1) := by decide +kernel
theorem dX9_bid_44 : decode cX9_bid 44 = .ok (.invokestatic 158, 3) := by decide +kernel
theorem dX9_bid_47 : decode cX9_bid 47 = .ok (.aload_n 0, 1) := by decide +kernel
theorem dX9_bid_48 : decode cX9_bid 48 = .ok (.getfield 19, 3) := by decide +kernel
theorem dX9_bid_51 : decode cX9_bid 51 = .ok (.aload_n 0, 1) := by decide +kernel
theorem dX9_bid_52 : decode cX9_bid 52 = .ok (.getfield 19, 3) := by decide +kernel
theorem dX9_bid_55 : decode cX9_bid 55 = .ok (.iload_n 1, 1) := by decide +kernel
theorem dX9_bid_56 : decode cX9_bid 56 = .ok (.iconst 0, 1) := by decide +kernel
theorem dX9_bid_57 : decode cX9_bid 57 = .ok (.invokestatic 158, 3) := by decide +kernel
theorem dX9_bid_60 : decode cX9_bid 60 = .ok (.iload_n 2, 1) := by decide +kernel
theorem dX9_bid_61 : decode cX9_bid 61 = .ok (.invokestatic 172, 3) := by decide +kernel
theorem dX9_bid_64 : decode cX9_bid 64 = .ok (.if_icmp .ge 6, 3) := by decide +kernel
theorem dX9_bid_67 : decode cX9_bid 67 = .ok (.ldc 74, 2) := by decide +kernel
theorem dX9_bid_69 : decode cX9_bid 69 = .ok (.ireturn, 1) := by decide +kernel
theorem dX9_bid_70 : decode cX9_bid 70 = .ok (.aload_n 0, 1) := by decide +kernel
theorem dX9_bid_71 : decode cX9_bid 71 = .ok (.invokevirtual 184, 3) := by decide +kernel
theorem dX9_bid_74 : decode cX9_bid 74 = .ok (.aload_n 0, 1) := by decide +kernel
theorem dX9_bid_75 : decode cX9_bid 75 = .ok (.getfield 19, 3) := by decide +kernel
theorem dX9_bid_78 : decode cX9_bid 78 = .ok (.iload_n 1, 1) := by decide +kernel
theorem dX9_bid_79 : decode cX9_bid 79 = .ok (.iload_n 2, 1) := by decide +kernel
theorem dX9_bid_80 : decode cX9_bid 80 = .ok (.invokestatic 204, 3) := by decide +kernel
theorem dX9_bid_83 : decode cX9_bid 83 = .ok (.aload_n 0, 1) := by decide +kernel
theorem dX9_bid_84 : decode cX9_bid 84 = .ok (.getfield 19, 3) := by decide +kernel
theorem dX9_bid_87 : decode cX9_bid 87 = .ok (.iload_n 1, 1) := by decide +kernel
theorem dX9_bid_88 : decode cX9_bid 88 = .ok (.iconst 1, 1) := by decide +kernel
theorem dX9_bid_89 : decode cX9_bid 89 = .ok (.invokestatic 158, 3) := by decide +kernel
theorem dX9_bid_92 : decode cX9_bid 92 = .ok (.ireturn, 1) := by decide +kernel
set_option maxRecDepth 20000 in
theorem ggX9_raise_X9_isBidder : GoodIn wsX9_raise wsX9_isBidder := goodIn_r _ [10, 3, 11, 12, 9, 13, 24, 25, 26, 27, 28, 29, 30, 31, 32, 33, 34, 35, 36, 37, 38, 39, 40, 41, 42, 43, 44, 45, 46] (by decide +kernel) (by decide +kernel)
set_option maxRecDepth 20000 in
theorem gX9_raise_X9_isBidder : GoodIn wsX9_raise (wsV RX9 195 RX9 yX9_isBidder wsX9_isBidder) := goodIn_app (goodIn_of _ (by decide +kernel)) ggX9_raise_X9_isBidder
set_option maxRecDepth 20000 in
theorem ggX9_raise_X9_isCell : GoodIn wsX9_raise wsX9_isCell := goodIn_r _ [16, 17, 11, 12, 9, 13] (by decide +kernel) (by decide +kernel)
set_option maxRecDepth 20000 in
theorem gX9_raise_X9_isCell : GoodIn wsX9_raise (va_wsS RX9 198 yX9_isCell wsX9_isCell) := goodIn_app (goodIn_of _ (by decide +kernel)) ggX9_raise_X9_isCell
set_option maxRecDepth 20000 in
theorem ggX9_raise_X9_keep : GoodIn wsX9_raise wsX9_keep := goodIn_r _ [21, 22, 23, 3, 24, 25, 26, 27, 28, 29, 30, 31, 32, 33, 34, 35, 36, 37, 38, 39, 40, 41, 42, 43, 44, 45, 46] (by decide +kernel) (by decide +kernel)
set_option maxRecDepth 20000 in
theorem gX9_raise_X9_keep : GoodIn wsX9_raise (wsV RX9 184 RX9 yX9_keep wsX9_keep) := goodIn_app (goodIn_of _ (by decide +kernel)) ggX9_raise_X9_keep
theorem dX9_raise_0 : decode cX9_raise 0 = .ok (.aload_n 0, 1) := by decide +kernel
theorem dX9_raise_1 : decode cX9_raise 1 = .ok (.iconst 0, 1) := by decide +kernel
theorem dX9_raise_2 : decode cX9_raise 2 = .ok (.putfield 44, 3) := by decide +kernel
theorem dX9_raise_5 : decode cX9_raise 5 = .ok (.aload_n 0, 1) := by decide +kernel
theorem dX9_raise_6 : decode cX9_raise 6 = .ok (.iload_n 1, 1) := by decide +kernel
theorem dX9_raise_7 : decode cX9_raise 7 = .ok (.invokevirtual 195, 3) := by decide +kernel
theorem dX9_raise_10 : decode cX9_raise 10 = .ok (.ifCond .eq 10, 3) := by decide +kernel
theorem dX9_raise_13 : decode cX9_raise 13 = .ok (.iload_n 2, 1) := by decide +kernel
theorem dX9_raise_14 : decode cX9_raise 14 = .ok (.invokestatic 198, 3) := by decide +kernel
theorem dX9_raise_17 : decode cX9_raise 17 = .ok (.ifCond .ne 6, 3) := by decide +kernel
theorem dX9_raise_20 : decode cX9_raise 20 = .ok (.ldc 64, 2) := by decide +kernel
theorem dX9_raise_22 : decode cX9_raise 22 = .ok (.ireturn, 1) := by decide +kernel
theorem dX9_raise_23 : decode cX9_raise 23 = .ok (.aload_n 0, 1) := by decide +kernel
theorem dX9_raise_24 : decode cX9_raise 24 = .ok (.getfield 19, 3) := by decide +kernel
theorem dX9_raise_27 : decode cX9_raise 27 = .ok (.bipush 21, 2) := by decide +kernel
theorem dX9_raise_29 : decode cX9_raise 29 = .ok (.iload_n 2, 1) := by decide +kernel
theorem dX9_raise_30 : decode cX9_raise 30 = .ok (.iadd, 1) := by decide +kernel
theorem dX9_raise_31 : decode cX9_raise 31 = .ok (.iaload, 1) := by decide +kernel
theorem dX9_raise_32 : decode cX9_raise 32 = .ok (.iload_n 1, 1) := by decide +kernel
theorem dX9_raise_33 : decode cX9_raise 33 = .ok (.iconst 1, 1) := by decide +kernel
theorem dX9_raise_34 : decode cX9_raise 34 = .ok (.iadd, 1) := by decide +kernel
theorem dX9_raise_35 : decode cX9_raise 35 = .ok (.if_icmp .eq 6, 3) := by decide +kernel
theorem dX9_raise_38 : decode cX9_raise 38 = .ok (.ldc 181, 2) := by decide +kernel
theorem dX9_raise_40 : decode cX9_raise 40 = .ok (.ireturn, 1) := by decide +kernel
theorem dX9_raise_41 : decode cX9_raise 41 = .ok (.aload_n 0, 1) := by decide +kernel
theorem dX9_raise_42 : decode cX9_raise 42 = .ok (.getfield 19, 3) := by decide +kernel
theorem dX9_raise_45 : decode cX9_raise 45 = .ok (.bipush 6, 2) := by decide +kernel
theorem dX9_raise_47 : decode cX9_raise 47 = .ok (.iload_n 2, 1) := by decide +kernel
theorem dX9_raise_48 : decode cX9_raise 48 = .ok (.iadd, 1) := by decide +kernel
theorem dX9_raise_49 : decode cX9_raise 49 = .ok (.iaload, 1) := by decide +kernel
theorem dX9_raise_50 : decode cX9_raise 50 = .ok (.bipush 9, 2) := by decide +kernel
theorem dX9_raise_52 : decode cX9_raise 52 = .ok (.if_icmp .ne 6, 3) := by decide +kernel
theorem dX9_raise_55 : decode cX9_raise 55 = .ok (.ldc 74, 2) := by decide +kernel
theorem dX9_raise_57 : decode cX9_raise 57 = .ok (.ireturn, 1) := by decide +kernel
theorem dX9_raise_58 : decode cX9_raise 58 = .ok (.aload_n 0, 1) := by decide +kernel
theorem dX9_raise_59 : decode cX9_raise 59 = .ok (.invokevirtual 184, 3) := by decide +kernel
theorem dX9_raise_62 : decode cX9_raise 62 = .ok (.aload_n 0, 1) := by decide +kernel
theorem dX9_raise_63 : decode cX9_raise 63 = .ok (.getfield 19, 3) := by decide +kernel
theorem dX9_raise_66 : decode cX9_raise 66 = .ok (.bipush 6, 2) := by decide +kernel
theorem dX9_raise_68 : decode cX9_raise 68 = .ok (.iload_n 2, 1) := by decide +kernel
theorem dX9_raise_69 : decode cX9_raise 69 = .ok (.iadd, 1) := by decide +kernel
theorem dX9_raise_70 : decode cX9_raise 70 = .ok (.dup2, 1) := by decide +kernel
theorem dX9_raise_71 : decode cX9_raise 71 = .ok (.iaload, 1) := by decide +kernel
theorem dX9_raise_72 : decode cX9_raise 72 = .ok (.iconst 1, 1) := by decide +kernel
theorem dX9_raise_73 : decode cX9_raise 73 = .ok (.iadd, 1) := by decide +kernel
theorem dX9_raise_74 : decode cX9_raise 74 = .ok (.iastore, 1) := by decide +kernel
theorem dX9_raise_75 : decode cX9_raise 75 = .ok (.aload_n 0, 1) := by decide +kernel
theorem dX9_raise_76 : decode cX9_raise 76 = .ok (.getfield 19, 3) := by decide +kernel
theorem dX9_raise_79 : decode cX9_raise 79 = .ok (.bipush 6, 2) := by decide +kernel
theorem dX9_raise_81 : decode cX9_raise 81 = .ok (.iload_n 2, 1) := by decide +kernel
theorem dX9_raise_82 : decode cX9_raise 82 = .ok (.iadd, 1) := by decide +kernel
theorem dX9_raise_83 : decode cX9_raise 83 = .ok (.iaload, 1) := by decide +kernel
theorem dX9_raise_84 : decode cX9_raise 84 = .ok (.ireturn, 1) := by decide +kernel
set_option maxRecDepth 20000 in
theorem ggX9_give_X9_isBidder : GoodIn wsX9_give wsX9_isBidder := goodIn_r _ [9, 3, 10, 11, 8, 12, 26, 27, 28, 29, 30, 31, 32, 33, 34, 35, 36, 37, 38, 39, 40, 41, 42, 43, 44, 45, 46, 47, 48] (by decide +kernel) (by decide +kernel)
set_option maxRecDepth 20000 in
theorem gX9_give_X9_isBidder : GoodIn wsX9_give (wsV RX9 195 RX9 yX9_isBidder wsX9_isBidder) := goodIn_app (goodIn_of _ (by decide +kernel)) ggX9_give_X9_isBidder
set_option maxRecDepth 20000 in
theorem ggX9_give_X9_isCell : GoodIn wsX9_give wsX9_isCell := goodIn_r _ [15, 16, 10, 11, 8, 12] (by decide +kernel) (by decide +kernel)
set_option maxRecDepth 20000 in
theorem gX9_give_X9_isCell : GoodIn wsX9_give (va_wsS RX9 198 yX9_isCell wsX9_isCell) := goodIn_app (goodIn_of _ (by decide +kernel)) ggX9_give_X9_isCell
set_option maxRecDepth 20000 in
theorem ggX9_give_X9_keep : GoodIn wsX9_give wsX9_keep := goodIn_r _ [20, 21, 22, 3, 26, 27, 28, 29, 30, 31, 32, 33, 34, 35, 36, 37, 38, 39, 40, 41, 42, 43, 44, 45, 46, 47, 48] (by decide +kernel) (by decide +kernel)
set_option maxRecDepth 20000 in
theorem gX9_give_X9_keep : GoodIn wsX9_give (wsV RX9 184 RX9 yX9_keep wsX9_keep) := goodIn_app (goodIn_of _ (by decide +kernel)) ggX9_give_X9_keep
set_option maxRecDepth 20000 in
theorem ggX9_give_X9_heldBy : GoodIn wsX9_give wsX9_heldBy := goodIn_r _ [25] (by decide +kernel) (by decide +kernel)
set_option maxRecDepth 20000 in
theorem gX9_give_X9_heldBy : GoodIn wsX9_give (va_wsS RX9 208 yX9_heldBy wsX9_heldBy) := goodIn_app (goodIn_of _ (by decide +kernel)) ggX9_give_X9_heldBy
theorem dX9_give_0 : decode cX9_give 0 = .ok (.aload_n 0, 1) := by decide +kernel
theorem dX9_give_1 : decode cX9_give 1 = .ok (.iconst 0, 1) := by decide +kernel
theorem dX9_give_2 : decode cX9_give 2 = .ok (.putfield 44, 3) := by decide +kernel
theorem dX9_give_5 : decode cX9_give 5 = .ok (.aload_n 0, 1) := by decide +kernel
theorem dX9_give_6 : decode cX9_give 6 = .ok (.iload_n 1, 1) := by decide +kernel
theorem dX9_give_7 : decode cX9_give 7 = .ok (.invokevirtual 195, 3) := by decide +kernel
theorem dX9_give_10 : decode cX9_give 10 = .ok (.ifCond .eq 23, 3) := by decide +kernel
theorem dX9_give_13 : decode cX9_give 13 = .ok (.aload_n 0, 1) := by decide +kernel
theorem dX9_give_14 : decode cX9_give 14 = .ok (.iload_n 2, 1) := by decide +kernel
theorem dX9_give_15 : decode cX9_give 15 = .ok (.invokevirtual 195, 3) := by decide +kernel
theorem dX9_give_18 : decode cX9_give 18 = .ok (.ifCond .eq 15, 3) := by decide +kernel
theorem dX9_give_21 : decode cX9_give 21 = .ok (.iload_n 1, 1) := by decide +kernel
theorem dX9_give_22 : decode cX9_give 22 = .ok (.iload_n 2, 1) := by decide +kernel
theorem dX9_give_23 : decode cX9_give 23 = .ok (.if_icmp .eq 10, 3) := by decide +kernel
theorem dX9_give_26 : decode cX9_give 26 = .ok (.iload_n 3, 1) := by decide +kernel
theorem dX9_give_27 : decode cX9_give 27 = .ok (.invokestatic 198, 3) := by decide +kernel
theorem dX9_give_30 : decode cX9_give 30 = .ok (.ifCond .ne 6, 3) := by decide +kernel
theorem dX9_give_33 : decode cX9_give 33 = .ok (.ldc 64, 2) := by decide +kernel
theorem dX9_give_35 : decode cX9_give 35 = .ok (.ireturn, 1) := by decide +kernel
theorem dX9_give_36 : decode cX9_give 36 = .ok (.aload_n 0, 1) := by decide +kernel
theorem dX9_give_37 : decode cX9_give 37 = .ok (.getfield 19, 3) := by decide +kernel
theorem dX9_give_40 : decode cX9_give 40 = .ok (.bipush 21, 2) := by decide +kernel
theorem dX9_give_42 : decode cX9_give 42 = .ok (.iload_n 3, 1) := by decide +kernel
theorem dX9_give_43 : decode cX9_give 43 = .ok (.iadd, 1) := by decide +kernel
theorem dX9_give_44 : decode cX9_give 44 = .ok (.iaload, 1) := by decide +kernel
theorem dX9_give_45 : decode cX9_give 45 = .ok (.iload_n 1, 1) := by decide +kernel
theorem dX9_give_46 : decode cX9_give 46 = .ok (.iconst 1, 1) := by decide +kernel
theorem dX9_give_47 : decode cX9_give 47 = .ok (.iadd, 1) := by decide +kernel
theorem dX9_give_48 : decode cX9_give 48 = .ok (.if_icmp .eq 6, 3) := by decide +kernel
theorem dX9_give_51 : decode cX9_give 51 = .ok (.ldc 181, 2) := by decide +kernel
theorem dX9_give_53 : decode cX9_give 53 = .ok (.ireturn, 1) := by decide +kernel
theorem dX9_give_54 : decode cX9_give 54 = .ok (.aload_n 0, 1) := by decide +kernel
theorem dX9_give_55 : decode cX9_give 55 = .ok (.invokevirtual 184, 3) := by decide +kernel
theorem dX9_give_58 : decode cX9_give 58 = .ok (.aload_n 0, 1) := by decide +kernel
theorem dX9_give_59 : decode cX9_give 59 = .ok (.getfield 19, 3) := by decide +kernel
theorem dX9_give_62 : decode cX9_give 62 = .ok (.bipush 21, 2) := by decide +kernel
theorem dX9_give_64 : decode cX9_give 64 = .ok (.iload_n 3, 1) := by decide +kernel
theorem dX9_give_65 : decode cX9_give 65 = .ok (.iadd, 1) := by decide +kernel
theorem dX9_give_66 : decode cX9_give 66 = .ok (.iload_n 2, 1) := by decide +kernel
theorem dX9_give_67 : decode cX9_give 67 = .ok (.iconst 1, 1) := by decide +kernel
theorem dX9_give_68 : decode cX9_give 68 = .ok (.iadd, 1) := by decide +kernel
theorem dX9_give_69 : decode cX9_give 69 = .ok (.iastore, 1) := by decide +kernel
theorem dX9_give_70 : decode cX9_give 70 = .ok (.aload_n 0, 1) := by decide +kernel
theorem dX9_give_71 : decode cX9_give 71 = .ok (.getfield 19, 3) := by decide +kernel
theorem dX9_give_74 : decode cX9_give 74 = .ok (.iload_n 2, 1) := by decide +kernel
theorem dX9_give_75 : decode cX9_give 75 = .ok (.invokestatic 208, 3) := by decide +kernel
theorem dX9_give_78 : decode cX9_give 78 = .ok (.ireturn, 1) := by decide +kernel
theorem dX9_undo_0 : decode cX9_undo 0 = .ok (.aload_n 0, 1) := by decide +kernel
theorem dX9_undo_1 : decode cX9_undo 1 = .ok (.iconst 0, 1) := by decide +kernel
theorem dX9_undo_2 : decode cX9_undo 2 = .ok (.putfield 44, 3) := by decide +kernel
theorem dX9_undo_5 : decode cX9_undo 5 = .ok (.aload_n 0, 1) := by decide +kernel
theorem dX9_undo_6 : decode cX9_undo 6 = .ok (.getfield 145, 3) := by decide +kernel
theorem dX9_undo_9 : decode cX9_undo 9 = .ok (.ifCond .ne 6, 3) := by decide +kernel
theorem dX9_undo_12 : decode cX9_undo 12 = .ok (.ldc 181, 2) := by decide +kernel
theorem dX9_undo_14 : decode cX9_undo 14 = .ok (.ireturn, 1) := by decide +kernel
theorem dX9_undo_15 : decode cX9_undo 15 = .ok (.aload_n 0, 1) := by decide +kernel
theorem dX9_undo_16 : decode cX9_undo 16 = .ok (.dup, 1) := by decide +kernel
theorem dX9_undo_17 : decode cX9_undo 17 = .ok (.getfield 145, 3) := by decide +kernel
theorem dX9_undo_20 : decode cX9_undo 20 = .ok (.iconst 1, 1) := by decide +kernel
theorem dX9_undo_21 : decode cX9_undo 21 = .ok (.isub, 1) := by decide +kernel
theorem dX9_undo_22 : decode cX9_undo 22 = .ok (.putfield 145, 3) := by decide +kernel
theorem dX9_undo_25 : decode cX9_undo 25 = .ok (.iconst 0, 1) := by decide +kernel
theorem dX9_undo_26 : decode cX9_undo 26 = .ok (.istore_n 1, 1) := by decide +kernel
theorem dX9_undo_27 : decode cX9_undo 27 = .ok (.iload_n 1, 1) := by decide +kernel
theorem dX9_undo_28 : decode cX9_undo 28 = .ok (.bipush 51, 2) := by decide +kernel
theorem dX9_undo_30 : decode cX9_undo 30 = .ok (.if_icmp .ge 29, 3) := by decide +kernel
theorem dX9_undo_33 : decode cX9_undo 33 = .ok (.aload_n 0, 1) := by decide +kernel
theorem dX9_undo_34 : decode cX9_undo 34 = .ok (.getfield 19, 3) := by decide +kernel
theorem dX9_undo_37 : decode cX9_undo 37 = .ok (.iload_n 1, 1) := by decide +kernel
theorem dX9_undo_38 : decode cX9_undo 38 = .ok (.aload_n 0, 1) := by decide +kernel
theorem dX9_undo_39 : decode cX9_undo 39 = .ok (.getfield 28, 3) := by decide +kernel
theorem dX9_undo_42 : decode cX9_undo 42 = .ok (.bipush 51, 2) := by decide +kernel
theorem dX9_undo_44 : decode cX9_undo 44 = .ok (.aload_n 0, 1) := by decide +kernel
theorem dX9_undo_45 : decode cX9_undo 45 = .ok (.getfield 145, 3) := by decide +kernel
theorem dX9_undo_48 : decode cX9_undo 48 = .ok (.imul, 1) := by decide +kernel
theorem dX9_undo_49 : decode cX9_undo 49 = .ok (.iload_n 1, 1) := by decide +kernel
theorem dX9_undo_50 : decode cX9_undo 50 = .ok (.iadd, 1) := by decide +kernel
theorem dX9_undo_51 : decode cX9_undo 51 = .ok (.iaload, 1) := by decide +kernel
theorem dX9_undo_52 : decode cX9_undo 52 = .ok (.iastore, 1) := by decide +kernel
theorem dX9_undo_53 : decode cX9_undo 53 = .ok (.iinc 1 1, 3) := by decide +kernel
theorem dX9_undo_56 : decode cX9_undo 56 = .ok (.goto (-29), 3) := by decide +kernel
theorem dX9_undo_59 : decode cX9_undo 59 = .ok (.aload_n 0, 1) := by decide +kernel
theorem dX9_undo_60 : decode cX9_undo 60 = .ok (.getfield 145, 3) := by decide +kernel
theorem dX9_undo_63 : decode cX9_undo 63 = .ok (.ireturn, 1) := by decide +kernel
set_option maxRecDepth 20000 in
theorem ggX9_bidder_X9_isBidder : GoodIn wsX9_bidder wsX9_isBidder := goodIn_r _ [9, 4, 10, 11, 8, 12, 19, 20, 21, 22, 23, 24, 25, 26, 27, 28, 29, 30, 31, 32, 33, 34, 35, 36, 37, 38, 39, 40, 41] (by decide +kernel) (by decide +kernel)
set_option maxRecDepth 20000 in
theorem gX9_bidder_X9_isBidder : GoodIn wsX9_bidder (wsV RX9 195 RX9 yX9_isBidder wsX9_isBidder) := goodIn_app (goodIn_of _ (by decide +kernel)) ggX9_bidder_X9_isBidder
set_option maxRecDepth 20000 in
theorem ggX9_bidder_X9_in : GoodIn wsX9_bidder wsX9_in := goodIn_r _ [12] (by decide +kernel) (by decide +kernel)
set_option maxRecDepth 20000 in
theorem gX9_bidder_X9_in : GoodIn wsX9_bidder (va_wsS RX9 54 yX9_in wsX9_in) := goodIn_app (goodIn_of _ (by decide +kernel)) ggX9_bidder_X9_in
set_option maxRecDepth 20000 in
theorem ggX9_bidder_X9_heldBy : GoodIn wsX9_bidder wsX9_heldBy := goodIn_r _ [15] (by decide +kernel) (by decide +kernel)
set_option maxRecDepth 20000 in
theorem gX9_bidder_X9_heldBy : GoodIn wsX9_bidder (va_wsS RX9 208 yX9_heldBy wsX9_heldBy) := goodIn_app (goodIn_of _ (by decide +kernel)) ggX9_bidder_X9_heldBy
set_option maxRecDepth 20000 in
theorem ggX9_bidder_X9_of : GoodIn wsX9_bidder wsX9_of := goodIn_r _ [18] (by decide +kernel) (by decide +kernel)
set_option maxRecDepth 20000 in
theorem gX9_bidder_X9_of : GoodIn wsX9_bidder (va_wsS RX9 158 yX9_of wsX9_of) := goodIn_app (goodIn_of _ (by decide +kernel)) ggX9_bidder_X9_of
theorem dX9_bidder_0 : decode cX9_bidder 0 = .ok (.aload_n 0, 1) := by decide +kernel
theorem dX9_bidder_1 : decode cX9_bidder 1 = .ok (.iconst 0, 1) := by decide +kernel
theorem dX9_bidder_2 : decode cX9_bidder 2 = .ok (.putfield 44, 3) := by decide +kernel
theorem dX9_bidder_5 : decode cX9_bidder 5 = .ok (.aload_n 0, 1) := by decide +kernel
theorem dX9_bidder_6 : decode cX9_bidder 6 = .ok (.iload_n 1, 1) := by decide +kernel
theorem dX9_bidder_7 : decode cX9_bidder 7 = .ok (.invokevirtual 195, 3) := by decide +kernel
theorem dX9_bidder_10 : decode cX9_bidder 10 = .ok (.ifCond .eq 15, 3) := by decide +kernel
theorem dX9_bidder_13 : decode cX9_bidder 13 = .ok (.iload_n 2, 1) := by decide +kernel
theorem dX9_bidder_14 : decode cX9_bidder 14 = .ok (.i2l, 1) := by decide +kernel
theorem dX9_bidder_15 : decode cX9_bidder 15 = .ok (.lconst 0, 1) := by decide +kernel
theorem dX9_bidder_16 : decode cX9_bidder 16 = .ok (.ldc2_w 62, 3) := by decide +kernel
theorem dX9_bidder_19 : decode cX9_bidder 19 = .ok (.invokestatic 54, 3) := by decide +kernel
theorem dX9_bidder_22 : decode cX9_bidder 22 = .ok (.ifCond .ne 6, 3) := by decide +kernel
theorem dX9_bidder_25 : decode cX9_bidder 25 = .ok (.ldc 64, 2) := by decide +kernel
theorem dX9_bidder_27 : decode cX9_bidder 27 = .ok (.ireturn, 1) := by decide +kernel
theorem dX9_bidder_28 : decode cX9_bidder 28 = .ok (.iload_n 2, 1) := by decide +kernel
theorem dX9_bidder_29 : decode cX9_bidder 29 = .ok (.iconst 2, 1) := by decide +kernel
theorem dX9_bidder_30 : decode cX9_bidder 30 = .ok (.if_icmp .ne 14, 3) := by decide +kernel
theorem dX9_bidder_33 : decode cX9_bidder 33 = .ok (.aload_n 0, 1) := by decide +kernel
theorem dX9_bidder_34 : decode cX9_bidder 34 = .ok (.getfield 19, 3) := by decide +kernel
theorem dX9_bidder_37 : decode cX9_bidder 37 = .ok (.iload_n 1, 1) := by decide +kernel
theorem dX9_bidder_38 : decode cX9_bidder 38 = .ok (.invokestatic 208, 3) := by decide +kernel
theorem dX9_bidder_41 : decode cX9_bidder 41 = .ok (.goto 14, 3) := by decide +kernel
theorem dX9_bidder_44 : decode cX9_bidder 44 = .ok (.aload_n 0, 1) := by decide +kernel
theorem dX9_bidder_45 : decode cX9_bidder 45 = .ok (.getfield 19, 3) := by decide +kernel
theorem dX9_bidder_48 : decode cX9_bidder 48 = .ok (.iload_n 1, 1) := by decide +kernel
theorem dX9_bidder_49 : decode cX9_bidder 49 = .ok (.iconst 1, 1) := by decide +kernel
theorem dX9_bidder_50 : decode cX9_bidder 50 = .ok (.iload_n 2, 1) := by decide +kernel
theorem dX9_bidder_51 : decode cX9_bidder 51 = .ok (.iadd, 1) := by decide +kernel
theorem dX9_bidder_52 : decode cX9_bidder 52 = .ok (.invokestatic 158, 3) := by decide +kernel
theorem dX9_bidder_55 : decode cX9_bidder 55 = .ok (.ireturn, 1) := by decide +kernel
set_option maxRecDepth 20000 in
theorem ggX9_cell_X9_isThere : GoodIn wsX9_cell wsX9_isThere := goodIn_r _ [10, 4, 27, 28, 29, 30, 31, 32, 33, 34, 35, 36, 37, 38, 39, 40, 41, 42, 43, 44, 45, 46, 47, 48, 49] (by decide +kernel) (by decide +kernel)
set_option maxRecDepth 20000 in
theorem gX9_cell_X9_isThere : GoodIn wsX9_cell (wsV RX9 178 RX9 yX9_isThere wsX9_isThere) := goodIn_app (goodIn_of _ (by decide +kernel)) ggX9_cell_X9_isThere
set_option maxRecDepth 20000 in
theorem ggX9_cell_X9_isCell : GoodIn wsX9_cell wsX9_isCell := goodIn_r _ [13, 14, 15, 16, 9, 17] (by decide +kernel) (by decide +kernel)
set_option maxRecDepth 20000 in
theorem gX9_cell_X9_isCell : GoodIn wsX9_cell (va_wsS RX9 198 yX9_isCell wsX9_isCell) := goodIn_app (goodIn_of _ (by decide +kernel)) ggX9_cell_X9_isCell
set_option maxRecDepth 20000 in
theorem ggX9_cell_X9_isDry : GoodIn wsX9_cell wsX9_isDry := goodIn_r _ [20, 21, 22, 9, 23] (by decide +kernel) (by decide +kernel)
set_option maxRecDepth 20000 in
theorem gX9_cell_X9_isDry : GoodIn wsX9_cell (va_wsS RX9 154 yX9_isDry wsX9_isDry) := goodIn_app (goodIn_of _ (by decide +kernel)) ggX9_cell_X9_isDry
set_option maxRecDepth 20000 in
theorem ggX9_cell_X9_deepOf : GoodIn wsX9_cell wsX9_deepOf := goodIn_r _ [26, 18, 19, 9, 20, 21, 22, 23] (by decide +kernel) (by decide +kernel)
set_option maxRecDepth 20000 in
theorem gX9_cell_X9_deepOf : GoodIn wsX9_cell (va_wsS RX9 162 yX9_deepOf wsX9_deepOf) := goodIn_app (goodIn_of _ (by decide +kernel)) ggX9_cell_X9_deepOf
theorem dX9_cell_0 : decode cX9_cell 0 = .ok (.aload_n 0, 1) := by decide +kernel
theorem dX9_cell_1 : decode cX9_cell 1 = .ok (.iconst 0, 1) := by decide +kernel
theorem dX9_cell_2 : decode cX9_cell 2 = .ok (.putfield 44, 3) := by decide +kernel
theorem dX9_cell_5 : decode cX9_cell 5 = .ok (.aload_n 0, 1) := by decide +kernel
theorem dX9_cell_6 : decode cX9_cell 6 = .ok (.invokevirtual 178, 3) := by decide +kernel
theorem dX9_cell_9 : decode cX9_cell 9 = .ok (.ifCond .ne 6, 3) := by decide +kernel
theorem dX9_cell_12 : decode cX9_cell 12 = .ok (.ldc 181, 2) := by decide +kernel
theorem dX9_cell_14 : decode cX9_cell 14 = .ok (.ireturn, 1) := by decide +kernel
theorem dX9_cell_15 : decode cX9_cell 15 = .ok (.iload_n 1, 1) := by decide +kernel
theorem dX9_cell_16 : decode cX9_cell 16 = .ok (.invokestatic 198, 3) := by decide +kernel
theorem dX9_cell_19 : decode cX9_cell 19 = .ok (.ifCond .ne 6, 3) := by decide +kernel
theorem dX9_cell_22 : decode cX9_cell 22 = .ok (.ldc 64, 2) := by decide +kernel
theorem dX9_cell_24 : decode cX9_cell 24 = .ok (.ireturn, 1) := by decide +kernel
theorem dX9_cell_25 : decode cX9_cell 25 = .ok (.iload_n 2, 1) := by decide +kernel
theorem dX9_cell_26 : decode cX9_cell 26 = .ok (.tableswitch 95 0 3 #[30, 40, 69, 86], 30) := by decide +kernel
theorem dX9_cell_56 : decode cX9_cell 56 = .ok (.aload_n 0, 1) := by decide +kernel
theorem dX9_cell_57 : decode cX9_cell 57 = .ok (.getfield 19, 3) := by decide +kernel
theorem dX9_cell_60 : decode cX9_cell 60 = .ok (.bipush 6, 2) := by decide +kernel
theorem dX9_cell_62 : decode cX9_cell 62 = .ok (.iload_n 1, 1) := by decide +kernel
theorem dX9_cell_63 : decode cX9_cell 63 = .ok (.iadd, 1) := by decide +kernel
theorem dX9_cell_64 : decode cX9_cell 64 = .ok (.iaload, 1) := by decide +kernel
theorem dX9_cell_65 : decode cX9_cell 65 = .ok (.ireturn, 1) := by decide +kernel
theorem dX9_cell_66 : decode cX9_cell 66 = .ok (.aload_n 0, 1) := by decide +kernel
theorem dX9_cell_67 : decode cX9_cell 67 = .ok (.getfield 19, 3) := by decide +kernel
theorem dX9_cell_70 : decode cX9_cell 70 = .ok (.bipush 21, 2) := by decide +kernel
theorem dX9_cell_72 : decode cX9_cell 72 = .ok (.iload_n 1, 1) := by decide +kernel
theorem dX9_cell_73 : decode cX9_cell 73 = .ok (.iadd, 1) := by decide +kernel
theorem dX9_cell_74 : decode cX9_cell 74 = .ok (.iaload, 1) := by decide +kernel
theorem dX9_cell_75 : decode cX9_cell 75 = .ok (.ifCond .ne 8, 3) := by decide +kernel
theorem dX9_cell_78 : decode cX9_cell 78 = .ok (.ldc 87, 2) := by decide +kernel
theorem dX9_cell_80 : decode cX9_cell 80 = .ok (.goto 14, 3) := by decide +kernel
theorem dX9_cell_83 : decode cX9_cell 83 = .ok (.aload_n 0, 1) := by decide +kernel
theorem dX9_cell_84 : decode cX9_cell 84 = .ok (.getfield 19, 3) := by decide +kernel
theorem dX9_cell_87 : decode cX9_cell 87 = .ok (.bipush 21, 2) := by decide +kernel
theorem dX9_cell_89 : decode cX9_cell 89 = .ok (.iload_n 1, 1) := by decide +kernel
theorem dX9_cell_90 : decode cX9_cell 90 = .ok (.iadd, 1) := by decide +kernel
theorem dX9_cell_91 : decode cX9_cell 91 = .ok (.iaload, 1) := by decide +kernel
theorem dX9_cell_92 : decode cX9_cell 92 = .ok (.iconst 1, 1) := by decide +kernel
theorem dX9_cell_93 : decode cX9_cell 93 = .ok (.isub, 1) := by decide +kernel
theorem dX9_cell_94 : decode cX9_cell 94 = .ok (.ireturn, 1) := by decide +kernel
theorem dX9_cell_95 : decode cX9_cell 95 = .ok (.aload_n 0, 1) := by decide +kernel
theorem dX9_cell_96 : decode cX9_cell 96 = .ok (.getfield 19, 3) := by decide +kernel
theorem dX9_cell_99 : decode cX9_cell 99 = .ok (.iload_n 1, 1) := by decide +kernel
theorem dX9_cell_100 : decode cX9_cell 100 = .ok (.invokestatic 154, 3) := by decide +kernel
theorem dX9_cell_103 : decode cX9_cell 103 = .ok (.ifCond .eq 7, 3) := by decide +kernel
theorem dX9_cell_106 : decode cX9_cell 106 = .ok (.iconst 1, 1) := by decide +kernel
theorem dX9_cell_107 : decode cX9_cell 107 = .ok (.goto 4, 3) := by decide +kernel
theorem dX9_cell_110 : decode cX9_cell 110 = .ok (.iconst 0, 1) := by decide +kernel
theorem dX9_cell_111 : decode cX9_cell 111 = .ok (.ireturn, 1) := by decide +kernel
theorem dX9_cell_112 : decode cX9_cell 112 = .ok (.aload_n 0, 1) := by decide +kernel
theorem dX9_cell_113 : decode cX9_cell 113 = .ok (.getfield 19, 3) := by decide +kernel
theorem dX9_cell_116 : decode cX9_cell 116 = .ok (.iload_n 1, 1) := by decide +kernel
theorem dX9_cell_117 : decode cX9_cell 117 = .ok (.invokestatic 162, 3) := by decide +kernel
theorem dX9_cell_120 : decode cX9_cell 120 = .ok (.ireturn, 1) := by decide +kernel
theorem dX9_cell_121 : decode cX9_cell 121 = .ok (.ldc 64, 2) := by decide +kernel
theorem dX9_cell_123 : decode cX9_cell 123 = .ok (.ireturn, 1) := by decide +kernel
set_option maxRecDepth 20000 in
theorem ggX9_price_X9_isBidder : GoodIn wsX9_price wsX9_isBidder := goodIn_r _ [9, 3, 10, 11, 8, 12, 32, 33, 34, 35, 36, 37, 38, 39, 40, 41, 42, 43, 44, 45, 46, 47, 48, 49, 50, 51, 52, 53, 54] (by decide +kernel) (by decide +kernel)
set_option maxRecDepth 20000 in
theorem gX9_price_X9_isBidder : GoodIn wsX9_price (wsV RX9 195 RX9 yX9_isBidder wsX9_isBidder) := goodIn_app (goodIn_of _ (by decide +kernel)) ggX9_price_X9_isBidder
set_option maxRecDepth 20000 in
theorem ggX9_price_X9_isCell : GoodIn wsX9_price wsX9_isCell := goodIn_r _ [15, 16, 10, 11, 8, 12] (by decide +kernel) (by decide +kernel)
set_option maxRecDepth 20000 in
theorem gX9_price_X9_isCell : GoodIn wsX9_price (va_wsS RX9 198 yX9_isCell wsX9_isCell) := goodIn_app (goodIn_of _ (by decide +kernel)) ggX9_price_X9_isCell
set_option maxRecDepth 20000 in
theorem ggX9_price_X9_mayHave : GoodIn wsX9_price wsX9_mayHave := goodIn_r _ [19, 20, 21, 8, 22, 23, 24, 25, 26, 27, 28] (by decide +kernel) (by decide +kernel)
set_option maxRecDepth 20000 in
theorem gX9_price_X9_mayHave : GoodIn wsX9_price (va_wsS RX9 169 yX9_mayHave wsX9_mayHave) := goodIn_app (goodIn_of _ (by decide +kernel)) ggX9_price_X9_mayHave
set_option maxRecDepth 20000 in
theorem ggX9_price_X9_of : GoodIn wsX9_price wsX9_of := goodIn_r _ [28] (by decide +kernel) (by decide +kernel)
set_option maxRecDepth 20000 in
theorem gX9_price_X9_of : GoodIn wsX9_price (va_wsS RX9 158 yX9_of wsX9_of) := goodIn_app (goodIn_of _ (by decide +kernel)) ggX9_price_X9_of
set_option maxRecDepth 20000 in
theorem ggX9_price_X9_priceBy : GoodIn wsX9_price wsX9_priceBy := goodIn_r _ [31] (by decide +kernel) (by decide +kernel)
set_option maxRecDepth 20000 in
theorem gX9_price_X9_priceBy : GoodIn wsX9_price (va_wsS RX9 172 yX9_priceBy wsX9_priceBy) := goodIn_app (goodIn_of _ (by decide +kernel)) ggX9_price_X9_priceBy
theorem dX9_price_0 : decode cX9_price 0 = .ok (.aload_n 0, 1) := by decide +kernel
theorem dX9_price_1 : decode cX9_price 1 = .ok (.iconst 0, 1) := by decide +kernel
theorem dX9_price_2 : decode cX9_price 2 = .ok (.putfield 44, 3) := by decide +kernel
theorem dX9_price_5 : decode cX9_price 5 = .ok (.aload_n 0, 1) := by decide +kernel
theorem dX9_price_6 : decode cX9_price 6 = .ok (.iload_n 1, 1) := by decide +kernel
theorem dX9_price_7 : decode cX9_price 7 = .ok (.invokevirtual 195, 3) := by decide +kernel
theorem dX9_price_10 : decode cX9_price 10 = .ok (.ifCond .eq 10, 3) := by decide +kernel
theorem dX9_price_13 : decode cX9_price 13 = .ok (.iload_n 2, 1) := by decide +kernel
theorem dX9_price_14 : decode cX9_price 14 = .ok (.invokestatic 198, 3) := by decide +kernel
theorem dX9_price_17 : decode cX9_price 17 = .ok (.ifCond .ne 6, 3) := by decide +kernel
theorem dX9_price_20 : decode cX9_price 20 = .ok (.ldc 64, 2) := by decide +kernel
theorem dX9_price_22 : decode cX9_price 22 = .ok (.ireturn, 1) := by decide +kernel
theorem dX9_price_23 : decode cX9_price 23 = .ok (.aload_n 0, 1) := by decide +kernel
theorem dX9_price_24 : decode cX9_price 24 = .ok (.getfield 19, 3) := by decide +kernel
theorem dX9_price_27 : decode cX9_price 27 = .ok (.iload_n 1, 1) := by decide +kernel
theorem dX9_price_28 : decode cX9_price 28 = .ok (.iload_n 2, 1) := by decide +kernel
theorem dX9_price_29 : decode cX9_price 29 = .ok (.invokestatic 169, 3) := by decide +kernel
theorem dX9_price_32 : decode cX9_price 32 = .ok (.ifCond .eq 23, 3) := by decide +kernel
theorem dX9_price_35 : decode cX9_price 35 = .ok (.aload_n 0, 1) := by decide +kernel
theorem dX9_price_36 : decode cX9_price 36 = .ok (.getfield 19, 3) := by decide +kernel
theorem dX9_price_39 : decode cX9_price 39 = .ok (.aload_n 0, 1) := by decide +kernel
theorem dX9_price_40 : decode cX9_price 40 = .ok (.getfield 19, 3) := by decide +kernel
theorem dX9_price_43 : decode cX9_price 43 = .ok (.iload_n 1, 1) := by decide +kernel
theorem dX9_price_44 : decode cX9_price 44 = .ok (.iconst 0, 1) := by decide +kernel
theorem dX9_price_45 : decode cX9_price 45 = .ok (.invokestatic 158, 3) := by decide +kernel
theorem dX9_price_48 : decode cX9_price 48 = .ok (.iload_n 2, 1) := by decide +kernel
theorem dX9_price_49 : decode cX9_price 49 = .ok (.invokestatic 172, 3) := by decide +kernel
theorem dX9_price_52 : decode cX9_price 52 = .ok (.goto 5, 3) := by decide +kernel
theorem dX9_price_55 : decode cX9_price 55 = .ok (.ldc 87, 2) := by decide +kernel
theorem dX9_price_57 : decode cX9_price 57 = .ok (.ireturn, 1) := by decide +kernel
set_option maxRecDepth 20000 in
theorem ggX9_layHour_X9_layThen : GoodIn wsX9_layHour wsX9_layThen := goodIn_r _ [6, 1, 7, 8, 9, 10, 11, 12, 13, 14, 15, 16, 17, 18, 19, 20, 21, 22, 23, 24, 25, 26, 27, 28, 29, 30] (by decide +kernel) (by decide +kernel)
set_option maxRecDepth 20000 in
theorem gX9_layHour_X9_layThen : GoodIn wsX9_layHour (wsV RX9 211 RX9 yX9_layThen wsX9_layThen) := goodIn_app (goodIn_of _ (by decide +kernel)) ggX9_layHour_X9_layThen
theorem dX9_layHour_0 : decode cX9_layHour 0 = .ok (.aload_n 0, 1) := by decide +kernel
theorem dX9_layHour_1 : decode cX9_layHour 1 = .ok (.invokevirtual 211, 3) := by decide +kernel
theorem dX9_layHour_4 : decode cX9_layHour 4 = .ok (.aload_n 0, 1) := by decide +kernel
theorem dX9_layHour_5 : decode cX9_layHour 5 = .ok (.getfield 25, 3) := by decide +kernel
theorem dX9_layHour_8 : decode cX9_layHour 8 = .ok (.iconst 5, 1) := by decide +kernel
theorem dX9_layHour_9 : decode cX9_layHour 9 = .ok (.dup2, 1) := by decide +kernel
theorem dX9_layHour_10 : decode cX9_layHour 10 = .ok (.iaload, 1) := by decide +kernel
theorem dX9_layHour_11 : decode cX9_layHour 11 = .ok (.iload_n 1, 1) := by decide +kernel
theorem dX9_layHour_12 : decode cX9_layHour 12 = .ok (.iadd, 1) := by decide +kernel
theorem dX9_layHour_13 : decode cX9_layHour 13 = .ok (.iastore, 1) := by decide +kernel
theorem dX9_layHour_14 : decode cX9_layHour 14 = .ok (.return_, 1) := by decide +kernel
set_option maxRecDepth 20000 in
theorem ggX9_ahead_X9_isThere : GoodIn wsX9_ahead wsX9_isThere := goodIn_r _ [11, 12, 39, 40, 41, 42, 43, 44, 45, 46, 47, 48, 49, 50, 51, 52, 53, 54, 55, 56, 57, 58, 59, 60, 61] (by decide +kernel) (by decide +kernel)
set_option maxRecDepth 20000 in
theorem gX9_ahead_X9_isThere : GoodIn wsX9_ahead (wsV RX9 178 RX9 yX9_isThere wsX9_isThere) := goodIn_app (goodIn_of _ (by decide +kernel)) ggX9_ahead_X9_isThere
set_option maxRecDepth 20000 in
theorem ggX9_ahead_X9_in : GoodIn wsX9_ahead wsX9_in := goodIn_r _ [15] (by decide +kernel) (by decide +kernel)
set_option maxRecDepth 20000 in
theorem gX9_ahead_X9_in : GoodIn wsX9_ahead (va_wsS RX9 54 yX9_in wsX9_in) := goodIn_app (goodIn_of _ (by decide +kernel)) ggX9_ahead_X9_in
set_option maxRecDepth 20000 in
theorem ggX9_ahead_X9_layHour : GoodIn wsX9_ahead wsX9_layHour := goodIn_r _ [19, 6, 20, 21, 22, 10, 23, 12, 39, 40, 41, 42, 43, 44, 45, 46, 47, 48, 49, 50, 51, 52, 53, 54, 55, 56, 57, 58, 59, 60, 61] (by decide +kernel) (by decide +kernel)
set_option maxRecDepth 20000 in
theorem gX9_ahead_X9_layHour : GoodIn wsX9_ahead (wsV RX9 216 RX9 yX9_layHour wsX9_layHour) := goodIn_app (goodIn_of _ (by decide +kernel)) ggX9_ahead_X9_layHour
set_option maxRecDepth 20000 in
theorem ggX9_ahead_X9_dryOf : GoodIn wsX9_ahead wsX9_dryOf := goodIn_r _ [26, 27, 28, 10, 29, 30, 31, 32] (by decide +kernel) (by decide +kernel)
set_option maxRecDepth 20000 in
theorem gX9_ahead_X9_dryOf : GoodIn wsX9_ahead (va_wsS RX9 219 yX9_dryOf wsX9_dryOf) := goodIn_app (goodIn_of _ (by decide +kernel)) ggX9_ahead_X9_dryOf
set_option maxRecDepth 20000 in
theorem ggX9_ahead_X9_levelBy : GoodIn wsX9_ahead wsX9_levelBy := goodIn_r _ [32] (by decide +kernel) (by decide +kernel)
set_option maxRecDepth 20000 in
theorem gX9_ahead_X9_levelBy : GoodIn wsX9_ahead (va_wsS RX9 150 yX9_levelBy wsX9_levelBy) := goodIn_app (goodIn_of _ (by decide +kernel)) ggX9_ahead_X9_levelBy
set_option maxRecDepth 20000 in
theorem ggX9_ahead_X9_partsOf : GoodIn wsX9_ahead wsX9_partsOf := goodIn_r _ [35, 36, 37, 10, 38] (by decide +kernel) (by decide +kernel)
set_option maxRecDepth 20000 in
theorem gX9_ahead_X9_partsOf : GoodIn wsX9_ahead (va_wsS RX9 222 yX9_partsOf wsX9_partsOf) := goodIn_app (goodIn_of _ (by decide +kernel)) ggX9_ahead_X9_partsOf
theorem dX9_ahead_0 : decode cX9_ahead 0 = .ok (.aload_n 0, 1) := by decide +kernel
theorem dX9_ahead_1 : decode cX9_ahead 1 = .ok (.iconst 0, 1) := by decide +kernel
theorem dX9_ahead_2 : decode cX9_ahead 2 = .ok (.putfield 44, 3) := by decide +kernel
theorem dX9_ahead_5 : decode cX9_ahead 5 = .ok (.aload_n 0, 1) := by decide +kernel
theorem dX9_ahead_6 : decode cX9_ahead 6 = .ok (.invokevirtual 178, 3) := by decide +kernel
theorem dX9_ahead_9 : decode cX9_ahead 9 = .ok (.ifCond .ne 6, 3) := by decide +kernel
theorem dX9_ahead_12 : decode cX9_ahead 12 = .ok (.ldc 181, 2) := by decide +kernel
theorem dX9_ahead_14 : decode cX9_ahead 14 = .ok (.ireturn, 1) := by decide +kernel
theorem dX9_ahead_15 : decode cX9_ahead 15 = .ok (.iload_n 1, 1) := by decide +kernel
theorem dX9_ahead_16 : decode cX9_ahead 16 = .ok (.i2l, 1) := by decide +kernel
theorem dX9_ahead_17 : decode cX9_ahead 17 = .ok (.lconst 0, 1) := by decide +kernel
theorem dX9_ahead_18 : decode cX9_ahead 18 = .ok (.ldc2_w 214, 3) := by decide +kernel
theorem dX9_ahead_21 : decode cX9_ahead 21 = .ok (.invokestatic 54, 3) := by decide +kernel
theorem dX9_ahead_24 : decode cX9_ahead 24 = .ok (.ifCond .eq 15, 3) := by decide +kernel
theorem dX9_ahead_27 : decode cX9_ahead 27 = .ok (.iload_n 2, 1) := by decide +kernel
theorem dX9_ahead_28 : decode cX9_ahead 28 = .ok (.i2l, 1) := by decide +kernel
theorem dX9_ahead_29 : decode cX9_ahead 29 = .ok (.lconst 0, 1) := by decide +kernel
theorem dX9_ahead_30 : decode cX9_ahead 30 = .ok (.ldc2_w 62, 3) := by decide +kernel
theorem dX9_ahead_33 : decode cX9_ahead 33 = .ok (.invokestatic 54, 3) := by decide +kernel
theorem dX9_ahead_36 : decode cX9_ahead 36 = .ok (.ifCond .ne 6, 3) := by decide +kernel
theorem dX9_ahead_39 : decode cX9_ahead 39 = .ok (.ldc 64, 2) := by decide +kernel
theorem dX9_ahead_41 : decode cX9_ahead 41 = .ok (.ireturn, 1) := by decide +kernel
theorem dX9_ahead_42 : decode cX9_ahead 42 = .ok (.aload_n 0, 1) := by decide +kernel
theorem dX9_ahead_43 : decode cX9_ahead 43 = .ok (.iload_n 1, 1) := by decide +kernel
theorem dX9_ahead_44 : decode cX9_ahead 44 = .ok (.invokevirtual 216, 3) := by decide +kernel
theorem dX9_ahead_47 : decode cX9_ahead 47 = .ok (.aload_n 0, 1) := by decide +kernel
theorem dX9_ahead_48 : decode cX9_ahead 48 = .ok (.getfield 25, 3) := by decide +kernel
theorem dX9_ahead_51 : decode cX9_ahead 51 = .ok (.invokestatic 219, 3) := by decide +kernel
theorem dX9_ahead_54 : decode cX9_ahead 54 = .ok (.istore_n 3, 1) := by decide +kernel
theorem dX9_ahead_55 : decode cX9_ahead 55 = .ok (.iload_n 2, 1) := by decide +kernel
theorem dX9_ahead_56 : decode cX9_ahead 56 = .ok (.ifCond .ne 19, 3) := by decide +kernel
theorem dX9_ahead_59 : decode cX9_ahead 59 = .ok (.aload_n 0, 1) := by decide +kernel
theorem dX9_ahead_60 : decode cX9_ahead 60 = .ok (.getfield 25, 3) := by decide +kernel
theorem dX9_ahead_63 : decode cX9_ahead 63 = .ok (.aload_n 0, 1) := by decide +kernel
theorem dX9_ahead_64 : decode cX9_ahead 64 = .ok (.getfield 25, 3) := by decide +kernel
theorem dX9_ahead_67 : decode cX9_ahead 67 = .ok (.iconst 5, 1) := by decide +kernel
theorem dX9_ahead_68 : decode cX9_ahead 68 = .ok (.iaload, 1) := by decide +kernel
theorem dX9_ahead_69 : decode cX9_ahead 69 = .ok (.invokestatic 150, 3) := by decide +kernel
theorem dX9_ahead_72 : decode cX9_ahead 72 = .ok (.goto 16, 3) := by decide +kernel
theorem dX9_ahead_75 : decode cX9_ahead 75 = .ok (.iload_n 2, 1) := by decide +kernel
theorem dX9_ahead_76 : decode cX9_ahead 76 = .ok (.iconst 1, 1) := by decide +kernel
theorem dX9_ahead_77 : decode cX9_ahead 77 = .ok (.if_icmp .ne 7, 3) := by decide +kernel
theorem dX9_ahead_80 : decode cX9_ahead 80 = .ok (.iload_n 3, 1) := by decide +kernel
theorem dX9_ahead_81 : decode cX9_ahead 81 = .ok (.goto 7, 3) := by decide +kernel
theorem dX9_ahead_84 : decode cX9_ahead 84 = .ok (.iload_n 3, 1) := by decide +kernel
theorem dX9_ahead_85 : decode cX9_ahead 85 = .ok (.invokestatic 222, 3) := by decide +kernel
theorem dX9_ahead_88 : decode cX9_ahead 88 = .ok (.ireturn, 1) := by decide +kernel
set_option maxRecDepth 20000 in
theorem ggX9_stays_X9_isThere : GoodIn wsX9_stays wsX9_isThere := goodIn_r _ [11, 4, 41, 42, 43, 44, 45, 46, 47, 48, 49, 50, 51, 52, 53, 54, 55, 56, 57, 58, 59, 60, 61, 62, 63] (by decide +kernel) (by decide +kernel)
set_option maxRecDepth 20000 in
theorem gX9_stays_X9_isThere : GoodIn wsX9_stays (wsV RX9 178 RX9 yX9_isThere wsX9_isThere) := goodIn_app (goodIn_of _ (by decide +kernel)) ggX9_stays_X9_isThere
set_option maxRecDepth 20000 in
theorem ggX9_stays_X9_isCell : GoodIn wsX9_stays wsX9_isCell := goodIn_r _ [14, 15, 16, 17, 10, 18] (by decide +kernel) (by decide +kernel)
set_option maxRecDepth 20000 in
theorem gX9_stays_X9_isCell : GoodIn wsX9_stays (va_wsS RX9 198 yX9_isCell wsX9_isCell) := goodIn_app (goodIn_of _ (by decide +kernel)) ggX9_stays_X9_isCell
set_option maxRecDepth 20000 in
theorem ggX9_stays_X9_layThen : GoodIn wsX9_stays wsX9_layThen := goodIn_r _ [22, 5, 4, 41, 42, 43, 44, 45, 46, 47, 48, 49, 50, 51, 52, 53, 54, 55, 56, 57, 58, 59, 60, 61, 62, 63] (by decide +kernel) (by decide +kernel)
set_option maxRecDepth 20000 in
theorem gX9_stays_X9_layThen : GoodIn wsX9_stays (wsV RX9 211 RX9 yX9_layThen wsX9_layThen) := goodIn_app (goodIn_of _ (by decide +kernel)) ggX9_stays_X9_layThen
set_option maxRecDepth 20000 in
theorem ggX9_stays_X9_hour : GoodIn wsX9_stays wsX9_hour := goodIn_r _ [25, 26, 27, 10, 28, 29, 30, 31, 32, 33, 34, 35, 36, 37, 38, 39, 40] (by decide +kernel) (by decide +kernel)
set_option maxRecDepth 20000 in
theorem gX9_stays_X9_hour : GoodIn wsX9_stays (va_wsS RX9 187 yX9_hour wsX9_hour) := goodIn_app (goodIn_of _ (by decide +kernel)) ggX9_stays_X9_hour
theorem dX9_stays_0 : decode cX9_stays 0 = .ok (.aload_n 0, 1) := by decide +kernel
theorem dX9_stays_1 : decode cX9_stays 1 = .ok (.iconst 0, 1) := by decide +kernel
theorem dX9_stays_2 : decode cX9_stays 2 = .ok (.putfield 44, 3) := by decide +kernel
theorem dX9_stays_5 : decode cX9_stays 5 = .ok (.aload_n 0, 1) := by decide +kernel
theorem dX9_stays_6 : decode cX9_stays 6 = .ok (.invokevirtual 178, 3) := by decide +kernel
theorem dX9_stays_9 : decode cX9_stays 9 = .ok (.ifCond .ne 6, 3) := by decide +kernel
theorem dX9_stays_12 : decode cX9_stays 12 = .ok (.ldc 181, 2) := by decide +kernel
theorem dX9_stays_14 : decode cX9_stays 14 = .ok (.ireturn, 1) := by decide +kernel
theorem dX9_stays_15 : decode cX9_stays 15 = .ok (.iload_n 1, 1) := by decide +kernel
theorem dX9_stays_16 : decode cX9_stays 16 = .ok (.invokestatic 198, 3) := by decide +kernel
theorem dX9_stays_19 : decode cX9_stays 19 = .ok (.ifCond .ne 6, 3) := by decide +kernel
theorem dX9_stays_22 : decode cX9_stays 22 = .ok (.ldc 64, 2) := by decide +kernel
theorem dX9_stays_24 : decode cX9_stays 24 = .ok (.ireturn, 1) := by decide +kernel
theorem dX9_stays_25 : decode cX9_stays 25 = .ok (.aload_n 0, 1) := by decide +kernel
theorem dX9_stays_26 : decode cX9_stays 26 = .ok (.invokevirtual 211, 3) := by decide +kernel
theorem dX9_stays_29 : decode cX9_stays 29 = .ok (.iconst 1, 1) := by decide +kernel
theorem dX9_stays_30 : decode cX9_stays 30 = .ok (.istore_n 2, 1) := by decide +kernel
theorem dX9_stays_31 : decode cX9_stays 31 = .ok (.iload_n 2, 1) := by decide +kernel
theorem dX9_stays_32 : decode cX9_stays 32 = .ok (.bipush 61, 2) := by decide +kernel
theorem dX9_stays_34 : decode cX9_stays 34 = .ok (.if_icmp .ge 42, 3) := by decide +kernel
theorem dX9_stays_37 : decode cX9_stays 37 = .ok (.aload_n 0, 1) := by decide +kernel
theorem dX9_stays_38 : decode cX9_stays 38 = .ok (.getfield 19, 3) := by decide +kernel
theorem dX9_stays_41 : decode cX9_stays 41 = .ok (.bipush 21, 2) := by decide +kernel
theorem dX9_stays_43 : decode cX9_stays 43 = .ok (.iload_n 1, 1) := by decide +kernel
theorem dX9_stays_44 : decode cX9_stays 44 = .ok (.iadd, 1) := by decide +kernel
theorem dX9_stays_45 : decode cX9_stays 45 = .ok (.iaload, 1) := by decide +kernel
theorem dX9_stays_46 : decode cX9_stays 46 = .ok (.ifCond .le 30, 3) := by decide +kernel
theorem dX9_stays_49 : decode cX9_stays 49 = .ok (.aload_n 0, 1) := by decide +kernel
theorem dX9_stays_50 : decode cX9_stays 50 = .ok (.getfield 25, 3) := by decide +kernel
theorem dX9_stays_53 : decode cX9_stays 53 = .ok (.invokestatic 187, 3) := by decide +kernel
theorem dX9_stays_56 : decode cX9_stays 56 = .ok (.aload_n 0, 1) := by decide +kernel
theorem dX9_stays_57 : decode cX9_stays 57 = .ok (.getfield 25, 3) := by decide +kernel
theorem dX9_stays_60 : decode cX9_stays 60 = .ok (.bipush 21, 2) := by decide +kernel
theorem dX9_stays_62 : decode cX9_stays 62 = .ok (.iload_n 1, 1) := by decide +kernel
theorem dX9_stays_63 : decode cX9_stays 63 = .ok (.iadd, 1) := by decide +kernel
theorem dX9_stays_64 : decode cX9_stays 64 = .ok (.iaload, 1) := by decide +kernel
theorem dX9_stays_65 : decode cX9_stays 65 = .ok (.ifCond .ne 5, 3) := by decide +kernel
theorem dX9_stays_68 : decode cX9_stays 68 = .ok (.iload_n 2, 1) := by decide +kernel
theorem dX9_stays_69 : decode cX9_stays 69 = .ok (.ireturn, 1) := by decide +kernel
theorem dX9_stays_70 : decode cX9_stays 70 = .ok (.iinc 2 1, 3) := by decide +kernel
theorem dX9_stays_73 : decode cX9_stays 73 = .ok (.goto (-42), 3) := by decide +kernel
theorem dX9_stays_76 : decode cX9_stays 76 = .ok (.ldc 87, 2) := by decide +kernel
theorem dX9_stays_78 : decode cX9_stays 78 = .ok (.ireturn, 1) := by decide +kernel
set_option maxRecDepth 20000 in
theorem ggX9_when_X9_isThere : GoodIn wsX9_when wsX9_isThere := goodIn_r _ [10, 11, 33, 34, 35, 36, 37, 38, 39, 40, 41, 42, 43, 44, 45, 46, 47, 48, 49, 50, 51, 52, 53, 54, 55] (by decide +kernel) (by decide +kernel)
set_option maxRecDepth 20000 in
theorem gX9_when_X9_isThere : GoodIn wsX9_when (wsV RX9 178 RX9 yX9_isThere wsX9_isThere) := goodIn_app (goodIn_of _ (by decide +kernel)) ggX9_when_X9_isThere
set_option maxRecDepth 20000 in
theorem ggX9_when_X9_isCell : GoodIn wsX9_when wsX9_isCell := goodIn_r _ [14, 15, 16, 17, 9, 18] (by decide +kernel) (by decide +kernel)
set_option maxRecDepth 20000 in
theorem gX9_when_X9_isCell : GoodIn wsX9_when (va_wsS RX9 198 yX9_isCell wsX9_isCell) := goodIn_app (goodIn_of _ (by decide +kernel)) ggX9_when_X9_isCell
set_option maxRecDepth 20000 in
theorem ggX9_when_X9_in : GoodIn wsX9_when wsX9_in := goodIn_r _ [18] (by decide +kernel) (by decide +kernel)
set_option maxRecDepth 20000 in
theorem gX9_when_X9_in : GoodIn wsX9_when (va_wsS RX9 54 yX9_in wsX9_in) := goodIn_app (goodIn_of _ (by decide +kernel)) ggX9_when_X9_in
set_option maxRecDepth 20000 in
theorem ggX9_when_X9_layHour : GoodIn wsX9_when wsX9_layHour := goodIn_r _ [22, 4, 23, 24, 25, 9, 26, 11, 33, 34, 35, 36, 37, 38, 39, 40, 41, 42, 43, 44, 45, 46, 47, 48, 49, 50, 51, 52, 53, 54, 55] (by decide +kernel) (by decide +kernel)
set_option maxRecDepth 20000 in
theorem gX9_when_X9_layHour : GoodIn wsX9_when (wsV RX9 216 RX9 yX9_layHour wsX9_layHour) := goodIn_app (goodIn_of _ (by decide +kernel)) ggX9_when_X9_layHour
set_option maxRecDepth 20000 in
theorem ggX9_when_X9_isDry : GoodIn wsX9_when wsX9_isDry := goodIn_r _ [29, 30, 31, 9, 32] (by decide +kernel) (by decide +kernel)
set_option maxRecDepth 20000 in
theorem gX9_when_X9_isDry : GoodIn wsX9_when (va_wsS RX9 154 yX9_isDry wsX9_isDry) := goodIn_app (goodIn_of _ (by decide +kernel)) ggX9_when_X9_isDry
theorem dX9_when_0 : decode cX9_when 0 = .ok (.aload_n 0, 1) := by decide +kernel
theorem dX9_when_1 : decode cX9_when 1 = .ok (.iconst 0, 1) := by decide +kernel
theorem dX9_when_2 : decode cX9_when 2 = .ok (.putfield 44, 3) := by decide +kernel
theorem dX9_when_5 : decode cX9_when 5 = .ok (.aload_n 0, 1) := by decide +kernel
theorem dX9_when_6 : decode cX9_when 6 = .ok (.invokevirtual 178, 3) := by decide +kernel
theorem dX9_when_9 : decode cX9_when 9 = .ok (.ifCond .ne 6, 3) := by decide +kernel
theorem dX9_when_12 : decode cX9_when 12 = .ok (.ldc 181, 2) := by decide +kernel
theorem dX9_when_14 : decode cX9_when 14 = .ok (.ireturn, 1) := by decide +kernel
theorem dX9_when_15 : decode cX9_when 15 = .ok (.iload_n 1, 1) := by decide +kernel
theorem dX9_when_16 : decode cX9_when 16 = .ok (.invokestatic 198, 3) := by decide +kernel
theorem dX9_when_19 : decode cX9_when 19 = .ok (.ifCond .eq 13, 3) := by decide +kernel
theorem dX9_when_22 : decode cX9_when 22 = .ok (.iload_n 2, 1) := by decide +kernel
theorem dX9_when_23 : decode cX9_when 23 = .ok (.i2l, 1) := by decide +kernel
theorem dX9_when_24 : decode cX9_when 24 = .ok (.lconst 0, 1) := by decide +kernel
theorem dX9_when_25 : decode cX9_when 25 = .ok (.lconst 1, 1) := by decide +kernel
theorem dX9_when_26 : decode cX9_when 26 = .ok (.invokestatic 54, 3) := by decide +kernel
theorem dX9_when_29 : decode cX9_when 29 = .ok (.ifCond .ne 6, 3) := by decide +kernel
theorem dX9_when_32 : decode cX9_when 32 = .ok (.ldc 64, 2) := by decide +kernel
theorem dX9_when_34 : decode cX9_when 34 = .ok (.ireturn, 1) := by decide +kernel
theorem dX9_when_35 : decode cX9_when 35 = .ok (.iconst 0, 1) := by decide +kernel
theorem dX9_when_36 : decode cX9_when 36 = .ok (.istore_n 3, 1) := by decide +kernel
theorem dX9_when_37 : decode cX9_when 37 = .ok (.iload_n 3, 1) := by decide +kernel
theorem dX9_when_38 : decode cX9_when 38 = .ok (.bipush 61, 2) := by decide +kernel
theorem dX9_when_40 : decode cX9_when 40 = .ok (.if_icmp .ge 37, 3) := by decide +kernel
theorem dX9_when_43 : decode cX9_when 43 = .ok (.aload_n 0, 1) := by decide +kernel
theorem dX9_when_44 : decode cX9_when 44 = .ok (.iload_n 3, 1) := by decide +kernel
theorem dX9_when_45 : decode cX9_when 45 = .ok (.invokevirtual 216, 3) := by decide +kernel
theorem dX9_when_48 : decode cX9_when 48 = .ok (.aload_n 0, 1) := by decide +kernel
theorem dX9_when_49 : decode cX9_when 49 = .ok (.getfield 25, 3) := by decide +kernel
theorem dX9_when_52 : decode cX9_when 52 = .ok (.iload_n 1, 1) := by decide +kernel
theorem dX9_when_53 : decode cX9_when 53 = .ok (.invokestatic 154, 3) := by decide +kernel
theorem dX9_when_56 : decode cX9_when 56 = .ok (.iload_n 2, 1) := by decide +kernel
theorem dX9_when_57 : decode cX9_when 57 = .ok (.iconst 1, 1) := by decide +kernel
theorem dX9_when_58 : decode cX9_when 58 = .ok (.if_icmp .ne 7, 3) := by decide +kernel
theorem dX9_when_61 : decode cX9_when 61 = .ok (.iconst 1, 1) := by decide +kernel
theorem dX9_when_62 : decode cX9_when 62 = .ok (.goto 4, 3) := by decide +kernel
theorem dX9_when_65 : decode cX9_when 65 = .ok (.iconst 0, 1) := by decide +kernel
theorem dX9_when_66 : decode cX9_when 66 = .ok (.if_icmp .ne 5, 3) := by decide +kernel
theorem dX9_when_69 : decode cX9_when 69 = .ok (.iload_n 3, 1) := by decide +kernel
theorem dX9_when_70 : decode cX9_when 70 = .ok (.ireturn, 1) := by decide +kernel
theorem dX9_when_71 : decode cX9_when 71 = .ok (.iinc 3 1, 3) := by decide +kernel
theorem dX9_when_74 : decode cX9_when 74 = .ok (.goto (-37), 3) := by decide +kernel
theorem dX9_when_77 : decode cX9_when 77 = .ok (.ldc 87, 2) := by decide +kernel
theorem dX9_when_79 : decode cX9_when 79 = .ok (.ireturn, 1) := by decide +kernel
set_option maxRecDepth 20000 in
theorem ggX9_cuts_X9_isThere : GoodIn wsX9_cuts wsX9_isThere := goodIn_r _ [8, 3, 24, 25, 26, 27, 28, 29, 30, 31, 32, 33, 34, 35, 36, 37, 38, 39, 40, 41, 42, 43, 44, 45, 46] (by decide +kernel) (by decide +kernel)
set_option maxRecDepth 20000 in
theorem gX9_cuts_X9_isThere : GoodIn wsX9_cuts (wsV RX9 178 RX9 yX9_isThere wsX9_isThere) := goodIn_app (goodIn_of _ (by decide +kernel)) ggX9_cuts_X9_isThere
set_option maxRecDepth 20000 in
theorem ggX9_cuts_X9_dryOf : GoodIn wsX9_cuts wsX9_dryOf := goodIn_r _ [11, 12, 13, 7, 14, 15, 16, 17] (by decide +kernel) (by decide +kernel)
set_option maxRecDepth 20000 in
theorem gX9_cuts_X9_dryOf : GoodIn wsX9_cuts (va_wsS RX9 219 yX9_dryOf wsX9_dryOf) := goodIn_app (goodIn_of _ (by decide +kernel)) ggX9_cuts_X9_dryOf
set_option maxRecDepth 20000 in
theorem ggX9_cuts_X9_partsOf : GoodIn wsX9_cuts wsX9_partsOf := goodIn_r _ [20, 21, 22, 7, 23] (by decide +kernel) (by decide +kernel)
set_option maxRecDepth 20000 in
theorem gX9_cuts_X9_partsOf : GoodIn wsX9_cuts (va_wsS RX9 222 yX9_partsOf wsX9_partsOf) := goodIn_app (goodIn_of _ (by decide +kernel)) ggX9_cuts_X9_partsOf
theorem dX9_cuts_0 : decode cX9_cuts 0 = .ok (.aload_n 0, 1) := by decide +kernel
theorem dX9_cuts_1 : decode cX9_cuts 1 = .ok (.iconst 0, 1) := by decide +kernel
theorem dX9_cuts_2 : decode cX9_cuts 2 = .ok (.putfield 44, 3) := by decide +kernel
theorem dX9_cuts_5 : decode cX9_cuts 5 = .ok (.aload_n 0, 1) := by decide +kernel
theorem dX9_cuts_6 : decode cX9_cuts 6 = .ok (.invokevirtual 178, 3) := by decide +kernel
theorem dX9_cuts_9 : decode cX9_cuts 9 = .ok (.ifCond .ne 6, 3) := by decide +kernel
theorem dX9_cuts_12 : decode cX9_cuts 12 = .ok (.ldc 181, 2) := by decide +kernel
theorem dX9_cuts_14 : decode cX9_cuts 14 = .ok (.ireturn, 1) := by decide +kernel
theorem dX9_cuts_15 : decode cX9_cuts 15 = .ok (.aload_n 0, 1) := by decide +kernel
theorem dX9_cuts_16 : decode cX9_cuts 16 = .ok (.getfield 19, 3) := by decide +kernel
theorem dX9_cuts_19 : decode cX9_cuts 19 = .ok (.invokestatic 219, 3) := by decide +kernel
theorem dX9_cuts_22 : decode cX9_cuts 22 = .ok (.istore_n 1, 1) := by decide +kernel
theorem dX9_cuts_23 : decode cX9_cuts 23 = .ok (.iconst 0, 1) := by decide +kernel
theorem dX9_cuts_24 : decode cX9_cuts 24 = .ok (.istore_n 2, 1) := by decide +kernel
theorem dX9_cuts_25 : decode cX9_cuts 25 = .ok (.iconst 0, 1) := by decide +kernel
theorem dX9_cuts_26 : decode cX9_cuts 26 = .ok (.istore_n 3, 1) := by decide +kernel
theorem dX9_cuts_27 : decode cX9_cuts 27 = .ok (.iload_n 3, 1) := by decide +kernel
theorem dX9_cuts_28 : decode cX9_cuts 28 = .ok (.bipush 15, 2) := by decide +kernel
theorem dX9_cuts_30 : decode cX9_cuts 30 = .ok (.if_icmp .ge 57, 3) := by decide +kernel
theorem dX9_cuts_33 : decode cX9_cuts 33 = .ok (.iload_n 1, 1) := by decide +kernel
theorem dX9_cuts_34 : decode cX9_cuts 34 = .ok (.iload_n 3, 1) := by decide +kernel
theorem dX9_cuts_35 : decode cX9_cuts 35 = .ok (.ishr, 1) := by decide +kernel
theorem dX9_cuts_36 : decode cX9_cuts 36 = .ok (.iconst 1, 1) := by decide +kernel
theorem dX9_cuts_37 : decode cX9_cuts 37 = .ok (.iand, 1) := by decide +kernel
theorem dX9_cuts_38 : decode cX9_cuts 38 = .ok (.iconst 1, 1) := by decide +kernel
theorem dX9_cuts_39 : decode cX9_cuts 39 = .ok (.if_icmp .ne 24, 3) := by decide +kernel
theorem dX9_cuts_42 : decode cX9_cuts 42 = .ok (.iload_n 1, 1) := by decide +kernel
theorem dX9_cuts_43 : decode cX9_cuts 43 = .ok (.iconst 1, 1) := by decide +kernel
theorem dX9_cuts_44 : decode cX9_cuts 44 = .ok (.iload_n 3, 1) := by decide +kernel
theorem dX9_cuts_45 : decode cX9_cuts 45 = .ok (.ishl, 1) := by decide +kernel
theorem dX9_cuts_46 : decode cX9_cuts 46 = .ok (.iconst (-1), 1) := by decide +kernel
theorem dX9_cuts_47 : decode cX9_cuts 47 = .ok (.ixor, 1) := by decide +kernel
theorem dX9_cuts_48 : decode cX9_cuts 48 = .ok (.iand, 1) := by decide +kernel
theorem dX9_cuts_49 : decode cX9_cuts 49 = .ok (.invokestatic 222, 3) := by decide +kernel
theorem dX9_cuts_52 : decode cX9_cuts 52 = .ok (.iload_n 1, 1) := by decide +kernel
theorem dX9_cuts_53 : decode cX9_cuts 53 = .ok (.invokestatic 222, 3) := by decide +kernel
theorem dX9_cuts_56 : decode cX9_cuts 56 = .ok (.if_icmp .le 7, 3) := by decide +kernel
theorem dX9_cuts_59 : decode cX9_cuts 59 = .ok (.iconst 1, 1) := by decide +kernel
theorem dX9_cuts_60 : decode cX9_cuts 60 = .ok (.goto 4, 3) := by decide +kernel
theorem dX9_cuts_63 : decode cX9_cuts 63 = .ok (.iconst 0, 1) := by decide +kernel
theorem dX9_cuts_64 : decode cX9_cuts 64 = .ok (.istore 4, 2) := by decide +kernel
theorem dX9_cuts_66 : decode cX9_cuts 66 = .ok (.iload_n 2, 1) := by decide +kernel
theorem dX9_cuts_67 : decode cX9_cuts 67 = .ok (.iload 4, 2) := by decide +kernel
theorem dX9_cuts_69 : decode cX9_cuts 69 = .ok (.ifCond .eq 9, 3) := by decide +kernel
theorem dX9_cuts_72 : decode cX9_cuts 72 = .ok (.iconst 1, 1) := by decide +kernel
theorem dX9_cuts_73 : decode cX9_cuts 73 = .ok (.iload_n 3, 1) := by decide +kernel
theorem dX9_cuts_74 : decode cX9_cuts 74 = .ok (.ishl, 1) := by decide +kernel
theorem dX9_cuts_75 : decode cX9_cuts 75 = .ok (.goto 4, 3) := by decide +kernel
theorem dX9_cuts_78 : decode cX9_cuts 78 = .ok (.iconst 0, 1) := by decide +kernel
theorem dX9_cuts_79 : decode cX9_cuts 79 = .ok (.ior, 1) := by decide +kernel
theorem dX9_cuts_80 : decode cX9_cuts 80 = .ok (.istore_n 2, 1) := by decide +kernel
theorem dX9_cuts_81 : decode cX9_cuts 81 = .ok (.iinc 3 1, 3) := by decide +kernel
theorem dX9_cuts_84 : decode cX9_cuts 84 = .ok (.goto (-57), 3) := by decide +kernel
theorem dX9_cuts_87 : decode cX9_cuts 87 = .ok (.iload_n 2, 1) := by decide +kernel
theorem dX9_cuts_88 : decode cX9_cuts 88 = .ok (.ireturn, 1) := by decide +kernel
set_option maxRecDepth 20000 in
theorem ggX9_home_X9_isBidder : GoodIn wsX9_home wsX9_isBidder := goodIn_r _ [10, 3, 11, 12, 9, 13, 47, 48, 49, 50, 51, 52, 53, 54, 55, 56, 57, 58, 59, 60, 61, 62, 63, 64, 65, 66, 67, 68, 69] (by decide +kernel) (by decide +kernel)
set_option maxRecDepth 20000 in
theorem gX9_home_X9_isBidder : GoodIn wsX9_home (wsV RX9 195 RX9 yX9_isBidder wsX9_isBidder) := goodIn_app (goodIn_of _ (by decide +kernel)) ggX9_home_X9_isBidder
set_option maxRecDepth 20000 in
theorem ggX9_home_X9_isCell : GoodIn wsX9_home wsX9_isCell := goodIn_r _ [16, 17, 11, 12, 9, 13] (by decide +kernel) (by decide +kernel)
set_option maxRecDepth 20000 in
theorem gX9_home_X9_isCell : GoodIn wsX9_home (va_wsS RX9 198 yX9_isCell wsX9_isCell) := goodIn_app (goodIn_of _ (by decide +kernel)) ggX9_home_X9_isCell
set_option maxRecDepth 20000 in
theorem ggX9_home_X9_heldOf : GoodIn wsX9_home wsX9_heldOf := goodIn_r _ [20] (by decide +kernel) (by decide +kernel)
set_option maxRecDepth 20000 in
theorem gX9_home_X9_heldOf : GoodIn wsX9_home (va_wsS RX9 191 yX9_heldOf wsX9_heldOf) := goodIn_app (goodIn_of _ (by decide +kernel)) ggX9_home_X9_heldOf
set_option maxRecDepth 20000 in
theorem ggX9_home_X9_heldBy : GoodIn wsX9_home wsX9_heldBy := goodIn_r _ [23] (by decide +kernel) (by decide +kernel)
set_option maxRecDepth 20000 in
theorem gX9_home_X9_heldBy : GoodIn wsX9_home (va_wsS RX9 208 yX9_heldBy wsX9_heldBy) := goodIn_app (goodIn_of _ (by decide +kernel)) ggX9_home_X9_heldBy
set_option maxRecDepth 20000 in
theorem ggX9_home_X9_of : GoodIn wsX9_home wsX9_of := goodIn_r _ [26] (by decide +kernel) (by decide +kernel)
set_option maxRecDepth 20000 in
theorem gX9_home_X9_of : GoodIn wsX9_home (va_wsS RX9 158 yX9_of wsX9_of) := goodIn_app (goodIn_of _ (by decide +kernel)) ggX9_home_X9_of
set_option maxRecDepth 20000 in
theorem ggX9_home_X9_layHour : GoodIn wsX9_home wsX9_layHour := goodIn_r _ [30, 4, 31, 32, 33, 9, 34, 3, 47, 48, 49, 50, 51, 52, 53, 54, 55, 56, 57, 58, 59, 60, 61, 62, 63, 64, 65, 66, 67, 68, 69] (by decide +kernel) (by decide +kernel)
set_option maxRecDepth 20000 in
theorem gX9_home_X9_layHour : GoodIn wsX9_home (wsV RX9 216 RX9 yX9_layHour wsX9_layHour) := goodIn_app (goodIn_of _ (by decide +kernel)) ggX9_home_X9_layHour
set_option maxRecDepth 20000 in
theorem ggX9_home_X9_beside : GoodIn wsX9_home wsX9_beside := goodIn_r _ [37] (by decide +kernel) (by decide +kernel)
set_option maxRecDepth 20000 in
theorem gX9_home_X9_beside : GoodIn wsX9_home (va_wsS RX9 175 yX9_beside wsX9_beside) := goodIn_app (goodIn_of _ (by decide +kernel)) ggX9_home_X9_beside
set_option maxRecDepth 20000 in
theorem ggX9_home_X9_dryOf : GoodIn wsX9_home wsX9_dryOf := goodIn_r _ [40, 41, 42, 9, 43, 44, 45, 46] (by decide +kernel) (by decide +kernel)
set_option maxRecDepth 20000 in
theorem gX9_home_X9_dryOf : GoodIn wsX9_home (va_wsS RX9 219 yX9_dryOf wsX9_dryOf) := goodIn_app (goodIn_of _ (by decide +kernel)) ggX9_home_X9_dryOf
theorem dX9_home_0 : decode cX9_home 0 = .ok (.aload_n 0, 1) := by decide +kernel
theorem dX9_home_1 : decode cX9_home 1 = .ok (.iconst 0, 1) := by decide +kernel
theorem dX9_home_2 : decode cX9_home 2 = .ok (.putfield 44, 3) := by decide +kernel
theorem dX9_home_5 : decode cX9_home 5 = .ok (.aload_n 0, 1) := by decide +kernel
theorem dX9_home_6 : decode cX9_home 6 = .ok (.iload_n 1, 1) := by decide +kernel
theorem dX9_home_7 : decode cX9_home 7 = .ok (.invokevirtual 195, 3) := by decide +kernel
theorem dX9_home_10 : decode cX9_home 10 = .ok (.ifCond .eq 10, 3) := by decide +kernel
theorem dX9_home_13 : decode cX9_home 13 = .ok (.iload_n 2, 1) := by decide +kernel
theorem dX9_home_14 : decode cX9_home 14 = .ok (.invokestatic 198, 3) := by decide +kernel
theorem dX9_home_17 : decode cX9_home 17 = .ok (.ifCond .ne 6, 3) := by decide +kernel
theorem dX9_home_20 : decode cX9_home 20 = .ok (.ldc 64, 2) := by decide +kernel
theorem dX9_home_22 : decode cX9_home 22 = .ok (.ireturn, 1) := by decide +kernel
theorem dX9_home_23 : decode cX9_home 23 = .ok (.aload_n 0, 1) := by decide +kernel
theorem dX9_home_24 : decode cX9_home 24 = .ok (.getfield 19, 3) := by decide +kernel
theorem dX9_home_27 : decode cX9_home 27 = .ok (.invokestatic 191, 3) := by decide +kernel
theorem dX9_home_30 : decode cX9_home 30 = .ok (.aload_n 0, 1) := by decide +kernel
theorem dX9_home_31 : decode cX9_home 31 = .ok (.getfield 19, 3) := by decide +kernel
theorem dX9_home_34 : decode cX9_home 34 = .ok (.iload_n 1, 1) := by decide +kernel
theorem dX9_home_35 : decode cX9_home 35 = .ok (.invokestatic 208, 3) := by decide +kernel
theorem dX9_home_38 : decode cX9_home 38 = .ok (.iconst (-1), 1) := by decide +kernel
theorem dX9_home_39 : decode cX9_home 39 = .ok (.ixor, 1) := by decide +kernel
theorem dX9_home_40 : decode cX9_home 40 = .ok (.iand, 1) := by decide +kernel
theorem dX9_home_41 : decode cX9_home 41 = .ok (.istore_n 3, 1) := by decide +kernel
theorem dX9_home_42 : decode cX9_home 42 = .ok (.iconst 1, 1) := by decide +kernel
theorem dX9_home_43 : decode cX9_home 43 = .ok (.iload_n 2, 1) := by decide +kernel
theorem dX9_home_44 : decode cX9_home 44 = .ok (.ishl, 1) := by decide +kernel
theorem dX9_home_45 : decode cX9_home 45 = .ok (.istore 4, 2) := by decide +kernel
theorem dX9_home_47 : decode cX9_home 47 = .ok (.iconst 0, 1) := by decide +kernel
theorem dX9_home_48 : decode cX9_home 48 = .ok (.istore 5, 2) := by decide +kernel
theorem dX9_home_50 : decode cX9_home 50 = .ok (.iload 5, 2) := by decide +kernel
theorem dX9_home_52 : decode cX9_home 52 = .ok (.bipush 25, 2) := by decide +kernel
theorem dX9_home_54 : decode cX9_home 54 = .ok (.if_icmp .ge 60, 3) := by decide +kernel
theorem dX9_home_57 : decode cX9_home 57 = .ok (.iload 4, 2) := by decide +kernel
theorem dX9_home_59 : decode cX9_home 59 = .ok (.aload_n 0, 1) := by decide +kernel
theorem dX9_home_60 : decode cX9_home 60 = .ok (.getfield 19, 3) := by decide +kernel
theorem dX9_home_63 : decode cX9_home 63 = .ok (.iload_n 1, 1) := by decide +kernel
theorem dX9_home_64 : decode cX9_home 64 = .ok (.iconst 2, 1) := by decide +kernel
theorem dX9_home_65 : decode cX9_home 65 = .ok (.invokestatic 158, 3) := by decide +kernel
theorem dX9_home_68 : decode cX9_home 68 = .ok (.ishr, 1) := by decide +kernel
theorem dX9_home_69 : decode cX9_home 69 = .ok (.iconst 1, 1) := by decide +kernel
theorem dX9_home_70 : decode cX9_home 70 = .ok (.iand, 1) := by decide +kernel
theorem dX9_home_71 : decode cX9_home 71 = .ok (.iconst 1, 1) := by decide +kernel
theorem dX9_home_72 : decode cX9_home 72 = .ok (.if_icmp .ne 6, 3) := by decide +kernel
theorem dX9_home_75 : decode cX9_home 75 = .ok (.iload 5, 2) := by decide +kernel
theorem dX9_home_77 : decode cX9_home 77 = .ok (.ireturn, 1) := by decide +kernel
theorem dX9_home_78 : decode cX9_home 78 = .ok (.aload_n 0, 1) := by decide +kernel
theorem dX9_home_79 : decode cX9_home 79 = .ok (.iload 5, 2) := by decide +kernel
theorem dX9_home_81 : decode cX9_home 81 = .ok (.iconst 1, 1) := by decide +kernel
theorem dX9_home_82 : decode cX9_home 82 = .ok (.iadd, 1) := by decide +kernel
theorem dX9_home_83 : decode cX9_home 83 = .ok (.invokevirtual 216, 3) := by decide +kernel
theorem dX9_home_86 : decode cX9_home 86 = .ok (.iload 4, 2) := by decide +kernel
theorem dX9_home_88 : decode cX9_home 88 = .ok (.iload 4, 2) := by decide +kernel
theorem dX9_home_90 : decode cX9_home 90 = .ok (.invokestatic 175, 3) := by decide +kernel
theorem dX9_home_93 : decode cX9_home 93 = .ok (.ior, 1) := by decide +kernel
theorem dX9_home_94 : decode cX9_home 94 = .ok (.aload_n 0, 1) := by decide +kernel
theorem dX9_home_95 : decode cX9_home 95 = .ok (.getfield 25, 3) := by decide +kernel
theorem dX9_home_98 : decode cX9_home 98 = .ok (.invokestatic 219, 3) := by decide +kernel
theorem dX9_home_101 : decode cX9_home 101 = .ok (.iand, 1) := by decide +kernel
theorem dX9_home_102 : decode cX9_home 102 = .ok (.iload_n 3, 1) := by decide +kernel
theorem dX9_home_103 : decode cX9_home 103 = .ok (.iconst (-1), 1) := by decide +kernel
theorem dX9_home_104 : decode cX9_home 104 = .ok (.ixor, 1) := by decide +kernel
theorem dX9_home_105 : decode cX9_home 105 = .ok (.iand, 1) := by decide +kernel
theorem dX9_home_106 : decode cX9_home 106 = .ok (.istore 4, 2) := by decide +kernel
theorem dX9_home_108 : decode cX9_home 108 = .ok (.iinc 5 1, 3) := by decide +kernel
theorem dX9_home_111 : decode cX9_home 111 = .ok (.goto (-61), 3) := by decide +kernel
theorem dX9_home_114 : decode cX9_home 114 = .ok (.ldc 87, 2) := by decide +kernel
theorem dX9_home_116 : decode cX9_home 116 = .ok (.ireturn, 1) := by decide +kernel
set_option maxRecDepth 20000 in
theorem ggX9_open_X9_mayBid : GoodIn wsX9_open wsX9_mayBid := goodIn_r _ [5, 6, 7, 4, 8, 9, 10, 11, 12, 13, 14, 15, 16, 17] (by decide +kernel) (by decide +kernel)
set_option maxRecDepth 20000 in
theorem gX9_open_X9_mayBid : GoodIn wsX9_open (va_wsS RX9 201 yX9_mayBid wsX9_mayBid) := goodIn_app (goodIn_of _ (by decide +kernel)) ggX9_open_X9_mayBid
theorem dX9_open_0 : decode cX9_open 0 = .ok (.iconst 0, 1) := by decide +kernel
theorem dX9_open_1 : decode cX9_open 1 = .ok (.istore_n 2, 1) := by decide +kernel
theorem dX9_open_2 : decode cX9_open 2 = .ok (.iconst 0, 1) := by decide +kernel
theorem dX9_open_3 : decode cX9_open 3 = .ok (.istore_n 3, 1) := by decide +kernel
theorem dX9_open_4 : decode cX9_open 4 = .ok (.iload_n 3, 1) := by decide +kernel
theorem dX9_open_5 : decode cX9_open 5 = .ok (.bipush 15, 2) := by decide +kernel
theorem dX9_open_7 : decode cX9_open 7 = .ok (.if_icmp .ge 31, 3) := by decide +kernel
theorem dX9_open_10 : decode cX9_open 10 = .ok (.iload_n 2, 1) := by decide +kernel
theorem dX9_open_11 : decode cX9_open 11 = .ok (.aload_n 0, 1) := by decide +kernel
theorem dX9_open_12 : decode cX9_open 12 = .ok (.getfield 19, 3) := by decide +kernel
theorem dX9_open_15 : decode cX9_open 15 = .ok (.iload_n 1, 1) := by decide +kernel
theorem dX9_open_16 : decode cX9_open 16 = .ok (.iload_n 3, 1) := by decide +kernel
theorem dX9_open_17 : decode cX9_open 17 = .ok (.invokestatic 201, 3) := by decide +kernel
theorem dX9_open_20 : decode cX9_open 20 = .ok (.ifCond .eq 9, 3) := by decide +kernel
theorem dX9_open_23 : decode cX9_open 23 = .ok (.iconst 1, 1) := by decide +kernel
theorem dX9_open_24 : decode cX9_open 24 = .ok (.iload_n 3, 1) := by decide +kernel
theorem dX9_open_25 : decode cX9_open 25 = .ok (.ishl, 1) := by decide +kernel
theorem dX9_open_26 : decode cX9_open 26 = .ok (.goto 4, 3) := by decide +kernel
theorem dX9_open_29 : decode cX9_open 29 = .ok (.iconst 0, 1) := by decide +kernel
theorem dX9_open_30 : decode cX9_open 30 = .ok (.ior, 1) := by decide +kernel
theorem dX9_open_31 : decode cX9_open 31 = .ok (.istore_n 2, 1) := by decide +kernel
theorem dX9_open_32 : decode cX9_open 32 = .ok (.iinc 3 1, 3) := by decide +kernel
theorem dX9_open_35 : decode cX9_open 35 = .ok (.goto (-31), 3) := by decide +kernel
theorem dX9_open_38 : decode cX9_open 38 = .ok (.iload_n 2, 1) := by decide +kernel
theorem dX9_open_39 : decode cX9_open 39 = .ok (.ireturn, 1) := by decide +kernel
set_option maxRecDepth 20000 in
theorem ggX9_buy_X9_isBidder : GoodIn wsX9_buy wsX9_isBidder := goodIn_r _ [9, 3, 10, 11, 8, 12, 35, 36, 37, 38, 39, 40, 41, 42, 43, 44, 45, 46, 47, 48, 49, 50, 51, 52, 53, 54, 55, 56, 57] (by decide +kernel) (by decide +kernel)
set_option maxRecDepth 20000 in
theorem gX9_buy_X9_isBidder : GoodIn wsX9_buy (wsV RX9 195 RX9 yX9_isBidder wsX9_isBidder) := goodIn_app (goodIn_of _ (by decide +kernel)) ggX9_buy_X9_isBidder
set_option maxRecDepth 20000 in
theorem ggX9_buy_X9_in : GoodIn wsX9_buy wsX9_in := goodIn_r _ [12] (by decide +kernel) (by decide +kernel)
set_option maxRecDepth 20000 in
theorem gX9_buy_X9_in : GoodIn wsX9_buy (va_wsS RX9 54 yX9_in wsX9_in) := goodIn_app (goodIn_of _ (by decide +kernel)) ggX9_buy_X9_in
set_option maxRecDepth 20000 in
theorem ggX9_buy_X9_open : GoodIn wsX9_buy wsX9_open := goodIn_r _ [16, 3, 17, 18, 8, 19, 20, 21, 22, 23, 24, 25, 26, 27, 28, 29, 30, 31, 35, 36, 37, 38, 39, 40, 41, 42, 43, 44, 45, 46, 47, 48, 49, 50, 51, 52, 53, 54, 55, 56, 57] (by decide +kernel) (by decide +kernel)
set_option maxRecDepth 20000 in
theorem gX9_buy_X9_open : GoodIn wsX9_buy (wsV RX9 225 RX9 yX9_open wsX9_open) := goodIn_app (goodIn_of _ (by decide +kernel)) ggX9_buy_X9_open
set_option maxRecDepth 20000 in
theorem ggX9_buy_X9_of : GoodIn wsX9_buy wsX9_of := goodIn_r _ [31] (by decide +kernel) (by decide +kernel)
set_option maxRecDepth 20000 in
theorem gX9_buy_X9_of : GoodIn wsX9_buy (va_wsS RX9 158 yX9_of wsX9_of) := goodIn_app (goodIn_of _ (by decide +kernel)) ggX9_buy_X9_of
set_option maxRecDepth 20000 in
theorem ggX9_buy_X9_priceBy : GoodIn wsX9_buy wsX9_priceBy := goodIn_r _ [34] (by decide +kernel) (by decide +kernel)
set_option maxRecDepth 20000 in
theorem gX9_buy_X9_priceBy : GoodIn wsX9_buy (va_wsS RX9 172 yX9_priceBy wsX9_priceBy) := goodIn_app (goodIn_of _ (by decide +kernel)) ggX9_buy_X9_priceBy
theorem dX9_buy_0 : decode cX9_buy 0 = .ok (.aload_n 0, 1) := by decide +kernel
theorem dX9_buy_1 : decode cX9_buy 1 = .ok (.iconst 0, 1) := by decide +kernel
theorem dX9_buy_2 : decode cX9_buy 2 = .ok (.putfield 44, 3) := by decide +kernel
theorem dX9_buy_5 : decode cX9_buy 5 = .ok (.aload_n 0, 1) := by decide +kernel
theorem dX9_buy_6 : decode cX9_buy 6 = .ok (.iload_n 1, 1) := by decide +kernel
theorem dX9_buy_7 : decode cX9_buy 7 = .ok (.invokevirtual 195, 3) := by decide +kernel
theorem dX9_buy_10 : decode cX9_buy 10 = .ok (.ifCond .eq 13, 3) := by decide +kernel
theorem dX9_buy_13 : decode cX9_buy 13 = .ok (.iload_n 2, 1) := by decide +kernel
theorem dX9_buy_14 : decode cX9_buy 14 = .ok (.i2l, 1) := by decide +kernel
theorem dX9_buy_15 : decode cX9_buy 15 = .ok (.lconst 0, 1) := by decide +kernel
theorem dX9_buy_16 : decode cX9_buy 16 = .ok (.lconst 1, 1) := by decide +kernel
theorem dX9_buy_17 : decode cX9_buy 17 = .ok (.invokestatic 54, 3) := by decide +kernel
theorem dX9_buy_20 : decode cX9_buy 20 = .ok (.ifCond .ne 6, 3) := by decide +kernel
theorem dX9_buy_23 : decode cX9_buy 23 = .ok (.ldc 64, 2) := by decide +kernel
theorem dX9_buy_25 : decode cX9_buy 25 = .ok (.ireturn, 1) := by decide +kernel
theorem dX9_buy_26 : decode cX9_buy 26 = .ok (.aload_n 0, 1) := by decide +kernel
theorem dX9_buy_27 : decode cX9_buy 27 = .ok (.iload_n 1, 1) := by decide +kernel
theorem dX9_buy_28 : decode cX9_buy 28 = .ok (.invokevirtual 225, 3) := by decide +kernel
theorem dX9_buy_31 : decode cX9_buy 31 = .ok (.istore_n 3, 1) := by decide +kernel
theorem dX9_buy_32 : decode cX9_buy 32 = .ok (.aload_n 0, 1) := by decide +kernel
theorem dX9_buy_33 : decode cX9_buy 33 = .ok (.getfield 19, 3) := by decide +kernel
theorem dX9_buy_36 : decode cX9_buy 36 = .ok (.iload_n 1, 1) := by decide +kernel
theorem dX9_buy_37 : decode cX9_buy 37 = .ok (.iconst 0, 1) := by decide +kernel
theorem dX9_buy_38 : decode cX9_buy 38 = .ok (.invokestatic 158, 3) := by decide +kernel
theorem dX9_buy_41 : decode cX9_buy 41 = .ok (.istore 4, 2) := by decide +kernel
theorem dX9_buy_43 : decode cX9_buy 43 = .ok (.iconst 0, 1) := by decide +kernel
theorem dX9_buy_44 : decode cX9_buy 44 = .ok (.istore 5, 2) := by decide +kernel
theorem dX9_buy_46 : decode cX9_buy 46 = .ok (.iconst 0, 1) := by decide +kernel
theorem dX9_buy_47 : decode cX9_buy 47 = .ok (.istore 6, 2) := by decide +kernel
theorem dX9_buy_49 : decode cX9_buy 49 = .ok (.iconst 0, 1) := by decide +kernel
theorem dX9_buy_50 : decode cX9_buy 50 = .ok (.istore 7, 2) := by decide +kernel
theorem dX9_buy_52 : decode cX9_buy 52 = .ok (.iconst 0, 1) := by decide +kernel
theorem dX9_buy_53 : decode cX9_buy 53 = .ok (.istore 8, 2) := by decide +kernel
theorem dX9_buy_55 : decode cX9_buy 55 = .ok (.iload 8, 2) := by decide +kernel
theorem dX9_buy_57 : decode cX9_buy 57 = .ok (.ldc 228, 2) := by decide +kernel
theorem dX9_buy_59 : decode cX9_buy 59 = .ok (.if_icmp .ge 185, 3) := by decide +kernel
theorem dX9_buy_62 : decode cX9_buy 62 = .ok (.iload 8, 2) := by decide +kernel
theorem dX9_buy_64 : decode cX9_buy 64 = .ok (.iload_n 3, 1) := by decide +kernel
theorem dX9_buy_65 : decode cX9_buy 65 = .ok (.iconst (-1), 1) := by decide +kernel
theorem dX9_buy_66 : decode cX9_buy 66 = .ok (.ixor, 1) := by decide +kernel
theorem dX9_buy_67 : decode cX9_buy 67 = .ok (.iand, 1) := by decide +kernel
theorem dX9_buy_68 : decode cX9_buy 68 = .ok (.ifCond .ne 170, 3) := by decide +kernel
theorem dX9_buy_71 : decode cX9_buy 71 = .ok (.iconst 0, 1) := by decide +kernel
theorem dX9_buy_72 : decode cX9_buy 72 = .ok (.istore 9, 2) := by decide +kernel
theorem dX9_buy_74 : decode cX9_buy 74 = .ok (.iconst 0, 1) := by decide +kernel
theorem dX9_buy_75 : decode cX9_buy 75 = .ok (.istore 10, 2) := by decide +kernel
theorem dX9_buy_77 : decode cX9_buy 77 = .ok (.iconst 0, 1) := by decide +kernel
theorem dX9_buy_78 : decode cX9_buy 78 = .ok (.istore 11, 2) := by decide +kernel
theorem dX9_buy_80 : decode cX9_buy 80 = .ok (.iload 11, 2) := by decide +kernel
theorem dX9_buy_82 : decode cX9_buy 82 = .ok (.bipush 15, 2) := by decide +kernel
theorem dX9_buy_84 : decode cX9_buy 84 = .ok (.if_icmp .ge 70, 3) := by decide +kernel
theorem dX9_buy_87 : decode cX9_buy 87 = .ok (.iload 9, 2) := by decide +kernel
theorem dX9_buy_89 : decode cX9_buy 89 = .ok (.iload 8, 2) := by decide +kernel
theorem dX9_buy_91 : decode cX9_buy 91 = .ok (.iload 11, 2) := by decide +kernel
theorem dX9_buy_93 : decode cX9_buy 93 = .ok (.ishr, 1) := by decide +kernel
theorem dX9_buy_94 : decode cX9_buy 94 = .ok (.iconst 1, 1) := by decide +kernel
theorem dX9_buy_95 : decode cX9_buy 95 = .ok (.iand, 1) := by decide +kernel
theorem dX9_buy_96 : decode cX9_buy 96 = .ok (.iconst 1, 1) := by decide +kernel
theorem dX9_buy_97 : decode cX9_buy 97 = .ok (.if_icmp .ne 16, 3) := by decide +kernel
theorem dX9_buy_100 : decode cX9_buy 100 = .ok (.aload_n 0, 1) := by decide +kernel
theorem dX9_buy_101 : decode cX9_buy 101 = .ok (.getfield 19, 3) := by decide +kernel
theorem dX9_buy_104 : decode cX9_buy 104 = .ok (.bipush 6, 2) := by decide +kernel
theorem dX9_buy_106 : decode cX9_buy 106 = .ok (.iload 11, 2) := by decide +kernel
theorem dX9_buy_108 : decode cX9_buy 108 = .ok (.iadd, 1) := by decide +kernel
theorem dX9_buy_109 : decode cX9_buy 109 = .ok (.iaload, 1) := by decide +kernel
theorem dX9_buy_110 : decode cX9_buy 110 = .ok (.goto 4, 3) := by decide +kernel
theorem dX9_buy_113 : decode cX9_buy 113 = .ok (.iconst 0, 1) := by decide +kernel
theorem dX9_buy_114 : decode cX9_buy 114 = .ok (.iadd, 1) := by decide +kernel
theorem dX9_buy_115 : decode cX9_buy 115 = .ok (.istore 9, 2) := by decide +kernel
theorem dX9_buy_117 : decode cX9_buy 117 = .ok (.iload 10, 2) := by decide +kernel
theorem dX9_buy_119 : decode cX9_buy 119 = .ok (.iload 8, 2) := by decide +kernel
theorem dX9_buy_121 : decode cX9_buy 121 = .ok (.iload 11, 2) := by decide +kernel
theorem dX9_buy_123 : decode cX9_buy 123 = .ok (.ishr, 1) := by decide +kernel
theorem dX9_buy_124 : decode cX9_buy 124 = .ok (.iconst 1, 1) := by decide +kernel
theorem dX9_buy_125 : decode cX9_buy 125 = .ok (.iand, 1) := by decide +kernel
theorem dX9_buy_126 : decode cX9_buy 126 = .ok (.iconst 1, 1) := by decide +kernel
theorem dX9_buy_127 : decode cX9_buy 127 = .ok (.if_icmp .ne 17, 3) := by decide +kernel
theorem dX9_buy_130 : decode cX9_buy 130 = .ok (.aload_n 0, 1) := by decide +kernel
theorem dX9_buy_131 : decode cX9_buy 131 = .ok (.getfield 19, 3) := by decide +kernel
theorem dX9_buy_134 : decode cX9_buy 134 = .ok (.iload 4, 2) := by decide +kernel
theorem dX9_buy_136 : decode cX9_buy 136 = .ok (.iload 11, 2) := by decide +kernel
theorem dX9_buy_138 : decode cX9_buy 138 = .ok (.invokestatic 172, 3) := by decide +kernel
theorem dX9_buy_141 : decode cX9_buy 141 = .ok (.goto 4, 3) := by decide +kernel
theorem dX9_buy_144 : decode cX9_buy 144 = .ok (.iconst 0, 1) := by decide +kernel
theorem dX9_buy_145 : decode cX9_buy 145 = .ok (.iadd, 1) := by decide +kernel
theorem dX9_buy_146 : decode cX9_buy 146 = .ok (.istore 10, 2) := by decide +kernel
theorem dX9_buy_148 : decode cX9_buy 148 = .ok (.iinc 11 1, 3) := by decide +kernel
theorem dX9_buy_151 : decode cX9_buy 151 = .ok (.goto (-71), 3) := by decide +kernel
theorem dX9_buy_154 : decode cX9_buy 154 = .ok (.iload 10, 2) := by decide +kernel
theorem dX9_buy_156 : decode cX9_buy 156 = .ok (.aload_n 0, 1) := by decide +kernel
theorem dX9_buy_157 : decode cX9_buy 157 = .ok (.getfield 19, 3) := by decide +kernel
theorem dX9_buy_160 : decode cX9_buy 160 = .ok (.iload_n 1, 1) := by decide +kernel
theorem dX9_buy_161 : decode cX9_buy 161 = .ok (.iconst 1, 1) := by decide +kernel
theorem dX9_buy_162 : decode cX9_buy 162 = .ok (.invokestatic 158, 3) := by decide +kernel
theorem dX9_buy_165 : decode cX9_buy 165 = .ok (.if_icmp .gt 28, 3) := by decide +kernel
theorem dX9_buy_168 : decode cX9_buy 168 = .ok (.iload 9, 2) := by decide +kernel
theorem dX9_buy_170 : decode cX9_buy 170 = .ok (.iload 6, 2) := by decide +kernel
theorem dX9_buy_172 : decode cX9_buy 172 = .ok (.if_icmp .gt 17, 3) := by decide +kernel
theorem dX9_buy_175 : decode cX9_buy 175 = .ok (.iload 9, 2) := by decide +kernel
theorem dX9_buy_177 : decode cX9_buy 177 = .ok (.iload 6, 2) := by decide +kernel
theorem dX9_buy_179 : decode cX9_buy 179 = .ok (.if_icmp .ne 14, 3) := by decide +kernel
theorem dX9_buy_182 : decode cX9_buy 182 = .ok (.iload 10, 2) := by decide +kernel
theorem dX9_buy_184 : decode cX9_buy 184 = .ok (.iload 7, 2) := by decide +kernel
theorem dX9_buy_186 : decode cX9_buy 186 = .ok (.if_icmp .ge 7, 3) := by decide +kernel
theorem dX9_buy_189 : decode cX9_buy 189 = .ok (.iconst 1, 1) := by decide +kernel
theorem dX9_buy_190 : decode cX9_buy 190 = .ok (.goto 4, 3) := by decide +kernel
theorem dX9_buy_193 : decode cX9_buy 193 = .ok (.iconst 0, 1) := by decide +kernel
theorem dX9_buy_194 : decode cX9_buy 194 = .ok (.istore 11, 2) := by decide +kernel
theorem dX9_buy_196 : decode cX9_buy 196 = .ok (.iload 11, 2) := by decide +kernel
theorem dX9_buy_198 : decode cX9_buy 198 = .ok (.ifCond .eq 8, 3) := by decide +kernel
theorem dX9_buy_201 : decode cX9_buy 201 = .ok (.iload 8, 2) := by decide +kernel
theorem dX9_buy_203 : decode cX9_buy 203 = .ok (.goto 5, 3) := by decide +kernel
theorem dX9_buy_206 : decode cX9_buy 206 = .ok (.iload 5, 2) := by decide +kernel
theorem dX9_buy_208 : decode cX9_buy 208 = .ok (.istore 5, 2) := by decide +kernel
theorem dX9_buy_210 : decode cX9_buy 210 = .ok (.iload 11, 2) := by decide +kernel
theorem dX9_buy_212 : decode cX9_buy 212 = .ok (.ifCond .eq 8, 3) := by decide +kernel
theorem dX9_buy_215 : decode cX9_buy 215 = .ok (.iload 9, 2) := by decide +kernel
theorem dX9_buy_217 : decode cX9_buy 217 = .ok (.goto 5, 3) := by decide +kernel
theorem dX9_buy_220 : decode cX9_buy 220 = .ok (.iload 6, 2) := by decide +kernel
theorem dX9_buy_222 : decode cX9_buy 222 = .ok (.istore 6, 2) := by decide +kernel
theorem dX9_buy_224 : decode cX9_buy 224 = .ok (.iload 11, 2) := by decide +kernel
theorem dX9_buy_226 : decode cX9_buy 226 = .ok (.ifCond .eq 8, 3) := by decide +kernel
theorem dX9_buy_229 : decode cX9_buy 229 = .ok (.iload 10, 2) := by decide +kernel
theorem dX9_buy_231 : decode cX9_buy 231 = .ok (.goto 5, 3) := by decide +kernel
theorem dX9_buy_234 : decode cX9_buy 234 = .ok (.iload 7, 2) := by decide +kernel
theorem dX9_buy_236 : decode cX9_buy 236 = .ok (.istore 7, 2) := by decide +kernel
theorem dX9_buy_238 : decode cX9_buy 238 = .ok (.iinc 8 1, 3) := by decide +kernel
theorem dX9_buy_241 : decode cX9_buy 241 = .ok (.goto (-186), 3) := by decide +kernel
theorem dX9_buy_244 : decode cX9_buy 244 = .ok (.iload_n 2, 1) := by decide +kernel
theorem dX9_buy_245 : decode cX9_buy 245 = .ok (.ifCond .ne 8, 3) := by decide +kernel
theorem dX9_buy_248 : decode cX9_buy 248 = .ok (.iload 6, 2) := by decide +kernel
theorem dX9_buy_250 : decode cX9_buy 250 = .ok (.goto 5, 3) := by decide +kernel
theorem dX9_buy_253 : decode cX9_buy 253 = .ok (.iload 5, 2) := by decide +kernel
theorem dX9_buy_255 : decode cX9_buy 255 = .ok (.ireturn, 1) := by decide +kernel
set_option maxRecDepth 20000 in
theorem ggX9_harvest_X9_isBidder : GoodIn wsX9_harvest wsX9_isBidder := goodIn_r _ [12, 5, 13, 14, 11, 15, 55, 56, 57, 58, 59, 60, 61, 62, 63, 64, 65, 66, 67, 68, 69, 70, 71, 72, 73, 74, 75, 76, 77] (by decide +kernel) (by decide +kernel)
set_option maxRecDepth 20000 in
theorem gX9_harvest_X9_isBidder : GoodIn wsX9_harvest (wsV RX9 195 RX9 yX9_isBidder wsX9_isBidder) := goodIn_app (goodIn_of _ (by decide +kernel)) ggX9_harvest_X9_isBidder
set_option maxRecDepth 20000 in
theorem ggX9_harvest_X9_in : GoodIn wsX9_harvest wsX9_in := goodIn_r _ [15] (by decide +kernel) (by decide +kernel)
set_option maxRecDepth 20000 in
theorem gX9_harvest_X9_in : GoodIn wsX9_harvest (va_wsS RX9 54 yX9_in wsX9_in) := goodIn_app (goodIn_of _ (by decide +kernel)) ggX9_harvest_X9_in
set_option maxRecDepth 20000 in
theorem ggX9_harvest_X9_of : GoodIn wsX9_harvest wsX9_of := goodIn_r _ [18] (by decide +kernel) (by decide +kernel)
set_option maxRecDepth 20000 in
theorem gX9_harvest_X9_of : GoodIn wsX9_harvest (va_wsS RX9 158 yX9_of wsX9_of) := goodIn_app (goodIn_of _ (by decide +kernel)) ggX9_harvest_X9_of
set_option maxRecDepth 20000 in
theorem ggX9_harvest_X9_open : GoodIn wsX9_harvest wsX9_open := goodIn_r _ [22, 5, 23, 24, 11, 25, 26, 27, 28, 29, 30, 31, 32, 33, 34, 16, 17, 18, 55, 56, 57, 58, 59, 60, 61, 62, 63, 64, 65, 66, 67, 68, 69, 70, 71, 72, 73, 74, 75, 76, 77] (by decide +kernel) (by decide +kernel)
set_option maxRecDepth 20000 in
theorem gX9_harvest_X9_open : GoodIn wsX9_harvest (wsV RX9 225 RX9 yX9_open wsX9_open) := goodIn_app (goodIn_of _ (by decide +kernel)) ggX9_harvest_X9_open
set_option maxRecDepth 20000 in
theorem ggX9_harvest_X9_layHour : GoodIn wsX9_harvest wsX9_layHour := goodIn_r _ [38, 6, 39, 40, 41, 11, 42, 5, 55, 56, 57, 58, 59, 60, 61, 62, 63, 64, 65, 66, 67, 68, 69, 70, 71, 72, 73, 74, 75, 76, 77] (by decide +kernel) (by decide +kernel)
set_option maxRecDepth 20000 in
theorem gX9_harvest_X9_layHour : GoodIn wsX9_harvest (wsV RX9 216 RX9 yX9_layHour wsX9_layHour) := goodIn_app (goodIn_of _ (by decide +kernel)) ggX9_harvest_X9_layHour
set_option maxRecDepth 20000 in
theorem ggX9_harvest_X9_isLostBy : GoodIn wsX9_harvest wsX9_isLostBy := goodIn_r _ [45, 29, 30, 11, 31, 32, 33, 34, 46, 47, 48] (by decide +kernel) (by decide +kernel)
set_option maxRecDepth 20000 in
theorem gX9_harvest_X9_isLostBy : GoodIn wsX9_harvest (va_wsS RX9 165 yX9_isLostBy wsX9_isLostBy) := goodIn_app (goodIn_of _ (by decide +kernel)) ggX9_harvest_X9_isLostBy
set_option maxRecDepth 20000 in
theorem ggX9_harvest_X9_bits : GoodIn wsX9_harvest wsX9_bits := goodIn_r _ [51] (by decide +kernel) (by decide +kernel)
set_option maxRecDepth 20000 in
theorem gX9_harvest_X9_bits : GoodIn wsX9_harvest (va_wsS RX9 233 yX9_bits wsX9_bits) := goodIn_app (goodIn_of _ (by decide +kernel)) ggX9_harvest_X9_bits
set_option maxRecDepth 20000 in
theorem ggX9_harvest_X9_priceBy : GoodIn wsX9_harvest wsX9_priceBy := goodIn_r _ [54] (by decide +kernel) (by decide +kernel)
set_option maxRecDepth 20000 in
theorem gX9_harvest_X9_priceBy : GoodIn wsX9_harvest (va_wsS RX9 172 yX9_priceBy wsX9_priceBy) := goodIn_app (goodIn_of _ (by decide +kernel)) ggX9_harvest_X9_priceBy
theorem dX9_harvest_0 : decode cX9_harvest 0 = .ok (.aload_n 0, 1) := by decide +kernel
theorem dX9_harvest_1 : decode cX9_harvest 1 = .ok (.iconst 0, 1) := by decide +kernel
theorem dX9_harvest_2 : decode cX9_harvest 2 = .ok (.putfield 44, 3) := by decide +kernel
theorem dX9_harvest_5 : decode cX9_harvest 5 = .ok (.aload_n 0, 1) := by decide +kernel
theorem dX9_harvest_6 : decode cX9_harvest 6 = .ok (.iload_n 1, 1) := by decide +kernel
theorem dX9_harvest_7 : decode cX9_harvest 7 = .ok (.invokevirtual 195, 3) := by decide +kernel
theorem dX9_harvest_10 : decode cX9_harvest 10 = .ok (.ifCond .eq 27, 3) := by decide +kernel
theorem dX9_harvest_13 : decode cX9_harvest 13 = .ok (.iload_n 2, 1) := by decide +kernel
theorem dX9_harvest_14 : decode cX9_harvest 14 = .ok (.i2l, 1) := by decide +kernel
theorem dX9_harvest_15 : decode cX9_harvest 15 = .ok (.lconst 1, 1) := by decide +kernel
theorem dX9_harvest_16 : decode cX9_harvest 16 = .ok (.ldc2_w 229, 3) := by decide +kernel
theorem dX9_harvest_19 : decode cX9_harvest 19 = .ok (.invokestatic 54, 3) := by decide +kernel
theorem dX9_harvest_22 : decode cX9_harvest 22 = .ok (.ifCond .eq 15, 3) := by decide +kernel
theorem dX9_harvest_25 : decode cX9_harvest 25 = .ok (.iload_n 3, 1) := by decide +kernel
theorem dX9_harvest_26 : decode cX9_harvest 26 = .ok (.i2l, 1) := by decide +kernel
theorem dX9_harvest_27 : decode cX9_harvest 27 = .ok (.lconst 1, 1) := by decide +kernel
theorem dX9_harvest_28 : decode cX9_harvest 28 = .ok (.ldc2_w 231, 3) := by decide +kernel
theorem dX9_harvest_31 : decode cX9_harvest 31 = .ok (.invokestatic 54, 3) := by decide +kernel
theorem dX9_harvest_34 : decode cX9_harvest 34 = .ok (.ifCond .ne 6, 3) := by decide +kernel
theorem dX9_harvest_37 : decode cX9_harvest 37 = .ok (.ldc 64, 2) := by decide +kernel
theorem dX9_harvest_39 : decode cX9_harvest 39 = .ok (.ireturn, 1) := by decide +kernel
theorem dX9_harvest_40 : decode cX9_harvest 40 = .ok (.aload_n 0, 1) := by decide +kernel
theorem dX9_harvest_41 : decode cX9_harvest 41 = .ok (.getfield 19, 3) := by decide +kernel
theorem dX9_harvest_44 : decode cX9_harvest 44 = .ok (.iload_n 1, 1) := by decide +kernel
theorem dX9_harvest_45 : decode cX9_harvest 45 = .ok (.iconst 0, 1) := by decide +kernel
theorem dX9_harvest_46 : decode cX9_harvest 46 = .ok (.invokestatic 158, 3) := by decide +kernel
theorem dX9_harvest_49 : decode cX9_harvest 49 = .ok (.istore 4, 2) := by decide +kernel
theorem dX9_harvest_51 : decode cX9_harvest 51 = .ok (.aload_n 0, 1) := by decide +kernel
theorem dX9_harvest_52 : decode cX9_harvest 52 = .ok (.iload_n 1, 1) := by decide +kernel
theorem dX9_harvest_53 : decode cX9_harvest 53 = .ok (.invokevirtual 225, 3) := by decide +kernel
theorem dX9_harvest_56 : decode cX9_harvest 56 = .ok (.istore 5, 2) := by decide +kernel
theorem dX9_harvest_58 : decode cX9_harvest 58 = .ok (.iconst 1, 1) := by decide +kernel
theorem dX9_harvest_59 : decode cX9_harvest 59 = .ok (.istore 6, 2) := by decide +kernel
theorem dX9_harvest_61 : decode cX9_harvest 61 = .ok (.iload 6, 2) := by decide +kernel
theorem dX9_harvest_63 : decode cX9_harvest 63 = .ok (.iload_n 3, 1) := by decide +kernel
theorem dX9_harvest_64 : decode cX9_harvest 64 = .ok (.if_icmp .gt 60, 3) := by decide +kernel
theorem dX9_harvest_67 : decode cX9_harvest 67 = .ok (.aload_n 0, 1) := by decide +kernel
theorem dX9_harvest_68 : decode cX9_harvest 68 = .ok (.iload 6, 2) := by decide +kernel
theorem dX9_harvest_70 : decode cX9_harvest 70 = .ok (.invokevirtual 216, 3) := by decide +kernel
theorem dX9_harvest_73 : decode cX9_harvest 73 = .ok (.iconst 0, 1) := by decide +kernel
theorem dX9_harvest_74 : decode cX9_harvest 74 = .ok (.istore 7, 2) := by decide +kernel
theorem dX9_harvest_76 : decode cX9_harvest 76 = .ok (.iload 7, 2) := by decide +kernel
theorem dX9_harvest_78 : decode cX9_harvest 78 = .ok (.bipush 15, 2) := by decide +kernel
theorem dX9_harvest_80 : decode cX9_harvest 80 = .ok (.if_icmp .ge 38, 3) := by decide +kernel
theorem dX9_harvest_83 : decode cX9_harvest 83 = .ok (.iload 5, 2) := by decide +kernel
theorem dX9_harvest_85 : decode cX9_harvest 85 = .ok (.aload_n 0, 1) := by decide +kernel
theorem dX9_harvest_86 : decode cX9_harvest 86 = .ok (.getfield 25, 3) := by decide +kernel
theorem dX9_harvest_89 : decode cX9_harvest 89 = .ok (.iload 4, 2) := by decide +kernel
theorem dX9_harvest_91 : decode cX9_harvest 91 = .ok (.iload 7, 2) := by decide +kernel
theorem dX9_harvest_93 : decode cX9_harvest 93 = .ok (.invokestatic 165, 3) := by decide +kernel
theorem dX9_harvest_96 : decode cX9_harvest 96 = .ok (.ifCond .eq 12, 3) := by decide +kernel
theorem dX9_harvest_99 : decode cX9_harvest 99 = .ok (.iconst 1, 1) := by decide +kernel
theorem dX9_harvest_100 : decode cX9_harvest 100 = .ok (.iload 7, 2) := by decide +kernel
theorem dX9_harvest_102 : decode cX9_harvest 102 = .ok (.ishl, 1) := by decide +kernel
theorem dX9_harvest_103 : decode cX9_harvest 103 = .ok (.iconst (-1), 1) := by decide +kernel
theorem dX9_harvest_104 : decode cX9_harvest 104 = .ok (.ixor, 1) := by decide +kernel
theorem dX9_harvest_105 : decode cX9_harvest 105 = .ok (.goto 4, 3) := by decide +kernel
theorem dX9_harvest_108 : decode cX9_harvest 108 = .ok (.iconst (-1), 1) := by decide +kernel
theorem dX9_harvest_109 : decode cX9_harvest 109 = .ok (.iand, 1) := by decide +kernel
theorem dX9_harvest_110 : decode cX9_harvest 110 = .ok (.istore 5, 2) := by decide +kernel
theorem dX9_harvest_112 : decode cX9_harvest 112 = .ok (.iinc 7 1, 3) := by decide +kernel
theorem dX9_harvest_115 : decode cX9_harvest 115 = .ok (.goto (-39), 3) := by decide +kernel
theorem dX9_harvest_118 : decode cX9_harvest 118 = .ok (.iinc 6 1, 3) := by decide +kernel
theorem dX9_harvest_121 : decode cX9_harvest 121 = .ok (.goto (-60), 3) := by decide +kernel
theorem dX9_harvest_124 : decode cX9_harvest 124 = .ok (.iload 5, 2) := by decide +kernel
theorem dX9_harvest_126 : decode cX9_harvest 126 = .ok (.invokestatic 233, 3) := by decide +kernel
theorem dX9_harvest_129 : decode cX9_harvest 129 = .ok (.iload_n 2, 1) := by decide +kernel
theorem dX9_harvest_130 : decode cX9_harvest 130 = .ok (.if_icmp .ge 6, 3) := by decide +kernel
theorem dX9_harvest_133 : decode cX9_harvest 133 = .ok (.ldc 87, 2) := by decide +kernel
theorem dX9_harvest_135 : decode cX9_harvest 135 = .ok (.ireturn, 1) := by decide +kernel
theorem dX9_harvest_136 : decode cX9_harvest 136 = .ok (.iconst 0, 1) := by decide +kernel
theorem dX9_harvest_137 : decode cX9_harvest 137 = .ok (.istore 6, 2) := by decide +kernel
theorem dX9_harvest_139 : decode cX9_harvest 139 = .ok (.iconst 0, 1) := by decide +kernel
theorem dX9_harvest_140 : decode cX9_harvest 140 = .ok (.istore 7, 2) := by decide +kernel
theorem dX9_harvest_142 : decode cX9_harvest 142 = .ok (.iload 7, 2) := by decide +kernel
theorem dX9_harvest_144 : decode cX9_harvest 144 = .ok (.iload_n 2, 1) := by decide +kernel
theorem dX9_harvest_145 : decode cX9_harvest 145 = .ok (.if_icmp .ge 120, 3) := by decide +kernel
theorem dX9_harvest_148 : decode cX9_harvest 148 = .ok (.ldc 87, 2) := by decide +kernel
theorem dX9_harvest_150 : decode cX9_harvest 150 = .ok (.istore 8, 2) := by decide +kernel
theorem dX9_harvest_152 : decode cX9_harvest 152 = .ok (.iconst 0, 1) := by decide +kernel
theorem dX9_harvest_153 : decode cX9_harvest 153 = .ok (.istore 9, 2) := by decide +kernel
theorem dX9_harvest_155 : decode cX9_harvest 155 = .ok (.iload 9, 2) := by decide +kernel
theorem dX9_harvest_157 : decode cX9_harvest 157 = .ok (.bipush 15, 2) := by decide +kernel
theorem dX9_harvest_159 : decode cX9_harvest 159 = .ok (.if_icmp .ge 73, 3) := by decide +kernel
theorem dX9_harvest_162 : decode cX9_harvest 162 = .ok (.iload 5, 2) := by decide +kernel
theorem dX9_harvest_164 : decode cX9_harvest 164 = .ok (.iload 9, 2) := by decide +kernel
theorem dX9_harvest_166 : decode cX9_harvest 166 = .ok (.ishr, 1) := by decide +kernel
theorem dX9_harvest_167 : decode cX9_harvest 167 = .ok (.iconst 1, 1) := by decide +kernel
theorem dX9_harvest_168 : decode cX9_harvest 168 = .ok (.iand, 1) := by decide +kernel
theorem dX9_harvest_169 : decode cX9_harvest 169 = .ok (.iconst 1, 1) := by decide +kernel
theorem dX9_harvest_170 : decode cX9_harvest 170 = .ok (.if_icmp .ne 7, 3) := by decide +kernel
theorem dX9_harvest_173 : decode cX9_harvest 173 = .ok (.iconst 1, 1) := by decide +kernel
theorem dX9_harvest_174 : decode cX9_harvest 174 = .ok (.goto 4, 3) := by decide +kernel
theorem dX9_harvest_177 : decode cX9_harvest 177 = .ok (.iconst 0, 1) := by decide +kernel
theorem dX9_harvest_178 : decode cX9_harvest 178 = .ok (.istore 10, 2) := by decide +kernel
theorem dX9_harvest_180 : decode cX9_harvest 180 = .ok (.iload 10, 2) := by decide +kernel
theorem dX9_harvest_182 : decode cX9_harvest 182 = .ok (.ifCond .eq 40, 3) := by decide +kernel
theorem dX9_harvest_185 : decode cX9_harvest 185 = .ok (.iload 8, 2) := by decide +kernel
theorem dX9_harvest_187 : decode cX9_harvest 187 = .ok (.ldc 87, 2) := by decide +kernel
theorem dX9_harvest_189 : decode cX9_harvest 189 = .ok (.if_icmp .eq 28, 3) := by decide +kernel
theorem dX9_harvest_192 : decode cX9_harvest 192 = .ok (.aload_n 0, 1) := by decide +kernel
theorem dX9_harvest_193 : decode cX9_harvest 193 = .ok (.getfield 19, 3) := by decide +kernel
theorem dX9_harvest_196 : decode cX9_harvest 196 = .ok (.iload 4, 2) := by decide +kernel
theorem dX9_harvest_198 : decode cX9_harvest 198 = .ok (.iload 9, 2) := by decide +kernel
theorem dX9_harvest_200 : decode cX9_harvest 200 = .ok (.invokestatic 172, 3) := by decide +kernel
theorem dX9_harvest_203 : decode cX9_harvest 203 = .ok (.aload_n 0, 1) := by decide +kernel
theorem dX9_harvest_204 : decode cX9_harvest 204 = .ok (.getfield 19, 3) := by decide +kernel
theorem dX9_harvest_207 : decode cX9_harvest 207 = .ok (.iload 4, 2) := by decide +kernel
theorem dX9_harvest_209 : decode cX9_harvest 209 = .ok (.iload 8, 2) := by decide +kernel
theorem dX9_harvest_211 : decode cX9_harvest 211 = .ok (.invokestatic 172, 3) := by decide +kernel
theorem dX9_harvest_214 : decode cX9_harvest 214 = .ok (.if_icmp .ge 8, 3) := by decide +kernel
theorem dX9_harvest_217 : decode cX9_harvest 217 = .ok (.iload 9, 2) := by decide +kernel
theorem dX9_harvest_219 : decode cX9_harvest 219 = .ok (.goto 5, 3) := by decide +kernel
theorem dX9_harvest_222 : decode cX9_harvest 222 = .ok (.iload 8, 2) := by decide +kernel
theorem dX9_harvest_224 : decode cX9_harvest 224 = .ok (.istore 8, 2) := by decide +kernel
theorem dX9_harvest_226 : decode cX9_harvest 226 = .ok (.iinc 9 1, 3) := by decide +kernel
theorem dX9_harvest_229 : decode cX9_harvest 229 = .ok (.goto (-74), 3) := by decide +kernel
theorem dX9_harvest_232 : decode cX9_harvest 232 = .ok (.iload 6, 2) := by decide +kernel
theorem dX9_harvest_234 : decode cX9_harvest 234 = .ok (.aload_n 0, 1) := by decide +kernel
theorem dX9_harvest_235 : decode cX9_harvest 235 = .ok (.getfield 19, 3) := by decide +kernel
theorem dX9_harvest_238 : decode cX9_harvest 238 = .ok (.iload 4, 2) := by decide +kernel
theorem dX9_harvest_240 : decode cX9_harvest 240 = .ok (.iload 8, 2) := by decide +kernel
theorem dX9_harvest_242 : decode cX9_harvest 242 = .ok (.invokestatic 172, 3) := by decide +kernel
theorem dX9_harvest_245 : decode cX9_harvest 245 = .ok (.iadd, 1) := by decide +kernel
theorem dX9_harvest_246 : decode cX9_harvest 246 = .ok (.istore 6, 2) := by decide +kernel
theorem dX9_harvest_248 : decode cX9_harvest 248 = .ok (.iload 5, 2) := by decide +kernel
theorem dX9_harvest_250 : decode cX9_harvest 250 = .ok (.iconst 1, 1) := by decide +kernel
theorem dX9_harvest_251 : decode cX9_harvest 251 = .ok (.iload 8, 2) := by decide +kernel
theorem dX9_harvest_253 : decode cX9_harvest 253 = .ok (.ishl, 1) := by decide +kernel
theorem dX9_harvest_254 : decode cX9_harvest 254 = .ok (.iconst (-1), 1) := by decide +kernel
theorem dX9_harvest_255 : decode cX9_harvest 255 = .ok (.ixor, 1) := by decide +kernel
theorem dX9_harvest_256 : decode cX9_harvest 256 = .ok (.iand, 1) := by decide +kernel
theorem dX9_harvest_257 : decode cX9_harvest 257 = .ok (.istore 5, 2) := by decide +kernel
theorem dX9_harvest_259 : decode cX9_harvest 259 = .ok (.iinc 7 1, 3) := by decide +kernel
theorem dX9_harvest_262 : decode cX9_harvest 262 = .ok (.goto (-120), 3) := by decide +kernel
theorem dX9_harvest_265 : decode cX9_harvest 265 = .ok (.iload 6, 2) := by decide +kernel
theorem dX9_harvest_267 : decode cX9_harvest 267 = .ok (.ireturn, 1) := by decide +kernel
set_option maxRecDepth 20000 in
theorem ggX9_raised_X9_isThere : GoodIn wsX9_raised wsX9_isThere := goodIn_r _ [15, 8, 45, 46, 47, 48, 49, 50, 51, 52, 53, 54, 55, 56, 57, 58, 59, 60, 61, 62, 63, 64, 65, 66, 67] (by decide +kernel) (by decide +kernel)
set_option maxRecDepth 20000 in
theorem gX9_raised_X9_isThere : GoodIn wsX9_raised (wsV RX9 178 RX9 yX9_isThere wsX9_isThere) := goodIn_app (goodIn_of _ (by decide +kernel)) ggX9_raised_X9_isThere
set_option maxRecDepth 20000 in
theorem ggX9_raised_X9_isRow : GoodIn wsX9_raised wsX9_isRow := goodIn_r _ [18, 19, 20, 21, 14, 22] (by decide +kernel) (by decide +kernel)
set_option maxRecDepth 20000 in
theorem gX9_raised_X9_isRow : GoodIn wsX9_raised (va_wsS RX9 58 yX9_isRow wsX9_isRow) := goodIn_app (goodIn_of _ (by decide +kernel)) ggX9_raised_X9_isRow
set_option maxRecDepth 20000 in
theorem ggX9_raised_X9_in : GoodIn wsX9_raised wsX9_in := goodIn_r _ [22] (by decide +kernel) (by decide +kernel)
set_option maxRecDepth 20000 in
theorem gX9_raised_X9_in : GoodIn wsX9_raised (va_wsS RX9 54 yX9_in wsX9_in) := goodIn_app (goodIn_of _ (by decide +kernel)) ggX9_raised_X9_in
set_option maxRecDepth 20000 in
theorem ggX9_raised_X9_finding : GoodIn wsX9_raised wsX9_finding := goodIn_r _ [26, 7, 27, 45, 46, 47, 48, 49, 50, 51, 52, 53, 54, 55, 56, 57, 58, 59, 60, 61, 62, 63, 64, 65, 66, 67] (by decide +kernel) (by decide +kernel)
set_option maxRecDepth 20000 in
theorem gX9_raised_X9_finding : GoodIn wsX9_raised (wsV RX9 65 RX9 yX9_finding wsX9_finding) := goodIn_app (goodIn_of _ (by decide +kernel)) ggX9_raised_X9_finding
set_option maxRecDepth 20000 in
theorem ggX9_raised_X9_layHour : GoodIn wsX9_raised wsX9_layHour := goodIn_r _ [31, 9, 32, 33, 34, 14, 35, 8, 45, 46, 47, 48, 49, 50, 51, 52, 53, 54, 55, 56, 57, 58, 59, 60, 61, 62, 63, 64, 65, 66, 67] (by decide +kernel) (by decide +kernel)
set_option maxRecDepth 20000 in
theorem gX9_raised_X9_layHour : GoodIn wsX9_raised (wsV RX9 216 RX9 yX9_layHour wsX9_layHour) := goodIn_app (goodIn_of _ (by decide +kernel)) ggX9_raised_X9_layHour
set_option maxRecDepth 20000 in
theorem ggX9_raised_X9_dryOf : GoodIn wsX9_raised wsX9_dryOf := goodIn_r _ [38, 39, 40, 14, 41, 42, 43, 44] (by decide +kernel) (by decide +kernel)
set_option maxRecDepth 20000 in
theorem gX9_raised_X9_dryOf : GoodIn wsX9_raised (va_wsS RX9 219 yX9_dryOf wsX9_dryOf) := goodIn_app (goodIn_of _ (by decide +kernel)) ggX9_raised_X9_dryOf
theorem dX9_raised_0 : decode cX9_raised 0 = .ok (.aload_n 0, 1) := by decide +kernel
theorem dX9_raised_1 : decode cX9_raised 1 = .ok (.iconst 0, 1) := by decide +kernel
theorem dX9_raised_2 : decode cX9_raised 2 = .ok (.putfield 44, 3) := by decide +kernel
theorem dX9_raised_5 : decode cX9_raised 5 = .ok (.aload_n 0, 1) := by decide +kernel
theorem dX9_raised_6 : decode cX9_raised 6 = .ok (.invokevirtual 178, 3) := by decide +kernel
theorem dX9_raised_9 : decode cX9_raised 9 = .ok (.ifCond .ne 6, 3) := by decide +kernel
theorem dX9_raised_12 : decode cX9_raised 12 = .ok (.ldc 181, 2) := by decide +kernel
theorem dX9_raised_14 : decode cX9_raised 14 = .ok (.ireturn, 1) := by decide +kernel
theorem dX9_raised_15 : decode cX9_raised 15 = .ok (.iload_n 1, 1) := by decide +kernel
theorem dX9_raised_16 : decode cX9_raised 16 = .ok (.invokestatic 58, 3) := by decide +kernel
theorem dX9_raised_19 : decode cX9_raised 19 = .ok (.ifCond .eq 15, 3) := by decide +kernel
theorem dX9_raised_22 : decode cX9_raised 22 = .ok (.iload_n 3, 1) := by decide +kernel
theorem dX9_raised_23 : decode cX9_raised 23 = .ok (.i2l, 1) := by decide +kernel
theorem dX9_raised_24 : decode cX9_raised 24 = .ok (.lconst 1, 1) := by decide +kernel
theorem dX9_raised_25 : decode cX9_raised 25 = .ok (.ldc2_w 231, 3) := by decide +kernel
theorem dX9_raised_28 : decode cX9_raised 28 = .ok (.invokestatic 54, 3) := by decide +kernel
theorem dX9_raised_31 : decode cX9_raised 31 = .ok (.ifCond .ne 6, 3) := by decide +kernel
theorem dX9_raised_34 : decode cX9_raised 34 = .ok (.ldc 64, 2) := by decide +kernel
theorem dX9_raised_36 : decode cX9_raised 36 = .ok (.ireturn, 1) := by decide +kernel
theorem dX9_raised_37 : decode cX9_raised 37 = .ok (.aload_n 0, 1) := by decide +kernel
theorem dX9_raised_38 : decode cX9_raised 38 = .ok (.getfield 7, 3) := by decide +kernel
theorem dX9_raised_41 : decode cX9_raised 41 = .ok (.iload_n 1, 1) := by decide +kernel
theorem dX9_raised_42 : decode cX9_raised 42 = .ok (.iaload, 1) := by decide +kernel
theorem dX9_raised_43 : decode cX9_raised 43 = .ok (.ifCond .ge 9, 3) := by decide +kernel
theorem dX9_raised_46 : decode cX9_raised 46 = .ok (.aload_n 0, 1) := by decide +kernel
theorem dX9_raised_47 : decode cX9_raised 47 = .ok (.iconst 1, 1) := by decide +kernel
theorem dX9_raised_48 : decode cX9_raised 48 = .ok (.invokevirtual 65, 3) := by decide +kernel
theorem dX9_raised_51 : decode cX9_raised 51 = .ok (.ireturn, 1) := by decide +kernel
theorem dX9_raised_52 : decode cX9_raised 52 = .ok (.iload_n 2, 1) := by decide +kernel
theorem dX9_raised_53 : decode cX9_raised 53 = .ok (.ifCond .lt 19, 3) := by decide +kernel
theorem dX9_raised_56 : decode cX9_raised 56 = .ok (.iload_n 2, 1) := by decide +kernel
theorem dX9_raised_57 : decode cX9_raised 57 = .ok (.i2l, 1) := by decide +kernel
theorem dX9_raised_58 : decode cX9_raised 58 = .ok (.iload_n 3, 1) := by decide +kernel
theorem dX9_raised_59 : decode cX9_raised 59 = .ok (.i2l, 1) := by decide +kernel
theorem dX9_raised_60 : decode cX9_raised 60 = .ok (.ladd, 1) := by decide +kernel
theorem dX9_raised_61 : decode cX9_raised 61 = .ok (.aload_n 0, 1) := by decide +kernel
theorem dX9_raised_62 : decode cX9_raised 62 = .ok (.getfield 13, 3) := by decide +kernel
theorem dX9_raised_65 : decode cX9_raised 65 = .ok (.iload_n 1, 1) := by decide +kernel
theorem dX9_raised_66 : decode cX9_raised 66 = .ok (.iaload, 1) := by decide +kernel
theorem dX9_raised_67 : decode cX9_raised 67 = .ok (.i2l, 1) := by decide +kernel
theorem dX9_raised_68 : decode cX9_raised 68 = .ok (.lcmp, 1) := by decide +kernel
theorem dX9_raised_69 : decode cX9_raised 69 = .ok (.ifCond .le 9, 3) := by decide +kernel
theorem dX9_raised_72 : decode cX9_raised 72 = .ok (.aload_n 0, 1) := by decide +kernel
theorem dX9_raised_73 : decode cX9_raised 73 = .ok (.iconst 2, 1) := by decide +kernel
theorem dX9_raised_74 : decode cX9_raised 74 = .ok (.invokevirtual 65, 3) := by decide +kernel
theorem dX9_raised_77 : decode cX9_raised 77 = .ok (.ireturn, 1) := by decide +kernel
theorem dX9_raised_78 : decode cX9_raised 78 = .ok (.aload_n 0, 1) := by decide +kernel
theorem dX9_raised_79 : decode cX9_raised 79 = .ok (.iconst 0, 1) := by decide +kernel
theorem dX9_raised_80 : decode cX9_raised 80 = .ok (.putfield 48, 3) := by decide +kernel
theorem dX9_raised_83 : decode cX9_raised 83 = .ok (.iconst 0, 1) := by decide +kernel
theorem dX9_raised_84 : decode cX9_raised 84 = .ok (.istore 4, 2) := by decide +kernel
theorem dX9_raised_86 : decode cX9_raised 86 = .ok (.iconst 0, 1) := by decide +kernel
theorem dX9_raised_87 : decode cX9_raised 87 = .ok (.istore 5, 2) := by decide +kernel
theorem dX9_raised_89 : decode cX9_raised 89 = .ok (.iload 5, 2) := by decide +kernel
theorem dX9_raised_91 : decode cX9_raised 91 = .ok (.bipush 15, 2) := by decide +kernel
theorem dX9_raised_93 : decode cX9_raised 93 = .ok (.if_icmp .ge 122, 3) := by decide +kernel
theorem dX9_raised_96 : decode cX9_raised 96 = .ok (.aload_n 0, 1) := by decide +kernel
theorem dX9_raised_97 : decode cX9_raised 97 = .ok (.getfield 19, 3) := by decide +kernel
theorem dX9_raised_100 : decode cX9_raised 100 = .ok (.bipush 6, 2) := by decide +kernel
theorem dX9_raised_102 : decode cX9_raised 102 = .ok (.iload 5, 2) := by decide +kernel
theorem dX9_raised_104 : decode cX9_raised 104 = .ok (.iadd, 1) := by decide +kernel
theorem dX9_raised_105 : decode cX9_raised 105 = .ok (.iaload, 1) := by decide +kernel
theorem dX9_raised_106 : decode cX9_raised 106 = .ok (.bipush 9, 2) := by decide +kernel
theorem dX9_raised_108 : decode cX9_raised 108 = .ok (.if_icmp .ge 7, 3) := by decide +kernel
theorem dX9_raised_111 : decode cX9_raised 111 = .ok (.iconst 1, 1) := by decide +kernel
theorem dX9_raised_112 : decode cX9_raised 112 = .ok (.goto 4, 3) := by decide +kernel
theorem dX9_raised_115 : decode cX9_raised 115 = .ok (.iconst 0, 1) := by decide +kernel
theorem dX9_raised_116 : decode cX9_raised 116 = .ok (.istore 6, 2) := by decide +kernel
theorem dX9_raised_118 : decode cX9_raised 118 = .ok (.iconst 0, 1) := by decide +kernel
theorem dX9_raised_119 : decode cX9_raised 119 = .ok (.istore 7, 2) := by decide +kernel
