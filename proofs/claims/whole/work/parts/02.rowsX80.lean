set_option maxRecDepth 20000 in
theorem ggX8_init_X5_init : GoodIn wsX8_init wsX5_init := goodIn_r _ [34, 35, 2, 3, 36, 37, 38, 39, 74, 75, 76] (by decide +kernel) (by decide +kernel)
set_option maxRecDepth 20000 in
theorem gX8_init_X5_init : GoodIn wsX8_init (wsX5_init) := ggX8_init_X5_init
set_option maxRecDepth 20000 in
theorem ggX8_init_X7_init : GoodIn wsX8_init wsX7_init := goodIn_r _ [42, 43, 2, 3, 36, 44, 87, 88, 89, 90, 91] (by decide +kernel) (by decide +kernel)
set_option maxRecDepth 20000 in
theorem gX8_init_X7_init : GoodIn wsX8_init (wsX7_init) := ggX8_init_X7_init
set_option maxRecDepth 20000 in
theorem ggX8_init_X3_init : GoodIn wsX8_init wsX3_init := goodIn_r _ [47, 48, 2, 3, 36, 49, 50, 51, 52, 53, 54, 55, 56, 14, 57, 92, 93, 94, 95, 96, 97, 98, 99, 100, 101, 102] (by decide +kernel) (by decide +kernel)
set_option maxRecDepth 20000 in
theorem gX8_init_X3_init : GoodIn wsX8_init (wsX3_init) := ggX8_init_X3_init
set_option maxRecDepth 20000 in
theorem ggX8_init_X0_init : GoodIn wsX8_init wsX0_init := goodIn_r _ [60, 61, 2, 3, 36, 62, 103, 104, 105] (by decide +kernel) (by decide +kernel)
set_option maxRecDepth 20000 in
theorem gX8_init_X0_init : GoodIn wsX8_init (wsX0_init) := ggX8_init_X0_init
set_option maxRecDepth 20000 in
theorem ggX8_init_X2_init : GoodIn wsX8_init wsX2_init := goodIn_r _ [65, 66, 2, 3, 36, 67, 68, 106, 107, 108] (by decide +kernel) (by decide +kernel)
set_option maxRecDepth 20000 in
theorem gX8_init_X2_init : GoodIn wsX8_init (wsX2_init) := ggX8_init_X2_init
set_option maxRecDepth 20000 in
theorem ggX8_init_X1_init : GoodIn wsX8_init wsX1_init := goodIn_r _ [71, 72, 2, 3, 36, 73, 109, 110, 111, 112, 113, 114] (by decide +kernel) (by decide +kernel)
set_option maxRecDepth 20000 in
theorem gX8_init_X1_init : GoodIn wsX8_init (wsX1_init) := ggX8_init_X1_init
theorem dX8_init_0 : decode cX8_init 0 = .ok (.aload_n 0, 1) := by decide +kernel
theorem dX8_init_1 : decode cX8_init 1 = .ok (.invokespecial 3, 3) := by decide +kernel
theorem dX8_init_4 : decode cX8_init 4 = .ok (.aload_n 0, 1) := by decide +kernel
theorem dX8_init_5 : decode cX8_init 5 = .ok (.new 9, 3) := by decide +kernel
theorem dX8_init_8 : decode cX8_init 8 = .ok (.dup, 1) := by decide +kernel
theorem dX8_init_9 : decode cX8_init 9 = .ok (.invokespecial 11, 3) := by decide +kernel
theorem dX8_init_12 : decode cX8_init 12 = .ok (.putfield 12, 3) := by decide +kernel
theorem dX8_init_15 : decode cX8_init 15 = .ok (.aload_n 0, 1) := by decide +kernel
theorem dX8_init_16 : decode cX8_init 16 = .ok (.new 16, 3) := by decide +kernel
theorem dX8_init_19 : decode cX8_init 19 = .ok (.dup, 1) := by decide +kernel
theorem dX8_init_20 : decode cX8_init 20 = .ok (.invokespecial 18, 3) := by decide +kernel
theorem dX8_init_23 : decode cX8_init 23 = .ok (.putfield 19, 3) := by decide +kernel
theorem dX8_init_26 : decode cX8_init 26 = .ok (.aload_n 0, 1) := by decide +kernel
theorem dX8_init_27 : decode cX8_init 27 = .ok (.new 23, 3) := by decide +kernel
theorem dX8_init_30 : decode cX8_init 30 = .ok (.dup, 1) := by decide +kernel
theorem dX8_init_31 : decode cX8_init 31 = .ok (.invokespecial 25, 3) := by decide +kernel
theorem dX8_init_34 : decode cX8_init 34 = .ok (.putfield 26, 3) := by decide +kernel
theorem dX8_init_37 : decode cX8_init 37 = .ok (.aload_n 0, 1) := by decide +kernel
theorem dX8_init_38 : decode cX8_init 38 = .ok (.new 23, 3) := by decide +kernel
theorem dX8_init_41 : decode cX8_init 41 = .ok (.dup, 1) := by decide +kernel
theorem dX8_init_42 : decode cX8_init 42 = .ok (.invokespecial 25, 3) := by decide +kernel
theorem dX8_init_45 : decode cX8_init 45 = .ok (.putfield 30, 3) := by decide +kernel
theorem dX8_init_48 : decode cX8_init 48 = .ok (.aload_n 0, 1) := by decide +kernel
theorem dX8_init_49 : decode cX8_init 49 = .ok (.new 23, 3) := by decide +kernel
theorem dX8_init_52 : decode cX8_init 52 = .ok (.dup, 1) := by decide +kernel
theorem dX8_init_53 : decode cX8_init 53 = .ok (.invokespecial 25, 3) := by decide +kernel
theorem dX8_init_56 : decode cX8_init 56 = .ok (.putfield 33, 3) := by decide +kernel
theorem dX8_init_59 : decode cX8_init 59 = .ok (.aload_n 0, 1) := by decide +kernel
theorem dX8_init_60 : decode cX8_init 60 = .ok (.new 23, 3) := by decide +kernel
theorem dX8_init_63 : decode cX8_init 63 = .ok (.dup, 1) := by decide +kernel
theorem dX8_init_64 : decode cX8_init 64 = .ok (.invokespecial 25, 3) := by decide +kernel
theorem dX8_init_67 : decode cX8_init 67 = .ok (.putfield 36, 3) := by decide +kernel
theorem dX8_init_70 : decode cX8_init 70 = .ok (.aload_n 0, 1) := by decide +kernel
theorem dX8_init_71 : decode cX8_init 71 = .ok (.new 39, 3) := by decide +kernel
theorem dX8_init_74 : decode cX8_init 74 = .ok (.dup, 1) := by decide +kernel
theorem dX8_init_75 : decode cX8_init 75 = .ok (.invokespecial 41, 3) := by decide +kernel
theorem dX8_init_78 : decode cX8_init 78 = .ok (.putfield 42, 3) := by decide +kernel
theorem dX8_init_81 : decode cX8_init 81 = .ok (.aload_n 0, 1) := by decide +kernel
theorem dX8_init_82 : decode cX8_init 82 = .ok (.new 46, 3) := by decide +kernel
theorem dX8_init_85 : decode cX8_init 85 = .ok (.dup, 1) := by decide +kernel
theorem dX8_init_86 : decode cX8_init 86 = .ok (.invokespecial 48, 3) := by decide +kernel
theorem dX8_init_89 : decode cX8_init 89 = .ok (.putfield 49, 3) := by decide +kernel
theorem dX8_init_92 : decode cX8_init 92 = .ok (.aload_n 0, 1) := by decide +kernel
theorem dX8_init_93 : decode cX8_init 93 = .ok (.new 53, 3) := by decide +kernel
theorem dX8_init_96 : decode cX8_init 96 = .ok (.dup, 1) := by decide +kernel
theorem dX8_init_97 : decode cX8_init 97 = .ok (.invokespecial 55, 3) := by decide +kernel
theorem dX8_init_100 : decode cX8_init 100 = .ok (.putfield 56, 3) := by decide +kernel
theorem dX8_init_103 : decode cX8_init 103 = .ok (.aload_n 0, 1) := by decide +kernel
theorem dX8_init_104 : decode cX8_init 104 = .ok (.iconst 0, 1) := by decide +kernel
theorem dX8_init_105 : decode cX8_init 105 = .ok (.putfield 60, 3) := by decide +kernel
theorem dX8_init_108 : decode cX8_init 108 = .ok (.return_, 1) := by decide +kernel
set_option maxRecDepth 20000 in
theorem ggX8_row_X5_isRow : GoodIn wsX8_row wsX5_isRow := goodIn_r _ [6] (by decide +kernel) (by decide +kernel)
set_option maxRecDepth 20000 in
theorem gX8_row_X5_isRow : GoodIn wsX8_row (va_wsS RX8 64 yX5_isRow wsX5_isRow) := goodIn_app (goodIn_of _ (by decide +kernel)) ggX8_row_X5_isRow
set_option maxRecDepth 20000 in
theorem ggX8_row_X8_found : GoodIn wsX8_row wsX8_found := goodIn_r _ [11, 12, 13, 25, 26, 27, 28, 29, 30, 31, 32, 33, 34] (by decide +kernel) (by decide +kernel)
set_option maxRecDepth 20000 in
theorem gX8_row_X8_found : GoodIn wsX8_row (wsV RX8 69 RX8 yX8_found wsX8_found) := goodIn_app (goodIn_of _ (by decide +kernel)) ggX8_row_X8_found
set_option maxRecDepth 20000 in
theorem ggX8_row_X5_make : GoodIn wsX8_row wsX5_make := goodIn_r _ [17, 18, 19, 20, 35, 36, 37] (by decide +kernel) (by decide +kernel)
set_option maxRecDepth 20000 in
theorem gX8_row_X5_make : GoodIn wsX8_row (wsV RX8 73 RX5 yX5_make wsX5_make) := goodIn_app (goodIn_of _ (by decide +kernel)) ggX8_row_X5_make
set_option maxRecDepth 20000 in
theorem ggX8_row_X8_unfound : GoodIn wsX8_row wsX8_unfound := goodIn_r _ [24, 12, 25, 26, 27, 28, 29, 30, 31, 32, 33, 34] (by decide +kernel) (by decide +kernel)
set_option maxRecDepth 20000 in
theorem gX8_row_X8_unfound : GoodIn wsX8_row (wsV RX8 77 RX8 yX8_unfound wsX8_unfound) := goodIn_app (goodIn_of _ (by decide +kernel)) ggX8_row_X8_unfound
theorem dX8_row_0 : decode cX8_row 0 = .ok (.iload_n 1, 1) := by decide +kernel
theorem dX8_row_1 : decode cX8_row 1 = .ok (.invokestatic 64, 3) := by decide +kernel
theorem dX8_row_4 : decode cX8_row 4 = .ok (.ifCond .eq 18, 3) := by decide +kernel
theorem dX8_row_7 : decode cX8_row 7 = .ok (.iload_n 2, 1) := by decide +kernel
theorem dX8_row_8 : decode cX8_row 8 = .ok (.ifCond .lt 14, 3) := by decide +kernel
theorem dX8_row_11 : decode cX8_row 11 = .ok (.iload_n 2, 1) := by decide +kernel
theorem dX8_row_12 : decode cX8_row 12 = .ok (.iconst 2, 1) := by decide +kernel
theorem dX8_row_13 : decode cX8_row 13 = .ok (.if_icmp .gt 9, 3) := by decide +kernel
theorem dX8_row_16 : decode cX8_row 16 = .ok (.iload_n 3, 1) := by decide +kernel
theorem dX8_row_17 : decode cX8_row 17 = .ok (.bipush 40, 2) := by decide +kernel
theorem dX8_row_19 : decode cX8_row 19 = .ok (.if_icmp .le 6, 3) := by decide +kernel
theorem dX8_row_22 : decode cX8_row 22 = .ok (.ldc 68, 2) := by decide +kernel
theorem dX8_row_24 : decode cX8_row 24 = .ok (.ireturn, 1) := by decide +kernel
theorem dX8_row_25 : decode cX8_row 25 = .ok (.iload_n 3, 1) := by decide +kernel
theorem dX8_row_26 : decode cX8_row 26 = .ok (.ifCond .ge 9, 3) := by decide +kernel
theorem dX8_row_29 : decode cX8_row 29 = .ok (.aload_n 0, 1) := by decide +kernel
theorem dX8_row_30 : decode cX8_row 30 = .ok (.iconst 4, 1) := by decide +kernel
theorem dX8_row_31 : decode cX8_row 31 = .ok (.invokevirtual 69, 3) := by decide +kernel
theorem dX8_row_34 : decode cX8_row 34 = .ok (.ireturn, 1) := by decide +kernel
theorem dX8_row_35 : decode cX8_row 35 = .ok (.aload_n 0, 1) := by decide +kernel
theorem dX8_row_36 : decode cX8_row 36 = .ok (.getfield 12, 3) := by decide +kernel
theorem dX8_row_39 : decode cX8_row 39 = .ok (.iload_n 1, 1) := by decide +kernel
theorem dX8_row_40 : decode cX8_row 40 = .ok (.iload_n 2, 1) := by decide +kernel
theorem dX8_row_41 : decode cX8_row 41 = .ok (.iload_n 3, 1) := by decide +kernel
theorem dX8_row_42 : decode cX8_row 42 = .ok (.invokevirtual 73, 3) := by decide +kernel
theorem dX8_row_45 : decode cX8_row 45 = .ok (.aload_n 0, 1) := by decide +kernel
theorem dX8_row_46 : decode cX8_row 46 = .ok (.iload_n 3, 1) := by decide +kernel
theorem dX8_row_47 : decode cX8_row 47 = .ok (.invokevirtual 77, 3) := by decide +kernel
theorem dX8_row_50 : decode cX8_row 50 = .ok (.ireturn, 1) := by decide +kernel
set_option maxRecDepth 20000 in
theorem ggX8_set_X5_isRow : GoodIn wsX8_set wsX5_isRow := goodIn_r _ [6] (by decide +kernel) (by decide +kernel)
set_option maxRecDepth 20000 in
theorem gX8_set_X5_isRow : GoodIn wsX8_set (va_wsS RX8 64 yX5_isRow wsX5_isRow) := goodIn_app (goodIn_of _ (by decide +kernel)) ggX8_set_X5_isRow
set_option maxRecDepth 20000 in
theorem ggX8_set_X5_isMissing : GoodIn wsX8_set wsX5_isMissing := goodIn_r _ [10, 11, 43, 44, 45] (by decide +kernel) (by decide +kernel)
set_option maxRecDepth 20000 in
theorem gX8_set_X5_isMissing : GoodIn wsX8_set (wsV RX8 80 RX5 yX5_isMissing wsX5_isMissing) := goodIn_app (goodIn_of _ (by decide +kernel)) ggX8_set_X5_isMissing
set_option maxRecDepth 20000 in
theorem ggX8_set_X8_found : GoodIn wsX8_set wsX8_found := goodIn_r _ [16, 17, 18, 33, 34, 35, 36, 37, 38, 39, 40, 41, 42] (by decide +kernel) (by decide +kernel)
set_option maxRecDepth 20000 in
theorem gX8_set_X8_found : GoodIn wsX8_set (wsV RX8 69 RX8 yX8_found wsX8_found) := goodIn_app (goodIn_of _ (by decide +kernel)) ggX8_set_X8_found
set_option maxRecDepth 20000 in
theorem ggX8_set_X5_hasPlaces : GoodIn wsX8_set wsX5_hasPlaces := goodIn_r _ [22, 23, 43, 44, 45] (by decide +kernel) (by decide +kernel)
set_option maxRecDepth 20000 in
theorem gX8_set_X5_hasPlaces : GoodIn wsX8_set (wsV RX8 83 RX5 yX5_hasPlaces wsX5_hasPlaces) := goodIn_app (goodIn_of _ (by decide +kernel)) ggX8_set_X5_hasPlaces
set_option maxRecDepth 20000 in
theorem ggX8_set_X5_put : GoodIn wsX8_set wsX5_put := goodIn_r _ [27, 11, 28, 43, 44, 45] (by decide +kernel) (by decide +kernel)
set_option maxRecDepth 20000 in
theorem gX8_set_X5_put : GoodIn wsX8_set (wsV RX8 87 RX5 yX5_put wsX5_put) := goodIn_app (goodIn_of _ (by decide +kernel)) ggX8_set_X5_put
set_option maxRecDepth 20000 in
theorem ggX8_set_X8_unfound : GoodIn wsX8_set wsX8_unfound := goodIn_r _ [32, 17, 33, 34, 35, 36, 37, 38, 39, 40, 41, 42] (by decide +kernel) (by decide +kernel)
set_option maxRecDepth 20000 in
theorem gX8_set_X8_unfound : GoodIn wsX8_set (wsV RX8 77 RX8 yX8_unfound wsX8_unfound) := goodIn_app (goodIn_of _ (by decide +kernel)) ggX8_set_X8_unfound
theorem dX8_set_0 : decode cX8_set 0 = .ok (.iload_n 1, 1) := by decide +kernel
theorem dX8_set_1 : decode cX8_set 1 = .ok (.invokestatic 64, 3) := by decide +kernel
theorem dX8_set_4 : decode cX8_set 4 = .ok (.ifCond .ne 6, 3) := by decide +kernel
theorem dX8_set_7 : decode cX8_set 7 = .ok (.ldc 68, 2) := by decide +kernel
theorem dX8_set_9 : decode cX8_set 9 = .ok (.ireturn, 1) := by decide +kernel
theorem dX8_set_10 : decode cX8_set 10 = .ok (.aload_n 0, 1) := by decide +kernel
theorem dX8_set_11 : decode cX8_set 11 = .ok (.getfield 12, 3) := by decide +kernel
theorem dX8_set_14 : decode cX8_set 14 = .ok (.iload_n 1, 1) := by decide +kernel
theorem dX8_set_15 : decode cX8_set 15 = .ok (.invokevirtual 80, 3) := by decide +kernel
theorem dX8_set_18 : decode cX8_set 18 = .ok (.ifCond .eq 9, 3) := by decide +kernel
theorem dX8_set_21 : decode cX8_set 21 = .ok (.aload_n 0, 1) := by decide +kernel
theorem dX8_set_22 : decode cX8_set 22 = .ok (.iconst 1, 1) := by decide +kernel
theorem dX8_set_23 : decode cX8_set 23 = .ok (.invokevirtual 69, 3) := by decide +kernel
theorem dX8_set_26 : decode cX8_set 26 = .ok (.ireturn, 1) := by decide +kernel
theorem dX8_set_27 : decode cX8_set 27 = .ok (.aload_n 0, 1) := by decide +kernel
theorem dX8_set_28 : decode cX8_set 28 = .ok (.getfield 12, 3) := by decide +kernel
theorem dX8_set_31 : decode cX8_set 31 = .ok (.iload_n 1, 1) := by decide +kernel
theorem dX8_set_32 : decode cX8_set 32 = .ok (.iload_n 2, 1) := by decide +kernel
theorem dX8_set_33 : decode cX8_set 33 = .ok (.iconst 1, 1) := by decide +kernel
theorem dX8_set_34 : decode cX8_set 34 = .ok (.invokevirtual 83, 3) := by decide +kernel
theorem dX8_set_37 : decode cX8_set 37 = .ok (.ifCond .ne 9, 3) := by decide +kernel
theorem dX8_set_40 : decode cX8_set 40 = .ok (.aload_n 0, 1) := by decide +kernel
theorem dX8_set_41 : decode cX8_set 41 = .ok (.iconst 2, 1) := by decide +kernel
theorem dX8_set_42 : decode cX8_set 42 = .ok (.invokevirtual 69, 3) := by decide +kernel
theorem dX8_set_45 : decode cX8_set 45 = .ok (.ireturn, 1) := by decide +kernel
theorem dX8_set_46 : decode cX8_set 46 = .ok (.aload_n 0, 1) := by decide +kernel
theorem dX8_set_47 : decode cX8_set 47 = .ok (.aload_n 0, 1) := by decide +kernel
theorem dX8_set_48 : decode cX8_set 48 = .ok (.getfield 12, 3) := by decide +kernel
theorem dX8_set_51 : decode cX8_set 51 = .ok (.iload_n 1, 1) := by decide +kernel
theorem dX8_set_52 : decode cX8_set 52 = .ok (.iload_n 2, 1) := by decide +kernel
theorem dX8_set_53 : decode cX8_set 53 = .ok (.iload_n 3, 1) := by decide +kernel
theorem dX8_set_54 : decode cX8_set 54 = .ok (.invokevirtual 87, 3) := by decide +kernel
theorem dX8_set_57 : decode cX8_set 57 = .ok (.invokevirtual 77, 3) := by decide +kernel
theorem dX8_set_60 : decode cX8_set 60 = .ok (.ireturn, 1) := by decide +kernel
set_option maxRecDepth 20000 in
theorem ggX8_copy_X5_isRow : GoodIn wsX8_copy wsX5_isRow := goodIn_r _ [6] (by decide +kernel) (by decide +kernel)
set_option maxRecDepth 20000 in
theorem gX8_copy_X5_isRow : GoodIn wsX8_copy (va_wsS RX8 64 yX5_isRow wsX5_isRow) := goodIn_app (goodIn_of _ (by decide +kernel)) ggX8_copy_X5_isRow
set_option maxRecDepth 20000 in
theorem ggX8_copy_X5_isMissing : GoodIn wsX8_copy wsX5_isMissing := goodIn_r _ [10, 11, 51, 52, 53] (by decide +kernel) (by decide +kernel)
set_option maxRecDepth 20000 in
theorem gX8_copy_X5_isMissing : GoodIn wsX8_copy (wsV RX8 80 RX5 yX5_isMissing wsX5_isMissing) := goodIn_app (goodIn_of _ (by decide +kernel)) ggX8_copy_X5_isMissing
set_option maxRecDepth 20000 in
theorem ggX8_copy_X8_found : GoodIn wsX8_copy wsX8_found := goodIn_r _ [16, 17, 18, 41, 42, 43, 44, 45, 46, 47, 48, 49, 50] (by decide +kernel) (by decide +kernel)
set_option maxRecDepth 20000 in
theorem gX8_copy_X8_found : GoodIn wsX8_copy (wsV RX8 69 RX8 yX8_found wsX8_found) := goodIn_app (goodIn_of _ (by decide +kernel)) ggX8_copy_X8_found
set_option maxRecDepth 20000 in
theorem ggX8_copy_X5_lane : GoodIn wsX8_copy wsX5_lane := goodIn_r _ [22, 11, 51, 52, 53] (by decide +kernel) (by decide +kernel)
set_option maxRecDepth 20000 in
theorem gX8_copy_X5_lane : GoodIn wsX8_copy (wsV RX8 91 RX5 yX5_lane wsX5_lane) := goodIn_app (goodIn_of _ (by decide +kernel)) ggX8_copy_X5_lane
set_option maxRecDepth 20000 in
theorem ggX8_copy_X5_hasPlaces : GoodIn wsX8_copy wsX5_hasPlaces := goodIn_r _ [26, 27, 51, 52, 53] (by decide +kernel) (by decide +kernel)
set_option maxRecDepth 20000 in
theorem gX8_copy_X5_hasPlaces : GoodIn wsX8_copy (wsV RX8 83 RX5 yX5_hasPlaces wsX5_hasPlaces) := goodIn_app (goodIn_of _ (by decide +kernel)) ggX8_copy_X5_hasPlaces
set_option maxRecDepth 20000 in
theorem ggX8_copy_X5_move : GoodIn wsX8_copy wsX5_move := goodIn_r _ [31, 32, 33, 34, 35, 36, 51, 52, 53] (by decide +kernel) (by decide +kernel)
set_option maxRecDepth 20000 in
theorem gX8_copy_X5_move : GoodIn wsX8_copy (wsV RX8 94 RX5 yX5_move wsX5_move) := goodIn_app (goodIn_of _ (by decide +kernel)) ggX8_copy_X5_move
set_option maxRecDepth 20000 in
theorem ggX8_copy_X8_unfound : GoodIn wsX8_copy wsX8_unfound := goodIn_r _ [40, 17, 41, 42, 43, 44, 45, 46, 47, 48, 49, 50] (by decide +kernel) (by decide +kernel)
set_option maxRecDepth 20000 in
theorem gX8_copy_X8_unfound : GoodIn wsX8_copy (wsV RX8 77 RX8 yX8_unfound wsX8_unfound) := goodIn_app (goodIn_of _ (by decide +kernel)) ggX8_copy_X8_unfound
theorem dX8_copy_0 : decode cX8_copy 0 = .ok (.iload_n 1, 1) := by decide +kernel
theorem dX8_copy_1 : decode cX8_copy 1 = .ok (.invokestatic 64, 3) := by decide +kernel
theorem dX8_copy_4 : decode cX8_copy 4 = .ok (.ifCond .eq 10, 3) := by decide +kernel
theorem dX8_copy_7 : decode cX8_copy 7 = .ok (.iload_n 3, 1) := by decide +kernel
theorem dX8_copy_8 : decode cX8_copy 8 = .ok (.invokestatic 64, 3) := by decide +kernel
theorem dX8_copy_11 : decode cX8_copy 11 = .ok (.ifCond .ne 6, 3) := by decide +kernel
theorem dX8_copy_14 : decode cX8_copy 14 = .ok (.ldc 68, 2) := by decide +kernel
theorem dX8_copy_16 : decode cX8_copy 16 = .ok (.ireturn, 1) := by decide +kernel
theorem dX8_copy_17 : decode cX8_copy 17 = .ok (.aload_n 0, 1) := by decide +kernel
theorem dX8_copy_18 : decode cX8_copy 18 = .ok (.getfield 12, 3) := by decide +kernel
theorem dX8_copy_21 : decode cX8_copy 21 = .ok (.iload_n 1, 1) := by decide +kernel
theorem dX8_copy_22 : decode cX8_copy 22 = .ok (.invokevirtual 80, 3) := by decide +kernel
theorem dX8_copy_25 : decode cX8_copy 25 = .ok (.ifCond .ne 14, 3) := by decide +kernel
theorem dX8_copy_28 : decode cX8_copy 28 = .ok (.aload_n 0, 1) := by decide +kernel
theorem dX8_copy_29 : decode cX8_copy 29 = .ok (.getfield 12, 3) := by decide +kernel
theorem dX8_copy_32 : decode cX8_copy 32 = .ok (.iload_n 3, 1) := by decide +kernel
theorem dX8_copy_33 : decode cX8_copy 33 = .ok (.invokevirtual 80, 3) := by decide +kernel
theorem dX8_copy_36 : decode cX8_copy 36 = .ok (.ifCond .eq 9, 3) := by decide +kernel
theorem dX8_copy_39 : decode cX8_copy 39 = .ok (.aload_n 0, 1) := by decide +kernel
theorem dX8_copy_40 : decode cX8_copy 40 = .ok (.iconst 1, 1) := by decide +kernel
theorem dX8_copy_41 : decode cX8_copy 41 = .ok (.invokevirtual 69, 3) := by decide +kernel
theorem dX8_copy_44 : decode cX8_copy 44 = .ok (.ireturn, 1) := by decide +kernel
theorem dX8_copy_45 : decode cX8_copy 45 = .ok (.aload_n 0, 1) := by decide +kernel
theorem dX8_copy_46 : decode cX8_copy 46 = .ok (.getfield 12, 3) := by decide +kernel
theorem dX8_copy_49 : decode cX8_copy 49 = .ok (.iload_n 1, 1) := by decide +kernel
theorem dX8_copy_50 : decode cX8_copy 50 = .ok (.invokevirtual 91, 3) := by decide +kernel
theorem dX8_copy_53 : decode cX8_copy 53 = .ok (.aload_n 0, 1) := by decide +kernel
theorem dX8_copy_54 : decode cX8_copy 54 = .ok (.getfield 12, 3) := by decide +kernel
theorem dX8_copy_57 : decode cX8_copy 57 = .ok (.iload_n 3, 1) := by decide +kernel
theorem dX8_copy_58 : decode cX8_copy 58 = .ok (.invokevirtual 91, 3) := by decide +kernel
theorem dX8_copy_61 : decode cX8_copy 61 = .ok (.if_icmp .eq 9, 3) := by decide +kernel
theorem dX8_copy_64 : decode cX8_copy 64 = .ok (.aload_n 0, 1) := by decide +kernel
theorem dX8_copy_65 : decode cX8_copy 65 = .ok (.iconst 5, 1) := by decide +kernel
theorem dX8_copy_66 : decode cX8_copy 66 = .ok (.invokevirtual 69, 3) := by decide +kernel
theorem dX8_copy_69 : decode cX8_copy 69 = .ok (.ireturn, 1) := by decide +kernel
theorem dX8_copy_70 : decode cX8_copy 70 = .ok (.aload_n 0, 1) := by decide +kernel
theorem dX8_copy_71 : decode cX8_copy 71 = .ok (.getfield 12, 3) := by decide +kernel
theorem dX8_copy_74 : decode cX8_copy 74 = .ok (.iload_n 1, 1) := by decide +kernel
theorem dX8_copy_75 : decode cX8_copy 75 = .ok (.iload_n 2, 1) := by decide +kernel
theorem dX8_copy_76 : decode cX8_copy 76 = .ok (.iload 5, 2) := by decide +kernel
theorem dX8_copy_78 : decode cX8_copy 78 = .ok (.invokevirtual 83, 3) := by decide +kernel
theorem dX8_copy_81 : decode cX8_copy 81 = .ok (.ifCond .eq 18, 3) := by decide +kernel
theorem dX8_copy_84 : decode cX8_copy 84 = .ok (.aload_n 0, 1) := by decide +kernel
theorem dX8_copy_85 : decode cX8_copy 85 = .ok (.getfield 12, 3) := by decide +kernel
theorem dX8_copy_88 : decode cX8_copy 88 = .ok (.iload_n 3, 1) := by decide +kernel
theorem dX8_copy_89 : decode cX8_copy 89 = .ok (.iload 4, 2) := by decide +kernel
theorem dX8_copy_91 : decode cX8_copy 91 = .ok (.iload 5, 2) := by decide +kernel
theorem dX8_copy_93 : decode cX8_copy 93 = .ok (.invokevirtual 83, 3) := by decide +kernel
theorem dX8_copy_96 : decode cX8_copy 96 = .ok (.ifCond .ne 9, 3) := by decide +kernel
theorem dX8_copy_99 : decode cX8_copy 99 = .ok (.aload_n 0, 1) := by decide +kernel
theorem dX8_copy_100 : decode cX8_copy 100 = .ok (.iconst 2, 1) := by decide +kernel
theorem dX8_copy_101 : decode cX8_copy 101 = .ok (.invokevirtual 69, 3) := by decide +kernel
theorem dX8_copy_104 : decode cX8_copy 104 = .ok (.ireturn, 1) := by decide +kernel
theorem dX8_copy_105 : decode cX8_copy 105 = .ok (.aload_n 0, 1) := by decide +kernel
theorem dX8_copy_106 : decode cX8_copy 106 = .ok (.getfield 12, 3) := by decide +kernel
theorem dX8_copy_109 : decode cX8_copy 109 = .ok (.iload_n 1, 1) := by decide +kernel
theorem dX8_copy_110 : decode cX8_copy 110 = .ok (.iload_n 2, 1) := by decide +kernel
theorem dX8_copy_111 : decode cX8_copy 111 = .ok (.iload_n 3, 1) := by decide +kernel
theorem dX8_copy_112 : decode cX8_copy 112 = .ok (.iload 4, 2) := by decide +kernel
theorem dX8_copy_114 : decode cX8_copy 114 = .ok (.iload 5, 2) := by decide +kernel
theorem dX8_copy_116 : decode cX8_copy 116 = .ok (.invokevirtual 94, 3) := by decide +kernel
theorem dX8_copy_119 : decode cX8_copy 119 = .ok (.aload_n 0, 1) := by decide +kernel
theorem dX8_copy_120 : decode cX8_copy 120 = .ok (.iload 5, 2) := by decide +kernel
theorem dX8_copy_122 : decode cX8_copy 122 = .ok (.invokevirtual 77, 3) := by decide +kernel
theorem dX8_copy_125 : decode cX8_copy 125 = .ok (.ireturn, 1) := by decide +kernel
set_option maxRecDepth 20000 in
theorem ggX8_drop_X5_isRow : GoodIn wsX8_drop wsX5_isRow := goodIn_r _ [6] (by decide +kernel) (by decide +kernel)
set_option maxRecDepth 20000 in
theorem gX8_drop_X5_isRow : GoodIn wsX8_drop (va_wsS RX8 64 yX5_isRow wsX5_isRow) := goodIn_app (goodIn_of _ (by decide +kernel)) ggX8_drop_X5_isRow
set_option maxRecDepth 20000 in
theorem ggX8_drop_X5_isMissing : GoodIn wsX8_drop wsX5_isMissing := goodIn_r _ [10, 11, 38, 39, 40] (by decide +kernel) (by decide +kernel)
set_option maxRecDepth 20000 in
theorem gX8_drop_X5_isMissing : GoodIn wsX8_drop (wsV RX8 80 RX5 yX5_isMissing wsX5_isMissing) := goodIn_app (goodIn_of _ (by decide +kernel)) ggX8_drop_X5_isMissing
set_option maxRecDepth 20000 in
theorem ggX8_drop_X8_found : GoodIn wsX8_drop wsX8_found := goodIn_r _ [16, 17, 18, 28, 29, 30, 31, 32, 33, 34, 35, 36, 37] (by decide +kernel) (by decide +kernel)
set_option maxRecDepth 20000 in
theorem gX8_drop_X8_found : GoodIn wsX8_drop (wsV RX8 69 RX8 yX8_found wsX8_found) := goodIn_app (goodIn_of _ (by decide +kernel)) ggX8_drop_X8_found
set_option maxRecDepth 20000 in
theorem ggX8_drop_X5_remove : GoodIn wsX8_drop wsX5_remove := goodIn_r _ [22, 23, 11, 38, 39, 40] (by decide +kernel) (by decide +kernel)
set_option maxRecDepth 20000 in
theorem gX8_drop_X5_remove : GoodIn wsX8_drop (wsV RX8 98 RX5 yX5_remove wsX5_remove) := goodIn_app (goodIn_of _ (by decide +kernel)) ggX8_drop_X5_remove
set_option maxRecDepth 20000 in
theorem ggX8_drop_X8_unfound : GoodIn wsX8_drop wsX8_unfound := goodIn_r _ [27, 17, 28, 29, 30, 31, 32, 33, 34, 35, 36, 37] (by decide +kernel) (by decide +kernel)
set_option maxRecDepth 20000 in
theorem gX8_drop_X8_unfound : GoodIn wsX8_drop (wsV RX8 77 RX8 yX8_unfound wsX8_unfound) := goodIn_app (goodIn_of _ (by decide +kernel)) ggX8_drop_X8_unfound
theorem dX8_drop_0 : decode cX8_drop 0 = .ok (.iload_n 1, 1) := by decide +kernel
theorem dX8_drop_1 : decode cX8_drop 1 = .ok (.invokestatic 64, 3) := by decide +kernel
theorem dX8_drop_4 : decode cX8_drop 4 = .ok (.ifCond .ne 6, 3) := by decide +kernel
theorem dX8_drop_7 : decode cX8_drop 7 = .ok (.ldc 68, 2) := by decide +kernel
theorem dX8_drop_9 : decode cX8_drop 9 = .ok (.ireturn, 1) := by decide +kernel
theorem dX8_drop_10 : decode cX8_drop 10 = .ok (.aload_n 0, 1) := by decide +kernel
theorem dX8_drop_11 : decode cX8_drop 11 = .ok (.getfield 12, 3) := by decide +kernel
theorem dX8_drop_14 : decode cX8_drop 14 = .ok (.iload_n 1, 1) := by decide +kernel
theorem dX8_drop_15 : decode cX8_drop 15 = .ok (.invokevirtual 80, 3) := by decide +kernel
theorem dX8_drop_18 : decode cX8_drop 18 = .ok (.ifCond .eq 9, 3) := by decide +kernel
theorem dX8_drop_21 : decode cX8_drop 21 = .ok (.aload_n 0, 1) := by decide +kernel
theorem dX8_drop_22 : decode cX8_drop 22 = .ok (.iconst 1, 1) := by decide +kernel
theorem dX8_drop_23 : decode cX8_drop 23 = .ok (.invokevirtual 69, 3) := by decide +kernel
theorem dX8_drop_26 : decode cX8_drop 26 = .ok (.ireturn, 1) := by decide +kernel
theorem dX8_drop_27 : decode cX8_drop 27 = .ok (.aload_n 0, 1) := by decide +kernel
theorem dX8_drop_28 : decode cX8_drop 28 = .ok (.aload_n 0, 1) := by decide +kernel
theorem dX8_drop_29 : decode cX8_drop 29 = .ok (.getfield 12, 3) := by decide +kernel
theorem dX8_drop_32 : decode cX8_drop 32 = .ok (.iload_n 1, 1) := by decide +kernel
theorem dX8_drop_33 : decode cX8_drop 33 = .ok (.invokevirtual 98, 3) := by decide +kernel
theorem dX8_drop_36 : decode cX8_drop 36 = .ok (.invokevirtual 77, 3) := by decide +kernel
theorem dX8_drop_39 : decode cX8_drop 39 = .ok (.ireturn, 1) := by decide +kernel
set_option maxRecDepth 20000 in
theorem ggX8_feed_X7_add : GoodIn wsX8_feed wsX7_add := goodIn_r _ [8, 9, 10, 25, 26, 27, 28, 29] (by decide +kernel) (by decide +kernel)
set_option maxRecDepth 20000 in
theorem gX8_feed_X7_add : GoodIn wsX8_feed (wsV RX8 101 RX7 yX7_add wsX7_add) := goodIn_app (goodIn_of _ (by decide +kernel)) ggX8_feed_X7_add
set_option maxRecDepth 20000 in
theorem ggX8_feed_X7_length : GoodIn wsX8_feed wsX7_length := goodIn_r _ [14, 9, 25, 26, 27, 28, 29] (by decide +kernel) (by decide +kernel)
set_option maxRecDepth 20000 in
theorem gX8_feed_X7_length : GoodIn wsX8_feed (wsV RX8 104 RX7 yX7_length wsX7_length) := goodIn_app (goodIn_of _ (by decide +kernel)) ggX8_feed_X7_length
theorem dX8_feed_0 : decode cX8_feed 0 = .ok (.iload_n 1, 1) := by decide +kernel
theorem dX8_feed_1 : decode cX8_feed 1 = .ok (.ifCond .lt 10, 3) := by decide +kernel
theorem dX8_feed_4 : decode cX8_feed 4 = .ok (.iload_n 1, 1) := by decide +kernel
theorem dX8_feed_5 : decode cX8_feed 5 = .ok (.sipush 255, 3) := by decide +kernel
theorem dX8_feed_8 : decode cX8_feed 8 = .ok (.if_icmp .le 6, 3) := by decide +kernel
theorem dX8_feed_11 : decode cX8_feed 11 = .ok (.ldc 68, 2) := by decide +kernel
theorem dX8_feed_13 : decode cX8_feed 13 = .ok (.ireturn, 1) := by decide +kernel
theorem dX8_feed_14 : decode cX8_feed 14 = .ok (.aload_n 0, 1) := by decide +kernel
theorem dX8_feed_15 : decode cX8_feed 15 = .ok (.getfield 19, 3) := by decide +kernel
theorem dX8_feed_18 : decode cX8_feed 18 = .ok (.iload_n 1, 1) := by decide +kernel
theorem dX8_feed_19 : decode cX8_feed 19 = .ok (.invokevirtual 101, 3) := by decide +kernel
theorem dX8_feed_22 : decode cX8_feed 22 = .ok (.ifCond .eq 13, 3) := by decide +kernel
theorem dX8_feed_25 : decode cX8_feed 25 = .ok (.aload_n 0, 1) := by decide +kernel
theorem dX8_feed_26 : decode cX8_feed 26 = .ok (.getfield 19, 3) := by decide +kernel
theorem dX8_feed_29 : decode cX8_feed 29 = .ok (.invokevirtual 104, 3) := by decide +kernel
theorem dX8_feed_32 : decode cX8_feed 32 = .ok (.goto 5, 3) := by decide +kernel
theorem dX8_feed_35 : decode cX8_feed 35 = .ok (.ldc 108, 2) := by decide +kernel
theorem dX8_feed_37 : decode cX8_feed 37 = .ok (.ireturn, 1) := by decide +kernel
set_option maxRecDepth 20000 in
theorem ggX8_isle_X7_readInto : GoodIn wsX8_isle wsX7_readInto := goodIn_r _ [10, 11, 12, 13, 14, 15, 16, 17, 18, 19, 20, 21, 22, 23, 24, 25, 26, 27, 9, 28, 29, 30, 31, 32, 33, 34, 35, 36, 37, 38, 39, 40, 41, 42, 43, 44, 45, 46, 47, 48, 49, 50, 51, 52, 53, 54, 55, 56, 57, 58, 59, 60, 61, 62, 63, 64, 65, 66, 67, 68, 69, 70, 71, 72, 73, 74, 75, 76, 77, 78, 79, 80, 81, 82, 83, 84, 85, 86, 87, 88, 89, 90, 91, 92, 93, 94, 128, 129, 130, 131, 132, 133, 134, 135, 136, 137, 138, 139, 140, 141, 142, 143] (by decide +kernel) (by decide +kernel)
set_option maxRecDepth 20000 in
theorem gX8_isle_X7_readInto : GoodIn wsX8_isle (wsV RX8 109 RX7 yX7_readInto wsX7_readInto) := goodIn_app (goodIn_of _ (by decide +kernel)) ggX8_isle_X7_readInto
set_option maxRecDepth 20000 in
theorem ggX8_isle_X7_empty : GoodIn wsX8_isle wsX7_empty := goodIn_r _ [98, 38, 128, 129, 130, 131, 132] (by decide +kernel) (by decide +kernel)
set_option maxRecDepth 20000 in
theorem gX8_isle_X7_empty : GoodIn wsX8_isle (wsV RX8 113 RX7 yX7_empty wsX7_empty) := goodIn_app (goodIn_of _ (by decide +kernel)) ggX8_isle_X7_empty
set_option maxRecDepth 20000 in
theorem ggX8_isle_X7_faultPlace : GoodIn wsX8_isle wsX7_faultPlace := goodIn_r _ [102, 11, 128, 129, 130, 131, 132] (by decide +kernel) (by decide +kernel)
set_option maxRecDepth 20000 in
theorem gX8_isle_X7_faultPlace : GoodIn wsX8_isle (wsV RX8 117 RX7 yX7_faultPlace wsX7_faultPlace) := goodIn_app (goodIn_of _ (by decide +kernel)) ggX8_isle_X7_faultPlace
set_option maxRecDepth 20000 in
theorem ggX8_isle_X3_become : GoodIn wsX8_isle wsX3_become := goodIn_r _ [106, 17, 60, 61, 62, 18, 19, 71, 107, 108, 109, 110, 24, 92, 93, 94, 133, 134, 135, 136, 137, 138, 139, 140, 141, 142, 143] (by decide +kernel) (by decide +kernel)
set_option maxRecDepth 20000 in
theorem gX8_isle_X3_become : GoodIn wsX8_isle (wsV RX8 120 RX3 yX3_become wsX3_become) := goodIn_app (goodIn_of _ (by decide +kernel)) ggX8_isle_X3_become
set_option maxRecDepth 20000 in
theorem ggX8_isle_X0_forget : GoodIn wsX8_isle wsX0_forget := goodIn_r _ [115, 116, 144, 145, 146] (by decide +kernel) (by decide +kernel)
set_option maxRecDepth 20000 in
theorem gX8_isle_X0_forget : GoodIn wsX8_isle (wsV RX8 124 RX0 yX0_forget wsX0_forget) := goodIn_app (goodIn_of _ (by decide +kernel)) ggX8_isle_X0_forget
set_option maxRecDepth 20000 in
theorem ggX8_isle_X3_bidders : GoodIn wsX8_isle wsX3_bidders := goodIn_r _ [87, 19, 133, 134, 135, 136, 137, 138, 139, 140, 141, 142, 143] (by decide +kernel) (by decide +kernel)
set_option maxRecDepth 20000 in
theorem gX8_isle_X3_bidders : GoodIn wsX8_isle (wsV RX8 127 RX3 yX3_bidders wsX3_bidders) := goodIn_app (goodIn_of _ (by decide +kernel)) ggX8_isle_X3_bidders
theorem dX8_isle_0 : decode cX8_isle 0 = .ok (.aload_n 0, 1) := by decide +kernel
theorem dX8_isle_1 : decode cX8_isle 1 = .ok (.getfield 19, 3) := by decide +kernel
theorem dX8_isle_4 : decode cX8_isle 4 = .ok (.aload_n 0, 1) := by decide +kernel
theorem dX8_isle_5 : decode cX8_isle 5 = .ok (.getfield 30, 3) := by decide +kernel
theorem dX8_isle_8 : decode cX8_isle 8 = .ok (.invokevirtual 109, 3) := by decide +kernel
theorem dX8_isle_11 : decode cX8_isle 11 = .ok (.istore_n 1, 1) := by decide +kernel
theorem dX8_isle_12 : decode cX8_isle 12 = .ok (.aload_n 0, 1) := by decide +kernel
theorem dX8_isle_13 : decode cX8_isle 13 = .ok (.getfield 19, 3) := by decide +kernel
theorem dX8_isle_16 : decode cX8_isle 16 = .ok (.invokevirtual 113, 3) := by decide +kernel
theorem dX8_isle_19 : decode cX8_isle 19 = .ok (.iload_n 1, 1) := by decide +kernel
theorem dX8_isle_20 : decode cX8_isle 20 = .ok (.ifCond .ne 14, 3) := by decide +kernel
theorem dX8_isle_23 : decode cX8_isle 23 = .ok (.ldc 116, 2) := by decide +kernel
theorem dX8_isle_25 : decode cX8_isle 25 = .ok (.aload_n 0, 1) := by decide +kernel
theorem dX8_isle_26 : decode cX8_isle 26 = .ok (.getfield 19, 3) := by decide +kernel
theorem dX8_isle_29 : decode cX8_isle 29 = .ok (.invokevirtual 117, 3) := by decide +kernel
theorem dX8_isle_32 : decode cX8_isle 32 = .ok (.isub, 1) := by decide +kernel
theorem dX8_isle_33 : decode cX8_isle 33 = .ok (.ireturn, 1) := by decide +kernel
theorem dX8_isle_34 : decode cX8_isle 34 = .ok (.aload_n 0, 1) := by decide +kernel
theorem dX8_isle_35 : decode cX8_isle 35 = .ok (.getfield 26, 3) := by decide +kernel
theorem dX8_isle_38 : decode cX8_isle 38 = .ok (.aload_n 0, 1) := by decide +kernel
theorem dX8_isle_39 : decode cX8_isle 39 = .ok (.getfield 30, 3) := by decide +kernel
theorem dX8_isle_42 : decode cX8_isle 42 = .ok (.invokevirtual 120, 3) := by decide +kernel
theorem dX8_isle_45 : decode cX8_isle 45 = .ok (.aload_n 0, 1) := by decide +kernel
theorem dX8_isle_46 : decode cX8_isle 46 = .ok (.getfield 42, 3) := by decide +kernel
theorem dX8_isle_49 : decode cX8_isle 49 = .ok (.invokevirtual 124, 3) := by decide +kernel
theorem dX8_isle_52 : decode cX8_isle 52 = .ok (.aload_n 0, 1) := by decide +kernel
theorem dX8_isle_53 : decode cX8_isle 53 = .ok (.getfield 26, 3) := by decide +kernel
theorem dX8_isle_56 : decode cX8_isle 56 = .ok (.invokevirtual 127, 3) := by decide +kernel
theorem dX8_isle_59 : decode cX8_isle 59 = .ok (.ireturn, 1) := by decide +kernel
set_option maxRecDepth 20000 in
theorem ggX8_fault_X7_faultNumber : GoodIn wsX8_fault wsX7_faultNumber := goodIn_r _ [6, 7, 18, 19, 20, 21, 22] (by decide +kernel) (by decide +kernel)
set_option maxRecDepth 20000 in
theorem gX8_fault_X7_faultNumber : GoodIn wsX8_fault (wsV RX8 130 RX7 yX7_faultNumber wsX7_faultNumber) := goodIn_app (goodIn_of _ (by decide +kernel)) ggX8_fault_X7_faultNumber
theorem dX8_fault_0 : decode cX8_fault 0 = .ok (.aload_n 0, 1) := by decide +kernel
theorem dX8_fault_1 : decode cX8_fault 1 = .ok (.getfield 19, 3) := by decide +kernel
theorem dX8_fault_4 : decode cX8_fault 4 = .ok (.invokevirtual 130, 3) := by decide +kernel
theorem dX8_fault_7 : decode cX8_fault 7 = .ok (.ireturn, 1) := by decide +kernel
set_option maxRecDepth 20000 in
theorem ggX8_undo_X0_kept : GoodIn wsX8_undo wsX0_kept := goodIn_r _ [8, 9, 39, 40, 41] (by decide +kernel) (by decide +kernel)
set_option maxRecDepth 20000 in
theorem gX8_undo_X0_kept : GoodIn wsX8_undo (wsV RX8 133 RX0 yX0_kept wsX0_kept) := goodIn_app (goodIn_of _ (by decide +kernel)) ggX8_undo_X0_kept
set_option maxRecDepth 20000 in
theorem ggX8_undo_X0_takeBack : GoodIn wsX8_undo wsX0_takeBack := goodIn_r _ [13, 14, 15, 9, 16, 17, 18, 19, 20, 21, 22, 23, 24, 25, 26, 27, 28, 39, 40, 41, 42, 43, 44, 45, 46, 47, 48, 49, 50, 51, 52] (by decide +kernel) (by decide +kernel)
set_option maxRecDepth 20000 in
theorem gX8_undo_X0_takeBack : GoodIn wsX8_undo (wsV RX8 137 RX0 yX0_takeBack wsX0_takeBack) := goodIn_app (goodIn_of _ (by decide +kernel)) ggX8_undo_X0_takeBack
theorem dX8_undo_0 : decode cX8_undo 0 = .ok (.aload_n 0, 1) := by decide +kernel
theorem dX8_undo_1 : decode cX8_undo 1 = .ok (.getfield 42, 3) := by decide +kernel
theorem dX8_undo_4 : decode cX8_undo 4 = .ok (.invokevirtual 133, 3) := by decide +kernel
theorem dX8_undo_7 : decode cX8_undo 7 = .ok (.iconst 1, 1) := by decide +kernel
theorem dX8_undo_8 : decode cX8_undo 8 = .ok (.if_icmp .ge 6, 3) := by decide +kernel
theorem dX8_undo_11 : decode cX8_undo 11 = .ok (.ldc 136, 2) := by decide +kernel
theorem dX8_undo_13 : decode cX8_undo 13 = .ok (.ireturn, 1) := by decide +kernel
theorem dX8_undo_14 : decode cX8_undo 14 = .ok (.aload_n 0, 1) := by decide +kernel
theorem dX8_undo_15 : decode cX8_undo 15 = .ok (.getfield 42, 3) := by decide +kernel
theorem dX8_undo_18 : decode cX8_undo 18 = .ok (.aload_n 0, 1) := by decide +kernel
theorem dX8_undo_19 : decode cX8_undo 19 = .ok (.getfield 26, 3) := by decide +kernel
theorem dX8_undo_22 : decode cX8_undo 22 = .ok (.invokevirtual 137, 3) := by decide +kernel
theorem dX8_undo_25 : decode cX8_undo 25 = .ok (.aload_n 0, 1) := by decide +kernel
theorem dX8_undo_26 : decode cX8_undo 26 = .ok (.getfield 42, 3) := by decide +kernel
theorem dX8_undo_29 : decode cX8_undo 29 = .ok (.invokevirtual 133, 3) := by decide +kernel
theorem dX8_undo_32 : decode cX8_undo 32 = .ok (.ireturn, 1) := by decide +kernel
set_option maxRecDepth 20000 in
theorem ggX8_hours_X3_isTold : GoodIn wsX8_hours wsX3_isTold := goodIn_r _ [10, 11, 77, 78, 79, 80, 81, 82, 83, 84, 85, 86, 87] (by decide +kernel) (by decide +kernel)
set_option maxRecDepth 20000 in
theorem gX8_hours_X3_isTold : GoodIn wsX8_hours (wsV RX8 140 RX3 yX3_isTold wsX3_isTold) := goodIn_app (goodIn_of _ (by decide +kernel)) ggX8_hours_X3_isTold
set_option maxRecDepth 20000 in
theorem ggX8_hours_X3_hour : GoodIn wsX8_hours wsX3_hour := goodIn_r _ [15, 16, 77, 78, 79, 80, 81, 82, 83, 84, 85, 86, 87] (by decide +kernel) (by decide +kernel)
set_option maxRecDepth 20000 in
theorem gX8_hours_X3_hour : GoodIn wsX8_hours (wsV RX8 144 RX3 yX3_hour wsX3_hour) := goodIn_app (goodIn_of _ (by decide +kernel)) ggX8_hours_X3_hour
set_option maxRecDepth 20000 in
theorem ggX8_hours_X0_keep : GoodIn wsX8_hours wsX0_keep := goodIn_r _ [21, 22, 23, 24, 25, 26, 27, 28, 29, 30, 31, 9, 32, 16, 33, 34, 35, 36, 37, 38, 39, 88, 89, 90, 77, 78, 79, 80, 81, 82, 83, 84, 85, 86, 87] (by decide +kernel) (by decide +kernel)
set_option maxRecDepth 20000 in
theorem gX8_hours_X0_keep : GoodIn wsX8_hours (wsV RX8 147 RX0 yX0_keep wsX0_keep) := goodIn_app (goodIn_of _ (by decide +kernel)) ggX8_hours_X0_keep
set_option maxRecDepth 20000 in
theorem ggX8_hours_X3_passHour : GoodIn wsX8_hours wsX3_passHour := goodIn_r _ [43, 16, 44, 38, 33, 45, 46, 47, 9, 48, 49, 50, 51, 52, 53, 54, 55, 56, 57, 58, 77, 78, 79, 80, 81, 82, 83, 84, 85, 86, 87] (by decide +kernel) (by decide +kernel)
set_option maxRecDepth 20000 in
theorem gX8_hours_X3_passHour : GoodIn wsX8_hours (wsV RX8 150 RX3 yX3_passHour wsX3_passHour) := goodIn_app (goodIn_of _ (by decide +kernel)) ggX8_hours_X3_passHour
set_option maxRecDepth 20000 in
theorem ggX8_hours_X3_heldCells : GoodIn wsX8_hours wsX3_heldCells := goodIn_r _ [62, 63, 64, 65, 9, 66, 38, 77, 78, 79, 80, 81, 82, 83, 84, 85, 86, 87] (by decide +kernel) (by decide +kernel)
set_option maxRecDepth 20000 in
theorem gX8_hours_X3_heldCells : GoodIn wsX8_hours (wsV RX8 153 RX3 yX3_heldCells wsX3_heldCells) := goodIn_app (goodIn_of _ (by decide +kernel)) ggX8_hours_X3_heldCells
theorem dX8_hours_0 : decode cX8_hours 0 = .ok (.aload_n 0, 1) := by decide +kernel
theorem dX8_hours_1 : decode cX8_hours 1 = .ok (.getfield 26, 3) := by decide +kernel
theorem dX8_hours_4 : decode cX8_hours 4 = .ok (.invokevirtual 140, 3) := by decide +kernel
theorem dX8_hours_7 : decode cX8_hours 7 = .ok (.ifCond .ne 6, 3) := by decide +kernel
theorem dX8_hours_10 : decode cX8_hours 10 = .ok (.ldc 136, 2) := by decide +kernel
theorem dX8_hours_12 : decode cX8_hours 12 = .ok (.ireturn, 1) := by decide +kernel
theorem dX8_hours_13 : decode cX8_hours 13 = .ok (.iload_n 1, 1) := by decide +kernel
theorem dX8_hours_14 : decode cX8_hours 14 = .ok (.iconst 1, 1) := by decide +kernel
theorem dX8_hours_15 : decode cX8_hours 15 = .ok (.if_icmp .lt 9, 3) := by decide +kernel
theorem dX8_hours_18 : decode cX8_hours 18 = .ok (.iload_n 1, 1) := by decide +kernel
theorem dX8_hours_19 : decode cX8_hours 19 = .ok (.bipush 24, 2) := by decide +kernel
theorem dX8_hours_21 : decode cX8_hours 21 = .ok (.if_icmp .le 6, 3) := by decide +kernel
theorem dX8_hours_24 : decode cX8_hours 24 = .ok (.ldc 68, 2) := by decide +kernel
theorem dX8_hours_26 : decode cX8_hours 26 = .ok (.ireturn, 1) := by decide +kernel
theorem dX8_hours_27 : decode cX8_hours 27 = .ok (.aload_n 0, 1) := by decide +kernel
theorem dX8_hours_28 : decode cX8_hours 28 = .ok (.getfield 26, 3) := by decide +kernel
theorem dX8_hours_31 : decode cX8_hours 31 = .ok (.invokevirtual 144, 3) := by decide +kernel
theorem dX8_hours_34 : decode cX8_hours 34 = .ok (.iload_n 1, 1) := by decide +kernel
theorem dX8_hours_35 : decode cX8_hours 35 = .ok (.iadd, 1) := by decide +kernel
theorem dX8_hours_36 : decode cX8_hours 36 = .ok (.sipush 999, 3) := by decide +kernel
theorem dX8_hours_39 : decode cX8_hours 39 = .ok (.if_icmp .le 6, 3) := by decide +kernel
theorem dX8_hours_42 : decode cX8_hours 42 = .ok (.ldc 108, 2) := by decide +kernel
theorem dX8_hours_44 : decode cX8_hours 44 = .ok (.ireturn, 1) := by decide +kernel
theorem dX8_hours_45 : decode cX8_hours 45 = .ok (.iconst 0, 1) := by decide +kernel
theorem dX8_hours_46 : decode cX8_hours 46 = .ok (.istore_n 2, 1) := by decide +kernel
theorem dX8_hours_47 : decode cX8_hours 47 = .ok (.iload_n 2, 1) := by decide +kernel
theorem dX8_hours_48 : decode cX8_hours 48 = .ok (.iload_n 1, 1) := by decide +kernel
theorem dX8_hours_49 : decode cX8_hours 49 = .ok (.if_icmp .ge 27, 3) := by decide +kernel
theorem dX8_hours_52 : decode cX8_hours 52 = .ok (.aload_n 0, 1) := by decide +kernel
theorem dX8_hours_53 : decode cX8_hours 53 = .ok (.getfield 42, 3) := by decide +kernel
theorem dX8_hours_56 : decode cX8_hours 56 = .ok (.aload_n 0, 1) := by decide +kernel
theorem dX8_hours_57 : decode cX8_hours 57 = .ok (.getfield 26, 3) := by decide +kernel
theorem dX8_hours_60 : decode cX8_hours 60 = .ok (.invokevirtual 147, 3) := by decide +kernel
theorem dX8_hours_63 : decode cX8_hours 63 = .ok (.aload_n 0, 1) := by decide +kernel
theorem dX8_hours_64 : decode cX8_hours 64 = .ok (.getfield 26, 3) := by decide +kernel
theorem dX8_hours_67 : decode cX8_hours 67 = .ok (.invokevirtual 150, 3) := by decide +kernel
theorem dX8_hours_70 : decode cX8_hours 70 = .ok (.iinc 2 1, 3) := by decide +kernel
theorem dX8_hours_73 : decode cX8_hours 73 = .ok (.goto (-26), 3) := by decide +kernel
theorem dX8_hours_76 : decode cX8_hours 76 = .ok (.aload_n 0, 1) := by decide +kernel
theorem dX8_hours_77 : decode cX8_hours 77 = .ok (.getfield 26, 3) := by decide +kernel
theorem dX8_hours_80 : decode cX8_hours 80 = .ok (.invokevirtual 153, 3) := by decide +kernel
theorem dX8_hours_83 : decode cX8_hours 83 = .ok (.ireturn, 1) := by decide +kernel
set_option maxRecDepth 20000 in
theorem ggX8_bid_X3_hasBidder : GoodIn wsX8_bid wsX3_hasBidder := goodIn_r _ [10, 11, 94, 95, 96, 97, 98, 99, 100, 101, 102, 103, 104] (by decide +kernel) (by decide +kernel)
set_option maxRecDepth 20000 in
theorem gX8_bid_X3_hasBidder : GoodIn wsX8_bid (wsV RX8 156 RX3 yX3_hasBidder wsX3_hasBidder) := goodIn_app (goodIn_of _ (by decide +kernel)) ggX8_bid_X3_hasBidder
set_option maxRecDepth 20000 in
theorem ggX8_bid_X8_isCell : GoodIn wsX8_bid wsX8_isCell := goodIn_r _ [15] (by decide +kernel) (by decide +kernel)
set_option maxRecDepth 20000 in
theorem gX8_bid_X8_isCell : GoodIn wsX8_bid (va_wsS RX8 159 yX8_isCell wsX8_isCell) := goodIn_app (goodIn_of _ (by decide +kernel)) ggX8_bid_X8_isCell
set_option maxRecDepth 20000 in
theorem ggX8_bid_X3_isHeld : GoodIn wsX8_bid wsX3_isHeld := goodIn_r _ [19, 20, 94, 95, 96, 97, 98, 99, 100, 101, 102, 103, 104] (by decide +kernel) (by decide +kernel)
set_option maxRecDepth 20000 in
theorem gX8_bid_X3_isHeld : GoodIn wsX8_bid (wsV RX8 162 RX3 yX3_isHeld wsX3_isHeld) := goodIn_app (goodIn_of _ (by decide +kernel)) ggX8_bid_X3_isHeld
set_option maxRecDepth 20000 in
theorem ggX8_bid_X3_canHave : GoodIn wsX8_bid wsX3_canHave := goodIn_r _ [24, 25, 26, 27, 28, 9, 29, 30, 31, 32, 33, 34, 35, 36, 37, 38, 39, 40, 41, 94, 95, 96, 97, 98, 99, 100, 101, 102, 103, 104] (by decide +kernel) (by decide +kernel)
set_option maxRecDepth 20000 in
theorem gX8_bid_X3_canHave : GoodIn wsX8_bid (wsV RX8 165 RX3 yX3_canHave wsX3_canHave) := goodIn_app (goodIn_of _ (by decide +kernel)) ggX8_bid_X3_canHave
set_option maxRecDepth 20000 in
theorem ggX8_bid_X3_purse : GoodIn wsX8_bid wsX3_purse := goodIn_r _ [45, 46, 94, 95, 96, 97, 98, 99, 100, 101, 102, 103, 104] (by decide +kernel) (by decide +kernel)
set_option maxRecDepth 20000 in
theorem gX8_bid_X3_purse : GoodIn wsX8_bid (wsV RX8 169 RX3 yX3_purse wsX3_purse) := goodIn_app (goodIn_of _ (by decide +kernel)) ggX8_bid_X3_purse
set_option maxRecDepth 20000 in
theorem ggX8_bid_X3_costTo : GoodIn wsX8_bid wsX3_costTo := goodIn_r _ [50, 25, 51, 52, 53, 9, 54, 55, 30, 56, 57, 40, 58, 94, 95, 96, 97, 98, 99, 100, 101, 102, 103, 104] (by decide +kernel) (by decide +kernel)
set_option maxRecDepth 20000 in
theorem gX8_bid_X3_costTo : GoodIn wsX8_bid (wsV RX8 172 RX3 yX3_costTo wsX3_costTo) := goodIn_app (goodIn_of _ (by decide +kernel)) ggX8_bid_X3_costTo
set_option maxRecDepth 20000 in
theorem ggX8_bid_X0_keep : GoodIn wsX8_bid wsX0_keep := goodIn_r _ [63, 64, 65, 66, 67, 68, 69, 70, 71, 72, 73, 9, 74, 35, 30, 75, 76, 77, 78, 20, 46, 105, 106, 107, 94, 95, 96, 97, 98, 99, 100, 101, 102, 103, 104] (by decide +kernel) (by decide +kernel)
set_option maxRecDepth 20000 in
theorem gX8_bid_X0_keep : GoodIn wsX8_bid (wsV RX8 147 RX0 yX0_keep wsX0_keep) := goodIn_app (goodIn_of _ (by decide +kernel)) ggX8_bid_X0_keep
set_option maxRecDepth 20000 in
theorem ggX8_bid_X3_sell : GoodIn wsX8_bid wsX3_sell := goodIn_r _ [82, 46, 20, 83, 48, 49, 9, 50, 25, 51, 52, 53, 54, 55, 30, 56, 57, 40, 58, 94, 95, 96, 97, 98, 99, 100, 101, 102, 103, 104] (by decide +kernel) (by decide +kernel)
set_option maxRecDepth 20000 in
theorem gX8_bid_X3_sell : GoodIn wsX8_bid (wsV RX8 176 RX3 yX3_sell wsX3_sell) := goodIn_app (goodIn_of _ (by decide +kernel)) ggX8_bid_X3_sell
theorem dX8_bid_0 : decode cX8_bid 0 = .ok (.aload_n 0, 1) := by decide +kernel
theorem dX8_bid_1 : decode cX8_bid 1 = .ok (.getfield 26, 3) := by decide +kernel
theorem dX8_bid_4 : decode cX8_bid 4 = .ok (.iload_n 1, 1) := by decide +kernel
theorem dX8_bid_5 : decode cX8_bid 5 = .ok (.invokevirtual 156, 3) := by decide +kernel
theorem dX8_bid_8 : decode cX8_bid 8 = .ok (.ifCond .eq 10, 3) := by decide +kernel
theorem dX8_bid_11 : decode cX8_bid 11 = .ok (.iload_n 2, 1) := by decide +kernel
theorem dX8_bid_12 : decode cX8_bid 12 = .ok (.invokestatic 159, 3) := by decide +kernel
theorem dX8_bid_15 : decode cX8_bid 15 = .ok (.ifCond .ne 6, 3) := by decide +kernel
theorem dX8_bid_18 : decode cX8_bid 18 = .ok (.ldc 68, 2) := by decide +kernel
theorem dX8_bid_20 : decode cX8_bid 20 = .ok (.ireturn, 1) := by decide +kernel
theorem dX8_bid_21 : decode cX8_bid 21 = .ok (.aload_n 0, 1) := by decide +kernel
theorem dX8_bid_22 : decode cX8_bid 22 = .ok (.getfield 26, 3) := by decide +kernel
theorem dX8_bid_25 : decode cX8_bid 25 = .ok (.iload_n 2, 1) := by decide +kernel
theorem dX8_bid_26 : decode cX8_bid 26 = .ok (.invokevirtual 162, 3) := by decide +kernel
theorem dX8_bid_29 : decode cX8_bid 29 = .ok (.ifCond .ne 15, 3) := by decide +kernel
theorem dX8_bid_32 : decode cX8_bid 32 = .ok (.aload_n 0, 1) := by decide +kernel
theorem dX8_bid_33 : decode cX8_bid 33 = .ok (.getfield 26, 3) := by decide +kernel
theorem dX8_bid_36 : decode cX8_bid 36 = .ok (.iload_n 1, 1) := by decide +kernel
theorem dX8_bid_37 : decode cX8_bid 37 = .ok (.iload_n 2, 1) := by decide +kernel
theorem dX8_bid_38 : decode cX8_bid 38 = .ok (.invokevirtual 165, 3) := by decide +kernel
theorem dX8_bid_41 : decode cX8_bid 41 = .ok (.ifCond .ne 6, 3) := by decide +kernel
theorem dX8_bid_44 : decode cX8_bid 44 = .ok (.ldc 136, 2) := by decide +kernel
theorem dX8_bid_46 : decode cX8_bid 46 = .ok (.ireturn, 1) := by decide +kernel
theorem dX8_bid_47 : decode cX8_bid 47 = .ok (.aload_n 0, 1) := by decide +kernel
theorem dX8_bid_48 : decode cX8_bid 48 = .ok (.getfield 26, 3) := by decide +kernel
theorem dX8_bid_51 : decode cX8_bid 51 = .ok (.iload_n 1, 1) := by decide +kernel
theorem dX8_bid_52 : decode cX8_bid 52 = .ok (.invokevirtual 169, 3) := by decide +kernel
theorem dX8_bid_55 : decode cX8_bid 55 = .ok (.aload_n 0, 1) := by decide +kernel
theorem dX8_bid_56 : decode cX8_bid 56 = .ok (.getfield 26, 3) := by decide +kernel
theorem dX8_bid_59 : decode cX8_bid 59 = .ok (.iload_n 1, 1) := by decide +kernel
theorem dX8_bid_60 : decode cX8_bid 60 = .ok (.iload_n 2, 1) := by decide +kernel
theorem dX8_bid_61 : decode cX8_bid 61 = .ok (.invokevirtual 172, 3) := by decide +kernel
theorem dX8_bid_64 : decode cX8_bid 64 = .ok (.if_icmp .ge 6, 3) := by decide +kernel
theorem dX8_bid_67 : decode cX8_bid 67 = .ok (.ldc 108, 2) := by decide +kernel
theorem dX8_bid_69 : decode cX8_bid 69 = .ok (.ireturn, 1) := by decide +kernel
theorem dX8_bid_70 : decode cX8_bid 70 = .ok (.aload_n 0, 1) := by decide +kernel
theorem dX8_bid_71 : decode cX8_bid 71 = .ok (.getfield 42, 3) := by decide +kernel
theorem dX8_bid_74 : decode cX8_bid 74 = .ok (.aload_n 0, 1) := by decide +kernel
theorem dX8_bid_75 : decode cX8_bid 75 = .ok (.getfield 26, 3) := by decide +kernel
theorem dX8_bid_78 : decode cX8_bid 78 = .ok (.invokevirtual 147, 3) := by decide +kernel
theorem dX8_bid_81 : decode cX8_bid 81 = .ok (.aload_n 0, 1) := by decide +kernel
theorem dX8_bid_82 : decode cX8_bid 82 = .ok (.getfield 26, 3) := by decide +kernel
theorem dX8_bid_85 : decode cX8_bid 85 = .ok (.iload_n 1, 1) := by decide +kernel
theorem dX8_bid_86 : decode cX8_bid 86 = .ok (.iload_n 2, 1) := by decide +kernel
theorem dX8_bid_87 : decode cX8_bid 87 = .ok (.invokevirtual 176, 3) := by decide +kernel
theorem dX8_bid_90 : decode cX8_bid 90 = .ok (.aload_n 0, 1) := by decide +kernel
theorem dX8_bid_91 : decode cX8_bid 91 = .ok (.getfield 26, 3) := by decide +kernel
theorem dX8_bid_94 : decode cX8_bid 94 = .ok (.iload_n 1, 1) := by decide +kernel
theorem dX8_bid_95 : decode cX8_bid 95 = .ok (.invokevirtual 169, 3) := by decide +kernel
theorem dX8_bid_98 : decode cX8_bid 98 = .ok (.ireturn, 1) := by decide +kernel
set_option maxRecDepth 20000 in
theorem ggX8_raise_X3_hasBidder : GoodIn wsX8_raise wsX3_hasBidder := goodIn_r _ [10, 11, 62, 63, 64, 65, 66, 67, 68, 69, 70, 71, 72] (by decide +kernel) (by decide +kernel)
set_option maxRecDepth 20000 in
theorem gX8_raise_X3_hasBidder : GoodIn wsX8_raise (wsV RX8 156 RX3 yX3_hasBidder wsX3_hasBidder) := goodIn_app (goodIn_of _ (by decide +kernel)) ggX8_raise_X3_hasBidder
set_option maxRecDepth 20000 in
theorem ggX8_raise_X8_isCell : GoodIn wsX8_raise wsX8_isCell := goodIn_r _ [15] (by decide +kernel) (by decide +kernel)
set_option maxRecDepth 20000 in
theorem gX8_raise_X8_isCell : GoodIn wsX8_raise (va_wsS RX8 159 yX8_isCell wsX8_isCell) := goodIn_app (goodIn_of _ (by decide +kernel)) ggX8_raise_X8_isCell
set_option maxRecDepth 20000 in
theorem ggX8_raise_X3_holder : GoodIn wsX8_raise wsX3_holder := goodIn_r _ [19, 20, 62, 63, 64, 65, 66, 67, 68, 69, 70, 71, 72] (by decide +kernel) (by decide +kernel)
set_option maxRecDepth 20000 in
theorem gX8_raise_X3_holder : GoodIn wsX8_raise (wsV RX8 180 RX3 yX3_holder wsX3_holder) := goodIn_app (goodIn_of _ (by decide +kernel)) ggX8_raise_X3_holder
set_option maxRecDepth 20000 in
theorem ggX8_raise_X3_height : GoodIn wsX8_raise wsX3_height := goodIn_r _ [24, 25, 62, 63, 64, 65, 66, 67, 68, 69, 70, 71, 72] (by decide +kernel) (by decide +kernel)
set_option maxRecDepth 20000 in
theorem gX8_raise_X3_height : GoodIn wsX8_raise (wsV RX8 183 RX3 yX3_height wsX3_height) := goodIn_app (goodIn_of _ (by decide +kernel)) ggX8_raise_X3_height
set_option maxRecDepth 20000 in
theorem ggX8_raise_X0_keep : GoodIn wsX8_raise wsX0_keep := goodIn_r _ [30, 31, 32, 33, 34, 35, 36, 37, 38, 39, 40, 9, 41, 42, 25, 43, 44, 45, 46, 20, 47, 73, 74, 75, 62, 63, 64, 65, 66, 67, 68, 69, 70, 71, 72] (by decide +kernel) (by decide +kernel)
set_option maxRecDepth 20000 in
theorem gX8_raise_X0_keep : GoodIn wsX8_raise (wsV RX8 147 RX0 yX0_keep wsX0_keep) := goodIn_app (goodIn_of _ (by decide +kernel)) ggX8_raise_X0_keep
set_option maxRecDepth 20000 in
theorem ggX8_raise_X3_putStones : GoodIn wsX8_raise wsX3_putStones := goodIn_r _ [51, 25, 62, 63, 64, 65, 66, 67, 68, 69, 70, 71, 72] (by decide +kernel) (by decide +kernel)
set_option maxRecDepth 20000 in
theorem gX8_raise_X3_putStones : GoodIn wsX8_raise (wsV RX8 186 RX3 yX3_putStones wsX3_putStones) := goodIn_app (goodIn_of _ (by decide +kernel)) ggX8_raise_X3_putStones
theorem dX8_raise_0 : decode cX8_raise 0 = .ok (.aload_n 0, 1) := by decide +kernel
theorem dX8_raise_1 : decode cX8_raise 1 = .ok (.getfield 26, 3) := by decide +kernel
theorem dX8_raise_4 : decode cX8_raise 4 = .ok (.iload_n 1, 1) := by decide +kernel
theorem dX8_raise_5 : decode cX8_raise 5 = .ok (.invokevirtual 156, 3) := by decide +kernel
theorem dX8_raise_8 : decode cX8_raise 8 = .ok (.ifCond .eq 10, 3) := by decide +kernel
theorem dX8_raise_11 : decode cX8_raise 11 = .ok (.iload_n 2, 1) := by decide +kernel
theorem dX8_raise_12 : decode cX8_raise 12 = .ok (.invokestatic 159, 3) := by decide +kernel
theorem dX8_raise_15 : decode cX8_raise 15 = .ok (.ifCond .ne 6, 3) := by decide +kernel
theorem dX8_raise_18 : decode cX8_raise 18 = .ok (.ldc 68, 2) := by decide +kernel
theorem dX8_raise_20 : decode cX8_raise 20 = .ok (.ireturn, 1) := by decide +kernel
theorem dX8_raise_21 : decode cX8_raise 21 = .ok (.aload_n 0, 1) := by decide +kernel
theorem dX8_raise_22 : decode cX8_raise 22 = .ok (.getfield 26, 3) := by decide +kernel
theorem dX8_raise_25 : decode cX8_raise 25 = .ok (.iload_n 2, 1) := by decide +kernel
theorem dX8_raise_26 : decode cX8_raise 26 = .ok (.invokevirtual 180, 3) := by decide +kernel
theorem dX8_raise_29 : decode cX8_raise 29 = .ok (.iload_n 1, 1) := by decide +kernel
theorem dX8_raise_30 : decode cX8_raise 30 = .ok (.if_icmp .eq 6, 3) := by decide +kernel
theorem dX8_raise_33 : decode cX8_raise 33 = .ok (.ldc 136, 2) := by decide +kernel
theorem dX8_raise_35 : decode cX8_raise 35 = .ok (.ireturn, 1) := by decide +kernel
theorem dX8_raise_36 : decode cX8_raise 36 = .ok (.aload_n 0, 1) := by decide +kernel
theorem dX8_raise_37 : decode cX8_raise 37 = .ok (.getfield 26, 3) := by decide +kernel
theorem dX8_raise_40 : decode cX8_raise 40 = .ok (.iload_n 2, 1) := by decide +kernel
theorem dX8_raise_41 : decode cX8_raise 41 = .ok (.invokevirtual 183, 3) := by decide +kernel
theorem dX8_raise_44 : decode cX8_raise 44 = .ok (.bipush 9, 2) := by decide +kernel
theorem dX8_raise_46 : decode cX8_raise 46 = .ok (.if_icmp .lt 6, 3) := by decide +kernel
theorem dX8_raise_49 : decode cX8_raise 49 = .ok (.ldc 108, 2) := by decide +kernel
theorem dX8_raise_51 : decode cX8_raise 51 = .ok (.ireturn, 1) := by decide +kernel
theorem dX8_raise_52 : decode cX8_raise 52 = .ok (.aload_n 0, 1) := by decide +kernel
theorem dX8_raise_53 : decode cX8_raise 53 = .ok (.getfield 42, 3) := by decide +kernel
theorem dX8_raise_56 : decode cX8_raise 56 = .ok (.aload_n 0, 1) := by decide +kernel
theorem dX8_raise_57 : decode cX8_raise 57 = .ok (.getfield 26, 3) := by decide +kernel
theorem dX8_raise_60 : decode cX8_raise 60 = .ok (.invokevirtual 147, 3) := by decide +kernel
theorem dX8_raise_63 : decode cX8_raise 63 = .ok (.aload_n 0, 1) := by decide +kernel
theorem dX8_raise_64 : decode cX8_raise 64 = .ok (.getfield 26, 3) := by decide +kernel
theorem dX8_raise_67 : decode cX8_raise 67 = .ok (.iload_n 2, 1) := by decide +kernel
theorem dX8_raise_68 : decode cX8_raise 68 = .ok (.invokevirtual 186, 3) := by decide +kernel
theorem dX8_raise_71 : decode cX8_raise 71 = .ok (.aload_n 0, 1) := by decide +kernel
theorem dX8_raise_72 : decode cX8_raise 72 = .ok (.getfield 26, 3) := by decide +kernel
theorem dX8_raise_75 : decode cX8_raise 75 = .ok (.iload_n 2, 1) := by decide +kernel
theorem dX8_raise_76 : decode cX8_raise 76 = .ok (.invokevirtual 183, 3) := by decide +kernel
theorem dX8_raise_79 : decode cX8_raise 79 = .ok (.ireturn, 1) := by decide +kernel
set_option maxRecDepth 20000 in
theorem ggX8_give_X3_hasBidder : GoodIn wsX8_give wsX3_hasBidder := goodIn_r _ [9, 10, 61, 62, 63, 64, 65, 66, 67, 68, 69, 70, 71] (by decide +kernel) (by decide +kernel)
set_option maxRecDepth 20000 in
theorem gX8_give_X3_hasBidder : GoodIn wsX8_give (wsV RX8 156 RX3 yX3_hasBidder wsX3_hasBidder) := goodIn_app (goodIn_of _ (by decide +kernel)) ggX8_give_X3_hasBidder
set_option maxRecDepth 20000 in
theorem ggX8_give_X8_isCell : GoodIn wsX8_give wsX8_isCell := goodIn_r _ [14] (by decide +kernel) (by decide +kernel)
set_option maxRecDepth 20000 in
theorem gX8_give_X8_isCell : GoodIn wsX8_give (va_wsS RX8 159 yX8_isCell wsX8_isCell) := goodIn_app (goodIn_of _ (by decide +kernel)) ggX8_give_X8_isCell
set_option maxRecDepth 20000 in
theorem ggX8_give_X3_holder : GoodIn wsX8_give wsX3_holder := goodIn_r _ [18, 19, 61, 62, 63, 64, 65, 66, 67, 68, 69, 70, 71] (by decide +kernel) (by decide +kernel)
set_option maxRecDepth 20000 in
theorem gX8_give_X3_holder : GoodIn wsX8_give (wsV RX8 180 RX3 yX3_holder wsX3_holder) := goodIn_app (goodIn_of _ (by decide +kernel)) ggX8_give_X3_holder
set_option maxRecDepth 20000 in
theorem ggX8_give_X0_keep : GoodIn wsX8_give wsX0_keep := goodIn_r _ [24, 25, 26, 27, 28, 29, 30, 31, 32, 33, 34, 8, 35, 36, 37, 38, 39, 40, 41, 19, 42, 72, 73, 74, 61, 62, 63, 64, 65, 66, 67, 68, 69, 70, 71] (by decide +kernel) (by decide +kernel)
set_option maxRecDepth 20000 in
theorem gX8_give_X0_keep : GoodIn wsX8_give (wsV RX8 147 RX0 yX0_keep wsX0_keep) := goodIn_app (goodIn_of _ (by decide +kernel)) ggX8_give_X0_keep
set_option maxRecDepth 20000 in
theorem ggX8_give_X3_handOver : GoodIn wsX8_give wsX3_handOver := goodIn_r _ [46, 19, 61, 62, 63, 64, 65, 66, 67, 68, 69, 70, 71] (by decide +kernel) (by decide +kernel)
set_option maxRecDepth 20000 in
theorem gX8_give_X3_handOver : GoodIn wsX8_give (wsV RX8 190 RX3 yX3_handOver wsX3_handOver) := goodIn_app (goodIn_of _ (by decide +kernel)) ggX8_give_X3_handOver
set_option maxRecDepth 20000 in
theorem ggX8_give_X3_cellsOf : GoodIn wsX8_give wsX3_cellsOf := goodIn_r _ [50, 19, 61, 62, 63, 64, 65, 66, 67, 68, 69, 70, 71] (by decide +kernel) (by decide +kernel)
set_option maxRecDepth 20000 in
theorem gX8_give_X3_cellsOf : GoodIn wsX8_give (wsV RX8 193 RX3 yX3_cellsOf wsX3_cellsOf) := goodIn_app (goodIn_of _ (by decide +kernel)) ggX8_give_X3_cellsOf
theorem dX8_give_0 : decode cX8_give 0 = .ok (.aload_n 0, 1) := by decide +kernel
theorem dX8_give_1 : decode cX8_give 1 = .ok (.getfield 26, 3) := by decide +kernel
theorem dX8_give_4 : decode cX8_give 4 = .ok (.iload_n 1, 1) := by decide +kernel
theorem dX8_give_5 : decode cX8_give 5 = .ok (.invokevirtual 156, 3) := by decide +kernel
theorem dX8_give_8 : decode cX8_give 8 = .ok (.ifCond .eq 26, 3) := by decide +kernel
theorem dX8_give_11 : decode cX8_give 11 = .ok (.aload_n 0, 1) := by decide +kernel
theorem dX8_give_12 : decode cX8_give 12 = .ok (.getfield 26, 3) := by decide +kernel
theorem dX8_give_15 : decode cX8_give 15 = .ok (.iload_n 2, 1) := by decide +kernel
theorem dX8_give_16 : decode cX8_give 16 = .ok (.invokevirtual 156, 3) := by decide +kernel
theorem dX8_give_19 : decode cX8_give 19 = .ok (.ifCond .eq 15, 3) := by decide +kernel
theorem dX8_give_22 : decode cX8_give 22 = .ok (.iload_n 1, 1) := by decide +kernel
theorem dX8_give_23 : decode cX8_give 23 = .ok (.iload_n 2, 1) := by decide +kernel
theorem dX8_give_24 : decode cX8_give 24 = .ok (.if_icmp .eq 10, 3) := by decide +kernel
theorem dX8_give_27 : decode cX8_give 27 = .ok (.iload_n 3, 1) := by decide +kernel
theorem dX8_give_28 : decode cX8_give 28 = .ok (.invokestatic 159, 3) := by decide +kernel
theorem dX8_give_31 : decode cX8_give 31 = .ok (.ifCond .ne 6, 3) := by decide +kernel
theorem dX8_give_34 : decode cX8_give 34 = .ok (.ldc 68, 2) := by decide +kernel
theorem dX8_give_36 : decode cX8_give 36 = .ok (.ireturn, 1) := by decide +kernel
theorem dX8_give_37 : decode cX8_give 37 = .ok (.aload_n 0, 1) := by decide +kernel
theorem dX8_give_38 : decode cX8_give 38 = .ok (.getfield 26, 3) := by decide +kernel
theorem dX8_give_41 : decode cX8_give 41 = .ok (.iload_n 3, 1) := by decide +kernel
theorem dX8_give_42 : decode cX8_give 42 = .ok (.invokevirtual 180, 3) := by decide +kernel
theorem dX8_give_45 : decode cX8_give 45 = .ok (.iload_n 1, 1) := by decide +kernel
theorem dX8_give_46 : decode cX8_give 46 = .ok (.if_icmp .eq 6, 3) := by decide +kernel
theorem dX8_give_49 : decode cX8_give 49 = .ok (.ldc 136, 2) := by decide +kernel
theorem dX8_give_51 : decode cX8_give 51 = .ok (.ireturn, 1) := by decide +kernel
theorem dX8_give_52 : decode cX8_give 52 = .ok (.aload_n 0, 1) := by decide +kernel
theorem dX8_give_53 : decode cX8_give 53 = .ok (.getfield 42, 3) := by decide +kernel
theorem dX8_give_56 : decode cX8_give 56 = .ok (.aload_n 0, 1) := by decide +kernel
theorem dX8_give_57 : decode cX8_give 57 = .ok (.getfield 26, 3) := by decide +kernel
theorem dX8_give_60 : decode cX8_give 60 = .ok (.invokevirtual 147, 3) := by decide +kernel
theorem dX8_give_63 : decode cX8_give 63 = .ok (.aload_n 0, 1) := by decide +kernel
theorem dX8_give_64 : decode cX8_give 64 = .ok (.getfield 26, 3) := by decide +kernel
theorem dX8_give_67 : decode cX8_give 67 = .ok (.iload_n 3, 1) := by decide +kernel
theorem dX8_give_68 : decode cX8_give 68 = .ok (.iload_n 2, 1) := by decide +kernel
theorem dX8_give_69 : decode cX8_give 69 = .ok (.invokevirtual 190, 3) := by decide +kernel
theorem dX8_give_72 : decode cX8_give 72 = .ok (.aload_n 0, 1) := by decide +kernel
theorem dX8_give_73 : decode cX8_give 73 = .ok (.getfield 26, 3) := by decide +kernel
theorem dX8_give_76 : decode cX8_give 76 = .ok (.iload_n 2, 1) := by decide +kernel
theorem dX8_give_77 : decode cX8_give 77 = .ok (.invokevirtual 193, 3) := by decide +kernel
theorem dX8_give_80 : decode cX8_give 80 = .ok (.ireturn, 1) := by decide +kernel
set_option maxRecDepth 20000 in
theorem ggX8_bidder_X3_hasBidder : GoodIn wsX8_bidder wsX3_hasBidder := goodIn_r _ [7, 8, 34, 35, 36, 37, 38, 39, 40, 41, 42, 43, 44] (by decide +kernel) (by decide +kernel)
set_option maxRecDepth 20000 in
theorem gX8_bidder_X3_hasBidder : GoodIn wsX8_bidder (wsV RX8 156 RX3 yX3_hasBidder wsX3_hasBidder) := goodIn_app (goodIn_of _ (by decide +kernel)) ggX8_bidder_X3_hasBidder
set_option maxRecDepth 20000 in
theorem ggX8_bidder_X3_purse : GoodIn wsX8_bidder wsX3_purse := goodIn_r _ [12, 13, 34, 35, 36, 37, 38, 39, 40, 41, 42, 43, 44] (by decide +kernel) (by decide +kernel)
set_option maxRecDepth 20000 in
theorem gX8_bidder_X3_purse : GoodIn wsX8_bidder (wsV RX8 169 RX3 yX3_purse wsX3_purse) := goodIn_app (goodIn_of _ (by decide +kernel)) ggX8_bidder_X3_purse
set_option maxRecDepth 20000 in
theorem ggX8_bidder_X3_homeOf : GoodIn wsX8_bidder wsX3_homeOf := goodIn_r _ [17, 18, 34, 35, 36, 37, 38, 39, 40, 41, 42, 43, 44] (by decide +kernel) (by decide +kernel)
set_option maxRecDepth 20000 in
theorem gX8_bidder_X3_homeOf : GoodIn wsX8_bidder (wsV RX8 196 RX3 yX3_homeOf wsX3_homeOf) := goodIn_app (goodIn_of _ (by decide +kernel)) ggX8_bidder_X3_homeOf
set_option maxRecDepth 20000 in
theorem ggX8_bidder_X3_cellsOf : GoodIn wsX8_bidder wsX3_cellsOf := goodIn_r _ [22, 23, 34, 35, 36, 37, 38, 39, 40, 41, 42, 43, 44] (by decide +kernel) (by decide +kernel)
set_option maxRecDepth 20000 in
theorem gX8_bidder_X3_cellsOf : GoodIn wsX8_bidder (wsV RX8 193 RX3 yX3_cellsOf wsX3_cellsOf) := goodIn_app (goodIn_of _ (by decide +kernel)) ggX8_bidder_X3_cellsOf
theorem dX8_bidder_0 : decode cX8_bidder 0 = .ok (.aload_n 0, 1) := by decide +kernel
theorem dX8_bidder_1 : decode cX8_bidder 1 = .ok (.getfield 26, 3) := by decide +kernel
theorem dX8_bidder_4 : decode cX8_bidder 4 = .ok (.iload_n 1, 1) := by decide +kernel
theorem dX8_bidder_5 : decode cX8_bidder 5 = .ok (.invokevirtual 156, 3) := by decide +kernel
theorem dX8_bidder_8 : decode cX8_bidder 8 = .ok (.ifCond .ne 6, 3) := by decide +kernel
theorem dX8_bidder_11 : decode cX8_bidder 11 = .ok (.ldc 68, 2) := by decide +kernel
theorem dX8_bidder_13 : decode cX8_bidder 13 = .ok (.ireturn, 1) := by decide +kernel
theorem dX8_bidder_14 : decode cX8_bidder 14 = .ok (.iload_n 2, 1) := by decide +kernel
theorem dX8_bidder_15 : decode cX8_bidder 15 = .ok (.tableswitch 52 0 2 #[25, 34, 43], 25) := by decide +kernel
theorem dX8_bidder_40 : decode cX8_bidder 40 = .ok (.aload_n 0, 1) := by decide +kernel
theorem dX8_bidder_41 : decode cX8_bidder 41 = .ok (.getfield 26, 3) := by decide +kernel
theorem dX8_bidder_44 : decode cX8_bidder 44 = .ok (.iload_n 1, 1) := by decide +kernel
theorem dX8_bidder_45 : decode cX8_bidder 45 = .ok (.invokevirtual 169, 3) := by decide +kernel
theorem dX8_bidder_48 : decode cX8_bidder 48 = .ok (.ireturn, 1) := by decide +kernel
theorem dX8_bidder_49 : decode cX8_bidder 49 = .ok (.aload_n 0, 1) := by decide +kernel
theorem dX8_bidder_50 : decode cX8_bidder 50 = .ok (.getfield 26, 3) := by decide +kernel
theorem dX8_bidder_53 : decode cX8_bidder 53 = .ok (.iload_n 1, 1) := by decide +kernel
theorem dX8_bidder_54 : decode cX8_bidder 54 = .ok (.invokevirtual 196, 3) := by decide +kernel
theorem dX8_bidder_57 : decode cX8_bidder 57 = .ok (.ireturn, 1) := by decide +kernel
theorem dX8_bidder_58 : decode cX8_bidder 58 = .ok (.aload_n 0, 1) := by decide +kernel
theorem dX8_bidder_59 : decode cX8_bidder 59 = .ok (.getfield 26, 3) := by decide +kernel
theorem dX8_bidder_62 : decode cX8_bidder 62 = .ok (.iload_n 1, 1) := by decide +kernel
theorem dX8_bidder_63 : decode cX8_bidder 63 = .ok (.invokevirtual 193, 3) := by decide +kernel
theorem dX8_bidder_66 : decode cX8_bidder 66 = .ok (.ireturn, 1) := by decide +kernel
theorem dX8_bidder_67 : decode cX8_bidder 67 = .ok (.ldc 68, 2) := by decide +kernel
theorem dX8_bidder_69 : decode cX8_bidder 69 = .ok (.ireturn, 1) := by decide +kernel
set_option maxRecDepth 20000 in
theorem ggX8_cell_X3_isTold : GoodIn wsX8_cell wsX3_isTold := goodIn_r _ [13, 14, 55, 56, 57, 58, 59, 60, 61, 62, 63, 64, 65] (by decide +kernel) (by decide +kernel)
set_option maxRecDepth 20000 in
theorem gX8_cell_X3_isTold : GoodIn wsX8_cell (wsV RX8 140 RX3 yX3_isTold wsX3_isTold) := goodIn_app (goodIn_of _ (by decide +kernel)) ggX8_cell_X3_isTold
set_option maxRecDepth 20000 in
theorem ggX8_cell_X8_isCell : GoodIn wsX8_cell wsX8_isCell := goodIn_r _ [18] (by decide +kernel) (by decide +kernel)
set_option maxRecDepth 20000 in
theorem gX8_cell_X8_isCell : GoodIn wsX8_cell (va_wsS RX8 159 yX8_isCell wsX8_isCell) := goodIn_app (goodIn_of _ (by decide +kernel)) ggX8_cell_X8_isCell
set_option maxRecDepth 20000 in
theorem ggX8_cell_X3_height : GoodIn wsX8_cell wsX3_height := goodIn_r _ [22, 23, 55, 56, 57, 58, 59, 60, 61, 62, 63, 64, 65] (by decide +kernel) (by decide +kernel)
set_option maxRecDepth 20000 in
theorem gX8_cell_X3_height : GoodIn wsX8_cell (wsV RX8 183 RX3 yX3_height wsX3_height) := goodIn_app (goodIn_of _ (by decide +kernel)) ggX8_cell_X3_height
set_option maxRecDepth 20000 in
theorem ggX8_cell_X3_isHeld : GoodIn wsX8_cell wsX3_isHeld := goodIn_r _ [27, 28, 55, 56, 57, 58, 59, 60, 61, 62, 63, 64, 65] (by decide +kernel) (by decide +kernel)
set_option maxRecDepth 20000 in
theorem gX8_cell_X3_isHeld : GoodIn wsX8_cell (wsV RX8 162 RX3 yX3_isHeld wsX3_isHeld) := goodIn_app (goodIn_of _ (by decide +kernel)) ggX8_cell_X3_isHeld
set_option maxRecDepth 20000 in
theorem ggX8_cell_X3_holder : GoodIn wsX8_cell wsX3_holder := goodIn_r _ [32, 28, 55, 56, 57, 58, 59, 60, 61, 62, 63, 64, 65] (by decide +kernel) (by decide +kernel)
set_option maxRecDepth 20000 in
theorem gX8_cell_X3_holder : GoodIn wsX8_cell (wsV RX8 180 RX3 yX3_holder wsX3_holder) := goodIn_app (goodIn_of _ (by decide +kernel)) ggX8_cell_X3_holder
set_option maxRecDepth 20000 in
theorem ggX8_cell_X3_isDryBehind : GoodIn wsX8_cell wsX3_isDryBehind := goodIn_r _ [36, 23, 37, 38, 39, 12, 40, 41, 42, 43, 55, 56, 57, 58, 59, 60, 61, 62, 63, 64, 65] (by decide +kernel) (by decide +kernel)
set_option maxRecDepth 20000 in
theorem gX8_cell_X3_isDryBehind : GoodIn wsX8_cell (wsV RX8 200 RX3 yX3_isDryBehind wsX3_isDryBehind) := goodIn_app (goodIn_of _ (by decide +kernel)) ggX8_cell_X3_isDryBehind
set_option maxRecDepth 20000 in
theorem ggX8_cell_X3_levelBehind : GoodIn wsX8_cell wsX3_levelBehind := goodIn_r _ [40, 41, 42, 43, 55, 56, 57, 58, 59, 60, 61, 62, 63, 64, 65] (by decide +kernel) (by decide +kernel)
set_option maxRecDepth 20000 in
theorem gX8_cell_X3_levelBehind : GoodIn wsX8_cell (wsV RX8 203 RX3 yX3_levelBehind wsX3_levelBehind) := goodIn_app (goodIn_of _ (by decide +kernel)) ggX8_cell_X3_levelBehind
theorem dX8_cell_0 : decode cX8_cell 0 = .ok (.aload_n 0, 1) := by decide +kernel
theorem dX8_cell_1 : decode cX8_cell 1 = .ok (.getfield 26, 3) := by decide +kernel
theorem dX8_cell_4 : decode cX8_cell 4 = .ok (.invokevirtual 140, 3) := by decide +kernel
theorem dX8_cell_7 : decode cX8_cell 7 = .ok (.ifCond .ne 6, 3) := by decide +kernel
theorem dX8_cell_10 : decode cX8_cell 10 = .ok (.ldc 136, 2) := by decide +kernel
theorem dX8_cell_12 : decode cX8_cell 12 = .ok (.ireturn, 1) := by decide +kernel
theorem dX8_cell_13 : decode cX8_cell 13 = .ok (.iload_n 1, 1) := by decide +kernel
theorem dX8_cell_14 : decode cX8_cell 14 = .ok (.invokestatic 159, 3) := by decide +kernel
theorem dX8_cell_17 : decode cX8_cell 17 = .ok (.ifCond .ne 6, 3) := by decide +kernel
theorem dX8_cell_20 : decode cX8_cell 20 = .ok (.ldc 68, 2) := by decide +kernel
theorem dX8_cell_22 : decode cX8_cell 22 = .ok (.ireturn, 1) := by decide +kernel
theorem dX8_cell_23 : decode cX8_cell 23 = .ok (.iload_n 2, 1) := by decide +kernel
theorem dX8_cell_24 : decode cX8_cell 24 = .ok (.tableswitch 106 0 3 #[32, 41, 66, 84], 32) := by decide +kernel
theorem dX8_cell_56 : decode cX8_cell 56 = .ok (.aload_n 0, 1) := by decide +kernel
theorem dX8_cell_57 : decode cX8_cell 57 = .ok (.getfield 26, 3) := by decide +kernel
theorem dX8_cell_60 : decode cX8_cell 60 = .ok (.iload_n 1, 1) := by decide +kernel
theorem dX8_cell_61 : decode cX8_cell 61 = .ok (.invokevirtual 183, 3) := by decide +kernel
theorem dX8_cell_64 : decode cX8_cell 64 = .ok (.ireturn, 1) := by decide +kernel
theorem dX8_cell_65 : decode cX8_cell 65 = .ok (.aload_n 0, 1) := by decide +kernel
theorem dX8_cell_66 : decode cX8_cell 66 = .ok (.getfield 26, 3) := by decide +kernel
theorem dX8_cell_69 : decode cX8_cell 69 = .ok (.iload_n 1, 1) := by decide +kernel
theorem dX8_cell_70 : decode cX8_cell 70 = .ok (.invokevirtual 162, 3) := by decide +kernel
theorem dX8_cell_73 : decode cX8_cell 73 = .ok (.ifCond .eq 14, 3) := by decide +kernel
theorem dX8_cell_76 : decode cX8_cell 76 = .ok (.aload_n 0, 1) := by decide +kernel
theorem dX8_cell_77 : decode cX8_cell 77 = .ok (.getfield 26, 3) := by decide +kernel
theorem dX8_cell_80 : decode cX8_cell 80 = .ok (.iload_n 1, 1) := by decide +kernel
theorem dX8_cell_81 : decode cX8_cell 81 = .ok (.invokevirtual 180, 3) := by decide +kernel
theorem dX8_cell_84 : decode cX8_cell 84 = .ok (.goto 5, 3) := by decide +kernel
theorem dX8_cell_87 : decode cX8_cell 87 = .ok (.ldc 199, 2) := by decide +kernel
theorem dX8_cell_89 : decode cX8_cell 89 = .ok (.ireturn, 1) := by decide +kernel
theorem dX8_cell_90 : decode cX8_cell 90 = .ok (.aload_n 0, 1) := by decide +kernel
theorem dX8_cell_91 : decode cX8_cell 91 = .ok (.getfield 26, 3) := by decide +kernel
theorem dX8_cell_94 : decode cX8_cell 94 = .ok (.iconst 0, 1) := by decide +kernel
theorem dX8_cell_95 : decode cX8_cell 95 = .ok (.iload_n 1, 1) := by decide +kernel
theorem dX8_cell_96 : decode cX8_cell 96 = .ok (.invokevirtual 200, 3) := by decide +kernel
theorem dX8_cell_99 : decode cX8_cell 99 = .ok (.ifCond .eq 7, 3) := by decide +kernel
theorem dX8_cell_102 : decode cX8_cell 102 = .ok (.iconst 1, 1) := by decide +kernel
theorem dX8_cell_103 : decode cX8_cell 103 = .ok (.goto 4, 3) := by decide +kernel
theorem dX8_cell_106 : decode cX8_cell 106 = .ok (.iconst 0, 1) := by decide +kernel
theorem dX8_cell_107 : decode cX8_cell 107 = .ok (.ireturn, 1) := by decide +kernel
theorem dX8_cell_108 : decode cX8_cell 108 = .ok (.iconst 0, 1) := by decide +kernel
theorem dX8_cell_109 : decode cX8_cell 109 = .ok (.aload_n 0, 1) := by decide +kernel
theorem dX8_cell_110 : decode cX8_cell 110 = .ok (.getfield 26, 3) := by decide +kernel
theorem dX8_cell_113 : decode cX8_cell 113 = .ok (.iconst 0, 1) := by decide +kernel
theorem dX8_cell_114 : decode cX8_cell 114 = .ok (.invokevirtual 203, 3) := by decide +kernel
theorem dX8_cell_117 : decode cX8_cell 117 = .ok (.aload_n 0, 1) := by decide +kernel
theorem dX8_cell_118 : decode cX8_cell 118 = .ok (.getfield 26, 3) := by decide +kernel
theorem dX8_cell_121 : decode cX8_cell 121 = .ok (.iload_n 1, 1) := by decide +kernel
theorem dX8_cell_122 : decode cX8_cell 122 = .ok (.invokevirtual 183, 3) := by decide +kernel
theorem dX8_cell_125 : decode cX8_cell 125 = .ok (.isub, 1) := by decide +kernel
theorem dX8_cell_126 : decode cX8_cell 126 = .ok (.invokestatic 206, 3) := by decide +kernel
theorem dX8_cell_129 : decode cX8_cell 129 = .ok (.ireturn, 1) := by decide +kernel
theorem dX8_cell_130 : decode cX8_cell 130 = .ok (.ldc 68, 2) := by decide +kernel
theorem dX8_cell_132 : decode cX8_cell 132 = .ok (.ireturn, 1) := by decide +kernel
set_option maxRecDepth 20000 in
theorem ggX8_price_X3_hasBidder : GoodIn wsX8_price wsX3_hasBidder := goodIn_r _ [8, 9, 57, 58, 59, 60, 61, 62, 63, 64, 65, 66, 67] (by decide +kernel) (by decide +kernel)
set_option maxRecDepth 20000 in
theorem gX8_price_X3_hasBidder : GoodIn wsX8_price (wsV RX8 156 RX3 yX3_hasBidder wsX3_hasBidder) := goodIn_app (goodIn_of _ (by decide +kernel)) ggX8_price_X3_hasBidder
set_option maxRecDepth 20000 in
theorem ggX8_price_X8_isCell : GoodIn wsX8_price wsX8_isCell := goodIn_r _ [13] (by decide +kernel) (by decide +kernel)
set_option maxRecDepth 20000 in
theorem gX8_price_X8_isCell : GoodIn wsX8_price (va_wsS RX8 159 yX8_isCell wsX8_isCell) := goodIn_app (goodIn_of _ (by decide +kernel)) ggX8_price_X8_isCell
set_option maxRecDepth 20000 in
theorem ggX8_price_X3_canHave : GoodIn wsX8_price wsX3_canHave := goodIn_r _ [17, 18, 19, 20, 21, 7, 22, 23, 24, 25, 26, 27, 28, 29, 30, 31, 32, 33, 34, 57, 58, 59, 60, 61, 62, 63, 64, 65, 66, 67] (by decide +kernel) (by decide +kernel)
set_option maxRecDepth 20000 in
theorem gX8_price_X3_canHave : GoodIn wsX8_price (wsV RX8 165 RX3 yX3_canHave wsX3_canHave) := goodIn_app (goodIn_of _ (by decide +kernel)) ggX8_price_X3_canHave
set_option maxRecDepth 20000 in
theorem ggX8_price_X3_costTo : GoodIn wsX8_price wsX3_costTo := goodIn_r _ [38, 18, 39, 40, 41, 7, 42, 43, 23, 44, 45, 33, 46, 57, 58, 59, 60, 61, 62, 63, 64, 65, 66, 67] (by decide +kernel) (by decide +kernel)
set_option maxRecDepth 20000 in
theorem gX8_price_X3_costTo : GoodIn wsX8_price (wsV RX8 172 RX3 yX3_costTo wsX3_costTo) := goodIn_app (goodIn_of _ (by decide +kernel)) ggX8_price_X3_costTo
theorem dX8_price_0 : decode cX8_price 0 = .ok (.aload_n 0, 1) := by decide +kernel
theorem dX8_price_1 : decode cX8_price 1 = .ok (.getfield 26, 3) := by decide +kernel
theorem dX8_price_4 : decode cX8_price 4 = .ok (.iload_n 1, 1) := by decide +kernel
theorem dX8_price_5 : decode cX8_price 5 = .ok (.invokevirtual 156, 3) := by decide +kernel
theorem dX8_price_8 : decode cX8_price 8 = .ok (.ifCond .eq 10, 3) := by decide +kernel
theorem dX8_price_11 : decode cX8_price 11 = .ok (.iload_n 2, 1) := by decide +kernel
theorem dX8_price_12 : decode cX8_price 12 = .ok (.invokestatic 159, 3) := by decide +kernel
theorem dX8_price_15 : decode cX8_price 15 = .ok (.ifCond .ne 6, 3) := by decide +kernel
theorem dX8_price_18 : decode cX8_price 18 = .ok (.ldc 68, 2) := by decide +kernel
theorem dX8_price_20 : decode cX8_price 20 = .ok (.ireturn, 1) := by decide +kernel
theorem dX8_price_21 : decode cX8_price 21 = .ok (.aload_n 0, 1) := by decide +kernel
theorem dX8_price_22 : decode cX8_price 22 = .ok (.getfield 26, 3) := by decide +kernel
theorem dX8_price_25 : decode cX8_price 25 = .ok (.iload_n 1, 1) := by decide +kernel
theorem dX8_price_26 : decode cX8_price 26 = .ok (.iload_n 2, 1) := by decide +kernel
theorem dX8_price_27 : decode cX8_price 27 = .ok (.invokevirtual 165, 3) := by decide +kernel
theorem dX8_price_30 : decode cX8_price 30 = .ok (.ifCond .eq 15, 3) := by decide +kernel
theorem dX8_price_33 : decode cX8_price 33 = .ok (.aload_n 0, 1) := by decide +kernel
theorem dX8_price_34 : decode cX8_price 34 = .ok (.getfield 26, 3) := by decide +kernel
theorem dX8_price_37 : decode cX8_price 37 = .ok (.iload_n 1, 1) := by decide +kernel
theorem dX8_price_38 : decode cX8_price 38 = .ok (.iload_n 2, 1) := by decide +kernel
theorem dX8_price_39 : decode cX8_price 39 = .ok (.invokevirtual 172, 3) := by decide +kernel
theorem dX8_price_42 : decode cX8_price 42 = .ok (.goto 5, 3) := by decide +kernel
theorem dX8_price_45 : decode cX8_price 45 = .ok (.ldc 199, 2) := by decide +kernel
theorem dX8_price_47 : decode cX8_price 47 = .ok (.ireturn, 1) := by decide +kernel
set_option maxRecDepth 20000 in
theorem ggX8_ahead_X3_isTold : GoodIn wsX8_ahead wsX3_isTold := goodIn_r _ [8, 9, 47, 48, 49, 50, 51, 52, 53, 54, 55, 56, 57] (by decide +kernel) (by decide +kernel)
set_option maxRecDepth 20000 in
theorem gX8_ahead_X3_isTold : GoodIn wsX8_ahead (wsV RX8 140 RX3 yX3_isTold wsX3_isTold) := goodIn_app (goodIn_of _ (by decide +kernel)) ggX8_ahead_X3_isTold
set_option maxRecDepth 20000 in
theorem ggX8_ahead_X3_levelBehind : GoodIn wsX8_ahead wsX3_levelBehind := goodIn_r _ [13, 14, 15, 16, 47, 48, 49, 50, 51, 52, 53, 54, 55, 56, 57] (by decide +kernel) (by decide +kernel)
set_option maxRecDepth 20000 in
theorem gX8_ahead_X3_levelBehind : GoodIn wsX8_ahead (wsV RX8 203 RX3 yX3_levelBehind wsX3_levelBehind) := goodIn_app (goodIn_of _ (by decide +kernel)) ggX8_ahead_X3_levelBehind
set_option maxRecDepth 20000 in
theorem ggX8_ahead_X3_dryBehind : GoodIn wsX8_ahead wsX3_dryBehind := goodIn_r _ [20, 21, 11, 12, 7, 13, 14, 15, 16, 22, 23, 24, 25, 26, 47, 48, 49, 50, 51, 52, 53, 54, 55, 56, 57] (by decide +kernel) (by decide +kernel)
set_option maxRecDepth 20000 in
theorem gX8_ahead_X3_dryBehind : GoodIn wsX8_ahead (wsV RX8 211 RX3 yX3_dryBehind wsX3_dryBehind) := goodIn_app (goodIn_of _ (by decide +kernel)) ggX8_ahead_X3_dryBehind
set_option maxRecDepth 20000 in
theorem ggX8_ahead_X6_parts : GoodIn wsX8_ahead wsX6_parts := goodIn_r _ [30, 31, 32, 29, 33, 34, 35, 36] (by decide +kernel) (by decide +kernel)
set_option maxRecDepth 20000 in
theorem gX8_ahead_X6_parts : GoodIn wsX8_ahead (va_wsS RX8 214 yX6_parts wsX6_parts) := goodIn_app (goodIn_of _ (by decide +kernel)) ggX8_ahead_X6_parts
theorem dX8_ahead_0 : decode cX8_ahead 0 = .ok (.aload_n 0, 1) := by decide +kernel
theorem dX8_ahead_1 : decode cX8_ahead 1 = .ok (.getfield 26, 3) := by decide +kernel
theorem dX8_ahead_4 : decode cX8_ahead 4 = .ok (.invokevirtual 140, 3) := by decide +kernel
theorem dX8_ahead_7 : decode cX8_ahead 7 = .ok (.ifCond .ne 6, 3) := by decide +kernel
theorem dX8_ahead_10 : decode cX8_ahead 10 = .ok (.ldc 136, 2) := by decide +kernel
theorem dX8_ahead_12 : decode cX8_ahead 12 = .ok (.ireturn, 1) := by decide +kernel
theorem dX8_ahead_13 : decode cX8_ahead 13 = .ok (.iload_n 1, 1) := by decide +kernel
theorem dX8_ahead_14 : decode cX8_ahead 14 = .ok (.ifCond .lt 9, 3) := by decide +kernel
theorem dX8_ahead_17 : decode cX8_ahead 17 = .ok (.iload_n 1, 1) := by decide +kernel
theorem dX8_ahead_18 : decode cX8_ahead 18 = .ok (.bipush 60, 2) := by decide +kernel
theorem dX8_ahead_20 : decode cX8_ahead 20 = .ok (.if_icmp .le 6, 3) := by decide +kernel
theorem dX8_ahead_23 : decode cX8_ahead 23 = .ok (.ldc 68, 2) := by decide +kernel
theorem dX8_ahead_25 : decode cX8_ahead 25 = .ok (.ireturn, 1) := by decide +kernel
theorem dX8_ahead_26 : decode cX8_ahead 26 = .ok (.iload_n 2, 1) := by decide +kernel
theorem dX8_ahead_27 : decode cX8_ahead 27 = .ok (.tableswitch 55 0 2 #[25, 34, 43], 25) := by decide +kernel
theorem dX8_ahead_52 : decode cX8_ahead 52 = .ok (.aload_n 0, 1) := by decide +kernel
theorem dX8_ahead_53 : decode cX8_ahead 53 = .ok (.getfield 26, 3) := by decide +kernel
theorem dX8_ahead_56 : decode cX8_ahead 56 = .ok (.iload_n 1, 1) := by decide +kernel
theorem dX8_ahead_57 : decode cX8_ahead 57 = .ok (.invokevirtual 203, 3) := by decide +kernel
theorem dX8_ahead_60 : decode cX8_ahead 60 = .ok (.ireturn, 1) := by decide +kernel
theorem dX8_ahead_61 : decode cX8_ahead 61 = .ok (.aload_n 0, 1) := by decide +kernel
theorem dX8_ahead_62 : decode cX8_ahead 62 = .ok (.getfield 26, 3) := by decide +kernel
theorem dX8_ahead_65 : decode cX8_ahead 65 = .ok (.iload_n 1, 1) := by decide +kernel
theorem dX8_ahead_66 : decode cX8_ahead 66 = .ok (.invokevirtual 211, 3) := by decide +kernel
theorem dX8_ahead_69 : decode cX8_ahead 69 = .ok (.ireturn, 1) := by decide +kernel
theorem dX8_ahead_70 : decode cX8_ahead 70 = .ok (.aload_n 0, 1) := by decide +kernel
theorem dX8_ahead_71 : decode cX8_ahead 71 = .ok (.getfield 26, 3) := by decide +kernel
theorem dX8_ahead_74 : decode cX8_ahead 74 = .ok (.iload_n 1, 1) := by decide +kernel
theorem dX8_ahead_75 : decode cX8_ahead 75 = .ok (.invokevirtual 211, 3) := by decide +kernel
theorem dX8_ahead_78 : decode cX8_ahead 78 = .ok (.invokestatic 214, 3) := by decide +kernel
theorem dX8_ahead_81 : decode cX8_ahead 81 = .ok (.ireturn, 1) := by decide +kernel
theorem dX8_ahead_82 : decode cX8_ahead 82 = .ok (.ldc 68, 2) := by decide +kernel
theorem dX8_ahead_84 : decode cX8_ahead 84 = .ok (.ireturn, 1) := by decide +kernel
set_option maxRecDepth 20000 in
theorem ggX8_stays_X3_isTold : GoodIn wsX8_stays wsX3_isTold := goodIn_r _ [9, 10, 51, 52, 53, 54, 55, 56, 57, 58, 59, 60, 61] (by decide +kernel) (by decide +kernel)
set_option maxRecDepth 20000 in
theorem gX8_stays_X3_isTold : GoodIn wsX8_stays (wsV RX8 140 RX3 yX3_isTold wsX3_isTold) := goodIn_app (goodIn_of _ (by decide +kernel)) ggX8_stays_X3_isTold
set_option maxRecDepth 20000 in
theorem ggX8_stays_X8_isCell : GoodIn wsX8_stays wsX8_isCell := goodIn_r _ [14] (by decide +kernel) (by decide +kernel)
set_option maxRecDepth 20000 in
theorem gX8_stays_X8_isCell : GoodIn wsX8_stays (va_wsS RX8 159 yX8_isCell wsX8_isCell) := goodIn_app (goodIn_of _ (by decide +kernel)) ggX8_stays_X8_isCell
set_option maxRecDepth 20000 in
theorem ggX8_stays_X3_isHeld : GoodIn wsX8_stays wsX3_isHeld := goodIn_r _ [18, 19, 51, 52, 53, 54, 55, 56, 57, 58, 59, 60, 61] (by decide +kernel) (by decide +kernel)
set_option maxRecDepth 20000 in
theorem gX8_stays_X3_isHeld : GoodIn wsX8_stays (wsV RX8 162 RX3 yX3_isHeld wsX3_isHeld) := goodIn_app (goodIn_of _ (by decide +kernel)) ggX8_stays_X3_isHeld
set_option maxRecDepth 20000 in
theorem ggX8_stays_X3_holder : GoodIn wsX8_stays wsX3_holder := goodIn_r _ [23, 19, 51, 52, 53, 54, 55, 56, 57, 58, 59, 60, 61] (by decide +kernel) (by decide +kernel)
set_option maxRecDepth 20000 in
theorem gX8_stays_X3_holder : GoodIn wsX8_stays (wsV RX8 180 RX3 yX3_holder wsX3_holder) := goodIn_app (goodIn_of _ (by decide +kernel)) ggX8_stays_X3_holder
set_option maxRecDepth 20000 in
theorem ggX8_stays_X3_hoursTillLost : GoodIn wsX8_stays wsX3_hoursTillLost := goodIn_r _ [27, 28, 29, 30, 31, 32, 8, 33, 34, 35, 36, 37, 38, 39, 40, 51, 52, 53, 54, 55, 56, 57, 58, 59, 60, 61] (by decide +kernel) (by decide +kernel)
set_option maxRecDepth 20000 in
theorem gX8_stays_X3_hoursTillLost : GoodIn wsX8_stays (wsV RX8 219 RX3 yX3_hoursTillLost wsX3_hoursTillLost) := goodIn_app (goodIn_of _ (by decide +kernel)) ggX8_stays_X3_hoursTillLost
theorem dX8_stays_0 : decode cX8_stays 0 = .ok (.aload_n 0, 1) := by decide +kernel
theorem dX8_stays_1 : decode cX8_stays 1 = .ok (.getfield 26, 3) := by decide +kernel
theorem dX8_stays_4 : decode cX8_stays 4 = .ok (.invokevirtual 140, 3) := by decide +kernel
theorem dX8_stays_7 : decode cX8_stays 7 = .ok (.ifCond .ne 6, 3) := by decide +kernel
theorem dX8_stays_10 : decode cX8_stays 10 = .ok (.ldc 136, 2) := by decide +kernel
theorem dX8_stays_12 : decode cX8_stays 12 = .ok (.ireturn, 1) := by decide +kernel
theorem dX8_stays_13 : decode cX8_stays 13 = .ok (.iload_n 1, 1) := by decide +kernel
theorem dX8_stays_14 : decode cX8_stays 14 = .ok (.invokestatic 159, 3) := by decide +kernel
theorem dX8_stays_17 : decode cX8_stays 17 = .ok (.ifCond .ne 6, 3) := by decide +kernel
theorem dX8_stays_20 : decode cX8_stays 20 = .ok (.ldc 68, 2) := by decide +kernel
theorem dX8_stays_22 : decode cX8_stays 22 = .ok (.ireturn, 1) := by decide +kernel
theorem dX8_stays_23 : decode cX8_stays 23 = .ok (.aload_n 0, 1) := by decide +kernel
theorem dX8_stays_24 : decode cX8_stays 24 = .ok (.getfield 26, 3) := by decide +kernel
theorem dX8_stays_27 : decode cX8_stays 27 = .ok (.iload_n 1, 1) := by decide +kernel
theorem dX8_stays_28 : decode cX8_stays 28 = .ok (.invokevirtual 162, 3) := by decide +kernel
theorem dX8_stays_31 : decode cX8_stays 31 = .ok (.ifCond .ne 6, 3) := by decide +kernel
theorem dX8_stays_34 : decode cX8_stays 34 = .ok (.ldc 199, 2) := by decide +kernel
theorem dX8_stays_36 : decode cX8_stays 36 = .ok (.ireturn, 1) := by decide +kernel
theorem dX8_stays_37 : decode cX8_stays 37 = .ok (.aload_n 0, 1) := by decide +kernel
theorem dX8_stays_38 : decode cX8_stays 38 = .ok (.getfield 26, 3) := by decide +kernel
theorem dX8_stays_41 : decode cX8_stays 41 = .ok (.aload_n 0, 1) := by decide +kernel
theorem dX8_stays_42 : decode cX8_stays 42 = .ok (.getfield 26, 3) := by decide +kernel
theorem dX8_stays_45 : decode cX8_stays 45 = .ok (.iload_n 1, 1) := by decide +kernel
theorem dX8_stays_46 : decode cX8_stays 46 = .ok (.invokevirtual 180, 3) := by decide +kernel
theorem dX8_stays_49 : decode cX8_stays 49 = .ok (.iload_n 1, 1) := by decide +kernel
theorem dX8_stays_50 : decode cX8_stays 50 = .ok (.bipush 60, 2) := by decide +kernel
theorem dX8_stays_52 : decode cX8_stays 52 = .ok (.invokevirtual 219, 3) := by decide +kernel
theorem dX8_stays_55 : decode cX8_stays 55 = .ok (.istore_n 2, 1) := by decide +kernel
theorem dX8_stays_56 : decode cX8_stays 56 = .ok (.iload_n 2, 1) := by decide +kernel
theorem dX8_stays_57 : decode cX8_stays 57 = .ok (.bipush 60, 2) := by decide +kernel
theorem dX8_stays_59 : decode cX8_stays 59 = .ok (.if_icmp .le 8, 3) := by decide +kernel
theorem dX8_stays_62 : decode cX8_stays 62 = .ok (.ldc 199, 2) := by decide +kernel
theorem dX8_stays_64 : decode cX8_stays 64 = .ok (.goto 4, 3) := by decide +kernel
theorem dX8_stays_67 : decode cX8_stays 67 = .ok (.iload_n 2, 1) := by decide +kernel
theorem dX8_stays_68 : decode cX8_stays 68 = .ok (.ireturn, 1) := by decide +kernel
set_option maxRecDepth 20000 in
theorem ggX8_when_X3_isTold : GoodIn wsX8_when wsX3_isTold := goodIn_r _ [9, 10, 40, 41, 42, 43, 44, 45, 46, 47, 48, 49, 50] (by decide +kernel) (by decide +kernel)
set_option maxRecDepth 20000 in
theorem gX8_when_X3_isTold : GoodIn wsX8_when (wsV RX8 140 RX3 yX3_isTold wsX3_isTold) := goodIn_app (goodIn_of _ (by decide +kernel)) ggX8_when_X3_isTold
set_option maxRecDepth 20000 in
theorem ggX8_when_X8_isCell : GoodIn wsX8_when wsX8_isCell := goodIn_r _ [14] (by decide +kernel) (by decide +kernel)
set_option maxRecDepth 20000 in
theorem gX8_when_X8_isCell : GoodIn wsX8_when (va_wsS RX8 159 yX8_isCell wsX8_isCell) := goodIn_app (goodIn_of _ (by decide +kernel)) ggX8_when_X8_isCell
set_option maxRecDepth 20000 in
theorem ggX8_when_X8_isChoice : GoodIn wsX8_when wsX8_isChoice := goodIn_r _ [17] (by decide +kernel) (by decide +kernel)
set_option maxRecDepth 20000 in
theorem gX8_when_X8_isChoice : GoodIn wsX8_when (va_wsS RX8 222 yX8_isChoice wsX8_isChoice) := goodIn_app (goodIn_of _ (by decide +kernel)) ggX8_when_X8_isChoice
set_option maxRecDepth 20000 in
theorem ggX8_when_X3_isDryBehind : GoodIn wsX8_when wsX3_isDryBehind := goodIn_r _ [21, 22, 23, 24, 25, 8, 26, 27, 28, 29, 40, 41, 42, 43, 44, 45, 46, 47, 48, 49, 50] (by decide +kernel) (by decide +kernel)
set_option maxRecDepth 20000 in
theorem gX8_when_X3_isDryBehind : GoodIn wsX8_when (wsV RX8 200 RX3 yX3_isDryBehind wsX3_isDryBehind) := goodIn_app (goodIn_of _ (by decide +kernel)) ggX8_when_X3_isDryBehind
theorem dX8_when_0 : decode cX8_when 0 = .ok (.aload_n 0, 1) := by decide +kernel
theorem dX8_when_1 : decode cX8_when 1 = .ok (.getfield 26, 3) := by decide +kernel
theorem dX8_when_4 : decode cX8_when 4 = .ok (.invokevirtual 140, 3) := by decide +kernel
theorem dX8_when_7 : decode cX8_when 7 = .ok (.ifCond .ne 6, 3) := by decide +kernel
theorem dX8_when_10 : decode cX8_when 10 = .ok (.ldc 136, 2) := by decide +kernel
theorem dX8_when_12 : decode cX8_when 12 = .ok (.ireturn, 1) := by decide +kernel
theorem dX8_when_13 : decode cX8_when 13 = .ok (.iload_n 1, 1) := by decide +kernel
theorem dX8_when_14 : decode cX8_when 14 = .ok (.invokestatic 159, 3) := by decide +kernel
theorem dX8_when_17 : decode cX8_when 17 = .ok (.ifCond .eq 10, 3) := by decide +kernel
theorem dX8_when_20 : decode cX8_when 20 = .ok (.iload_n 2, 1) := by decide +kernel
theorem dX8_when_21 : decode cX8_when 21 = .ok (.invokestatic 222, 3) := by decide +kernel
theorem dX8_when_24 : decode cX8_when 24 = .ok (.ifCond .ne 6, 3) := by decide +kernel
theorem dX8_when_27 : decode cX8_when 27 = .ok (.ldc 68, 2) := by decide +kernel
theorem dX8_when_29 : decode cX8_when 29 = .ok (.ireturn, 1) := by decide +kernel
theorem dX8_when_30 : decode cX8_when 30 = .ok (.iconst 0, 1) := by decide +kernel
theorem dX8_when_31 : decode cX8_when 31 = .ok (.istore_n 3, 1) := by decide +kernel
theorem dX8_when_32 : decode cX8_when 32 = .ok (.iload_n 3, 1) := by decide +kernel
theorem dX8_when_33 : decode cX8_when 33 = .ok (.bipush 60, 2) := by decide +kernel
theorem dX8_when_35 : decode cX8_when 35 = .ok (.if_icmp .gt 33, 3) := by decide +kernel
theorem dX8_when_38 : decode cX8_when 38 = .ok (.aload_n 0, 1) := by decide +kernel
theorem dX8_when_39 : decode cX8_when 39 = .ok (.getfield 26, 3) := by decide +kernel
theorem dX8_when_42 : decode cX8_when 42 = .ok (.iload_n 3, 1) := by decide +kernel
theorem dX8_when_43 : decode cX8_when 43 = .ok (.iload_n 1, 1) := by decide +kernel
theorem dX8_when_44 : decode cX8_when 44 = .ok (.invokevirtual 200, 3) := by decide +kernel
theorem dX8_when_47 : decode cX8_when 47 = .ok (.iload_n 2, 1) := by decide +kernel
theorem dX8_when_48 : decode cX8_when 48 = .ok (.iconst 1, 1) := by decide +kernel
theorem dX8_when_49 : decode cX8_when 49 = .ok (.if_icmp .ne 7, 3) := by decide +kernel
theorem dX8_when_52 : decode cX8_when 52 = .ok (.iconst 1, 1) := by decide +kernel
theorem dX8_when_53 : decode cX8_when 53 = .ok (.goto 4, 3) := by decide +kernel
theorem dX8_when_56 : decode cX8_when 56 = .ok (.iconst 0, 1) := by decide +kernel
theorem dX8_when_57 : decode cX8_when 57 = .ok (.if_icmp .ne 5, 3) := by decide +kernel
theorem dX8_when_60 : decode cX8_when 60 = .ok (.iload_n 3, 1) := by decide +kernel
theorem dX8_when_61 : decode cX8_when 61 = .ok (.ireturn, 1) := by decide +kernel
theorem dX8_when_62 : decode cX8_when 62 = .ok (.iinc 3 1, 3) := by decide +kernel
theorem dX8_when_65 : decode cX8_when 65 = .ok (.goto (-33), 3) := by decide +kernel
theorem dX8_when_68 : decode cX8_when 68 = .ok (.ldc 199, 2) := by decide +kernel
theorem dX8_when_70 : decode cX8_when 70 = .ok (.ireturn, 1) := by decide +kernel
set_option maxRecDepth 20000 in
theorem ggX8_cuts_X3_isTold : GoodIn wsX8_cuts wsX3_isTold := goodIn_r _ [7, 8, 48, 49, 50, 51, 52, 53, 54, 55, 56, 57, 58] (by decide +kernel) (by decide +kernel)
set_option maxRecDepth 20000 in
theorem gX8_cuts_X3_isTold : GoodIn wsX8_cuts (wsV RX8 140 RX3 yX3_isTold wsX3_isTold) := goodIn_app (goodIn_of _ (by decide +kernel)) ggX8_cuts_X3_isTold
set_option maxRecDepth 20000 in
theorem ggX8_cuts_X3_dryBehind : GoodIn wsX8_cuts wsX3_dryBehind := goodIn_r _ [12, 13, 14, 15, 6, 16, 17, 18, 19, 20, 21, 22, 23, 24, 48, 49, 50, 51, 52, 53, 54, 55, 56, 57, 58] (by decide +kernel) (by decide +kernel)
set_option maxRecDepth 20000 in
theorem gX8_cuts_X3_dryBehind : GoodIn wsX8_cuts (wsV RX8 211 RX3 yX3_dryBehind wsX3_dryBehind) := goodIn_app (goodIn_of _ (by decide +kernel)) ggX8_cuts_X3_dryBehind
set_option maxRecDepth 20000 in
theorem ggX8_cuts_X6_cutting : GoodIn wsX8_cuts wsX6_cutting := goodIn_r _ [28, 29, 30, 27, 31, 32, 33, 34, 35, 36, 37] (by decide +kernel) (by decide +kernel)
set_option maxRecDepth 20000 in
theorem gX8_cuts_X6_cutting : GoodIn wsX8_cuts (va_wsS RX8 225 yX6_cutting wsX6_cutting) := goodIn_app (goodIn_of _ (by decide +kernel)) ggX8_cuts_X6_cutting
theorem dX8_cuts_0 : decode cX8_cuts 0 = .ok (.aload_n 0, 1) := by decide +kernel
theorem dX8_cuts_1 : decode cX8_cuts 1 = .ok (.getfield 26, 3) := by decide +kernel
theorem dX8_cuts_4 : decode cX8_cuts 4 = .ok (.invokevirtual 140, 3) := by decide +kernel
theorem dX8_cuts_7 : decode cX8_cuts 7 = .ok (.ifCond .eq 17, 3) := by decide +kernel
theorem dX8_cuts_10 : decode cX8_cuts 10 = .ok (.aload_n 0, 1) := by decide +kernel
theorem dX8_cuts_11 : decode cX8_cuts 11 = .ok (.getfield 26, 3) := by decide +kernel
theorem dX8_cuts_14 : decode cX8_cuts 14 = .ok (.iconst 0, 1) := by decide +kernel
theorem dX8_cuts_15 : decode cX8_cuts 15 = .ok (.invokevirtual 211, 3) := by decide +kernel
theorem dX8_cuts_18 : decode cX8_cuts 18 = .ok (.invokestatic 225, 3) := by decide +kernel
theorem dX8_cuts_21 : decode cX8_cuts 21 = .ok (.goto 5, 3) := by decide +kernel
theorem dX8_cuts_24 : decode cX8_cuts 24 = .ok (.ldc 136, 2) := by decide +kernel
theorem dX8_cuts_26 : decode cX8_cuts 26 = .ok (.ireturn, 1) := by decide +kernel
set_option maxRecDepth 20000 in
theorem ggX8_home_X3_hasBidder : GoodIn wsX8_home wsX3_hasBidder := goodIn_r _ [8, 9, 58, 59, 60, 61, 62, 63, 64, 65, 66, 67, 68] (by decide +kernel) (by decide +kernel)
set_option maxRecDepth 20000 in
theorem gX8_home_X3_hasBidder : GoodIn wsX8_home (wsV RX8 156 RX3 yX3_hasBidder wsX3_hasBidder) := goodIn_app (goodIn_of _ (by decide +kernel)) ggX8_home_X3_hasBidder
set_option maxRecDepth 20000 in
theorem ggX8_home_X8_isCell : GoodIn wsX8_home wsX8_isCell := goodIn_r _ [13] (by decide +kernel) (by decide +kernel)
set_option maxRecDepth 20000 in
theorem gX8_home_X8_isCell : GoodIn wsX8_home (va_wsS RX8 159 yX8_isCell wsX8_isCell) := goodIn_app (goodIn_of _ (by decide +kernel)) ggX8_home_X8_isCell
set_option maxRecDepth 20000 in
theorem ggX8_home_X3_hoursToHome : GoodIn wsX8_home wsX3_hoursToHome := goodIn_r _ [17, 18, 19, 20, 21, 7, 22, 23, 24, 25, 26, 27, 28, 29, 30, 31, 32, 33, 34, 35, 36, 37, 38, 39, 40, 41, 42, 43, 44, 45, 46, 47, 58, 59, 60, 61, 62, 63, 64, 65, 66, 67, 68] (by decide +kernel) (by decide +kernel)
set_option maxRecDepth 20000 in
theorem gX8_home_X3_hoursToHome : GoodIn wsX8_home (wsV RX8 228 RX3 yX3_hoursToHome wsX3_hoursToHome) := goodIn_app (goodIn_of _ (by decide +kernel)) ggX8_home_X3_hoursToHome
theorem dX8_home_0 : decode cX8_home 0 = .ok (.aload_n 0, 1) := by decide +kernel
theorem dX8_home_1 : decode cX8_home 1 = .ok (.getfield 26, 3) := by decide +kernel
theorem dX8_home_4 : decode cX8_home 4 = .ok (.iload_n 1, 1) := by decide +kernel
theorem dX8_home_5 : decode cX8_home 5 = .ok (.invokevirtual 156, 3) := by decide +kernel
theorem dX8_home_8 : decode cX8_home 8 = .ok (.ifCond .eq 10, 3) := by decide +kernel
theorem dX8_home_11 : decode cX8_home 11 = .ok (.iload_n 2, 1) := by decide +kernel
theorem dX8_home_12 : decode cX8_home 12 = .ok (.invokestatic 159, 3) := by decide +kernel
theorem dX8_home_15 : decode cX8_home 15 = .ok (.ifCond .ne 6, 3) := by decide +kernel
theorem dX8_home_18 : decode cX8_home 18 = .ok (.ldc 68, 2) := by decide +kernel
theorem dX8_home_20 : decode cX8_home 20 = .ok (.ireturn, 1) := by decide +kernel
theorem dX8_home_21 : decode cX8_home 21 = .ok (.aload_n 0, 1) := by decide +kernel
theorem dX8_home_22 : decode cX8_home 22 = .ok (.getfield 26, 3) := by decide +kernel
theorem dX8_home_25 : decode cX8_home 25 = .ok (.iload_n 1, 1) := by decide +kernel
theorem dX8_home_26 : decode cX8_home 26 = .ok (.iload_n 2, 1) := by decide +kernel
theorem dX8_home_27 : decode cX8_home 27 = .ok (.invokevirtual 228, 3) := by decide +kernel
theorem dX8_home_30 : decode cX8_home 30 = .ok (.istore_n 3, 1) := by decide +kernel
theorem dX8_home_31 : decode cX8_home 31 = .ok (.iload_n 3, 1) := by decide +kernel
theorem dX8_home_32 : decode cX8_home 32 = .ok (.ifCond .ge 8, 3) := by decide +kernel
theorem dX8_home_35 : decode cX8_home 35 = .ok (.ldc 199, 2) := by decide +kernel
theorem dX8_home_37 : decode cX8_home 37 = .ok (.goto 4, 3) := by decide +kernel
theorem dX8_home_40 : decode cX8_home 40 = .ok (.iload_n 3, 1) := by decide +kernel
theorem dX8_home_41 : decode cX8_home 41 = .ok (.ireturn, 1) := by decide +kernel
set_option maxRecDepth 20000 in
theorem ggX8_buy_X3_hasBidder : GoodIn wsX8_buy wsX3_hasBidder := goodIn_r _ [8, 9, 102, 103, 104, 105, 106, 107, 108, 109, 110, 111, 112] (by decide +kernel) (by decide +kernel)
set_option maxRecDepth 20000 in
theorem gX8_buy_X3_hasBidder : GoodIn wsX8_buy (wsV RX8 156 RX3 yX3_hasBidder wsX3_hasBidder) := goodIn_app (goodIn_of _ (by decide +kernel)) ggX8_buy_X3_hasBidder
set_option maxRecDepth 20000 in
theorem ggX8_buy_X8_isChoice : GoodIn wsX8_buy wsX8_isChoice := goodIn_r _ [13] (by decide +kernel) (by decide +kernel)
set_option maxRecDepth 20000 in
theorem gX8_buy_X8_isChoice : GoodIn wsX8_buy (va_wsS RX8 222 yX8_isChoice wsX8_isChoice) := goodIn_app (goodIn_of _ (by decide +kernel)) ggX8_buy_X8_isChoice
set_option maxRecDepth 20000 in
theorem ggX8_buy_X2_fill : GoodIn wsX8_buy wsX2_fill := goodIn_r _ [18, 19, 20, 21, 22, 23, 24, 25, 26, 27, 28, 29, 30, 31, 7, 32, 33, 34, 35, 36, 37, 38, 39, 40, 41, 42, 43, 44, 45, 46, 47, 48, 49, 50, 51, 52, 53, 54, 55, 56, 57, 58, 59, 60, 61, 62, 63, 64, 65, 66, 67, 68, 69, 70, 71, 72, 73, 74, 75, 76, 77, 78, 79, 80, 81, 82, 17, 83, 113, 114, 115, 102, 103, 104, 105, 106, 107, 108, 109, 110, 111, 112] (by decide +kernel) (by decide +kernel)
set_option maxRecDepth 20000 in
theorem gX8_buy_X2_fill : GoodIn wsX8_buy (wsV RX8 231 RX2 yX2_fill wsX2_fill) := goodIn_app (goodIn_of _ (by decide +kernel)) ggX8_buy_X2_fill
set_option maxRecDepth 20000 in
theorem ggX8_buy_X2_heights : GoodIn wsX8_buy wsX2_heights := goodIn_r _ [87, 26, 28, 113, 114, 115] (by decide +kernel) (by decide +kernel)
set_option maxRecDepth 20000 in
theorem gX8_buy_X2_heights : GoodIn wsX8_buy (wsV RX8 235 RX2 yX2_heights wsX2_heights) := goodIn_app (goodIn_of _ (by decide +kernel)) ggX8_buy_X2_heights
set_option maxRecDepth 20000 in
theorem ggX8_buy_X2_cells : GoodIn wsX8_buy wsX2_cells := goodIn_r _ [91, 27, 28, 113, 114, 115] (by decide +kernel) (by decide +kernel)
set_option maxRecDepth 20000 in
theorem gX8_buy_X2_cells : GoodIn wsX8_buy (wsV RX8 238 RX2 yX2_cells wsX2_cells) := goodIn_app (goodIn_of _ (by decide +kernel)) ggX8_buy_X2_cells
theorem dX8_buy_0 : decode cX8_buy 0 = .ok (.aload_n 0, 1) := by decide +kernel
theorem dX8_buy_1 : decode cX8_buy 1 = .ok (.getfield 26, 3) := by decide +kernel
theorem dX8_buy_4 : decode cX8_buy 4 = .ok (.iload_n 1, 1) := by decide +kernel
theorem dX8_buy_5 : decode cX8_buy 5 = .ok (.invokevirtual 156, 3) := by decide +kernel
theorem dX8_buy_8 : decode cX8_buy 8 = .ok (.ifCond .eq 10, 3) := by decide +kernel
theorem dX8_buy_11 : decode cX8_buy 11 = .ok (.iload_n 2, 1) := by decide +kernel
theorem dX8_buy_12 : decode cX8_buy 12 = .ok (.invokestatic 222, 3) := by decide +kernel
theorem dX8_buy_15 : decode cX8_buy 15 = .ok (.ifCond .ne 6, 3) := by decide +kernel
theorem dX8_buy_18 : decode cX8_buy 18 = .ok (.ldc 68, 2) := by decide +kernel
theorem dX8_buy_20 : decode cX8_buy 20 = .ok (.ireturn, 1) := by decide +kernel
theorem dX8_buy_21 : decode cX8_buy 21 = .ok (.aload_n 0, 1) := by decide +kernel
theorem dX8_buy_22 : decode cX8_buy 22 = .ok (.getfield 49, 3) := by decide +kernel
theorem dX8_buy_25 : decode cX8_buy 25 = .ok (.aload_n 0, 1) := by decide +kernel
theorem dX8_buy_26 : decode cX8_buy 26 = .ok (.getfield 26, 3) := by decide +kernel
theorem dX8_buy_29 : decode cX8_buy 29 = .ok (.iload_n 1, 1) := by decide +kernel
theorem dX8_buy_30 : decode cX8_buy 30 = .ok (.invokevirtual 231, 3) := by decide +kernel
theorem dX8_buy_33 : decode cX8_buy 33 = .ok (.iload_n 2, 1) := by decide +kernel
theorem dX8_buy_34 : decode cX8_buy 34 = .ok (.ifCond .ne 13, 3) := by decide +kernel
theorem dX8_buy_37 : decode cX8_buy 37 = .ok (.aload_n 0, 1) := by decide +kernel
theorem dX8_buy_38 : decode cX8_buy 38 = .ok (.getfield 49, 3) := by decide +kernel
theorem dX8_buy_41 : decode cX8_buy 41 = .ok (.invokevirtual 235, 3) := by decide +kernel
theorem dX8_buy_44 : decode cX8_buy 44 = .ok (.goto 10, 3) := by decide +kernel
theorem dX8_buy_47 : decode cX8_buy 47 = .ok (.aload_n 0, 1) := by decide +kernel
theorem dX8_buy_48 : decode cX8_buy 48 = .ok (.getfield 49, 3) := by decide +kernel
theorem dX8_buy_51 : decode cX8_buy 51 = .ok (.invokevirtual 238, 3) := by decide +kernel
theorem dX8_buy_54 : decode cX8_buy 54 = .ok (.ireturn, 1) := by decide +kernel
set_option maxRecDepth 20000 in
theorem ggX8_harvest_X3_hasBidder : GoodIn wsX8_harvest wsX3_hasBidder := goodIn_r _ [8, 9, 88, 89, 90, 91, 92, 93, 94, 95, 96, 97, 98] (by decide +kernel) (by decide +kernel)
set_option maxRecDepth 20000 in
theorem gX8_harvest_X3_hasBidder : GoodIn wsX8_harvest (wsV RX8 156 RX3 yX3_hasBidder wsX3_hasBidder) := goodIn_app (goodIn_of _ (by decide +kernel)) ggX8_harvest_X3_hasBidder
set_option maxRecDepth 20000 in
theorem ggX8_harvest_X3_keptFor : GoodIn wsX8_harvest wsX3_keptFor := goodIn_r _ [13, 14, 15, 16, 7, 17, 18, 19, 20, 21, 22, 23, 24, 25, 26, 27, 28, 29, 30, 31, 32, 33, 34, 35, 36, 37, 38, 39, 40, 41, 42, 43, 44, 45, 46, 47, 48, 49, 50, 88, 89, 90, 91, 92, 93, 94, 95, 96, 97, 98] (by decide +kernel) (by decide +kernel)
set_option maxRecDepth 20000 in
theorem gX8_harvest_X3_keptFor : GoodIn wsX8_harvest (wsV RX8 241 RX3 yX3_keptFor wsX3_keptFor) := goodIn_app (goodIn_of _ (by decide +kernel)) ggX8_harvest_X3_keptFor
set_option maxRecDepth 20000 in
theorem ggX8_harvest_J6_bitCount_0f7a4 : GoodIn wsX8_harvest wsJ6_bitCount_0f7a4 := goodIn_r _ [54, 55, 56, 57] (by decide +kernel) (by decide +kernel)
set_option maxRecDepth 20000 in
theorem gX8_harvest_J6_bitCount_0f7a4 : GoodIn wsX8_harvest (va_wsS RX8 244 yJ6_bitCount_0f7a4 wsJ6_bitCount_0f7a4) := goodIn_app (goodIn_of _ (by decide +kernel)) ggX8_harvest_J6_bitCount_0f7a4
set_option maxRecDepth 20000 in
theorem ggX8_harvest_X3_leastPrices : GoodIn wsX8_harvest wsX3_leastPrices := goodIn_r _ [61, 62, 63, 64, 7, 65, 66, 67, 68, 69, 27, 70, 71, 72, 73, 74, 32, 75, 76, 42, 77, 88, 89, 90, 91, 92, 93, 94, 95, 96, 97, 98] (by decide +kernel) (by decide +kernel)
set_option maxRecDepth 20000 in
theorem gX8_harvest_X3_leastPrices : GoodIn wsX8_harvest (wsV RX8 249 RX3 yX3_leastPrices wsX3_leastPrices) := goodIn_app (goodIn_of _ (by decide +kernel)) ggX8_harvest_X3_leastPrices
theorem dX8_harvest_0 : decode cX8_harvest 0 = .ok (.aload_n 0, 1) := by decide +kernel
theorem dX8_harvest_1 : decode cX8_harvest 1 = .ok (.getfield 26, 3) := by decide +kernel
theorem dX8_harvest_4 : decode cX8_harvest 4 = .ok (.iload_n 1, 1) := by decide +kernel
theorem dX8_harvest_5 : decode cX8_harvest 5 = .ok (.invokevirtual 156, 3) := by decide +kernel
theorem dX8_harvest_8 : decode cX8_harvest 8 = .ok (.ifCond .eq 25, 3) := by decide +kernel
theorem dX8_harvest_11 : decode cX8_harvest 11 = .ok (.iload_n 2, 1) := by decide +kernel
theorem dX8_harvest_12 : decode cX8_harvest 12 = .ok (.iconst 1, 1) := by decide +kernel
theorem dX8_harvest_13 : decode cX8_harvest 13 = .ok (.if_icmp .lt 20, 3) := by decide +kernel
theorem dX8_harvest_16 : decode cX8_harvest 16 = .ok (.iload_n 2, 1) := by decide +kernel
theorem dX8_harvest_17 : decode cX8_harvest 17 = .ok (.bipush 15, 2) := by decide +kernel
theorem dX8_harvest_19 : decode cX8_harvest 19 = .ok (.if_icmp .gt 14, 3) := by decide +kernel
theorem dX8_harvest_22 : decode cX8_harvest 22 = .ok (.iload_n 3, 1) := by decide +kernel
theorem dX8_harvest_23 : decode cX8_harvest 23 = .ok (.iconst 1, 1) := by decide +kernel
theorem dX8_harvest_24 : decode cX8_harvest 24 = .ok (.if_icmp .lt 9, 3) := by decide +kernel
theorem dX8_harvest_27 : decode cX8_harvest 27 = .ok (.iload_n 3, 1) := by decide +kernel
theorem dX8_harvest_28 : decode cX8_harvest 28 = .ok (.bipush 12, 2) := by decide +kernel
theorem dX8_harvest_30 : decode cX8_harvest 30 = .ok (.if_icmp .le 6, 3) := by decide +kernel
theorem dX8_harvest_33 : decode cX8_harvest 33 = .ok (.ldc 68, 2) := by decide +kernel
theorem dX8_harvest_35 : decode cX8_harvest 35 = .ok (.ireturn, 1) := by decide +kernel
theorem dX8_harvest_36 : decode cX8_harvest 36 = .ok (.aload_n 0, 1) := by decide +kernel
theorem dX8_harvest_37 : decode cX8_harvest 37 = .ok (.getfield 26, 3) := by decide +kernel
theorem dX8_harvest_40 : decode cX8_harvest 40 = .ok (.iload_n 1, 1) := by decide +kernel
theorem dX8_harvest_41 : decode cX8_harvest 41 = .ok (.iload_n 3, 1) := by decide +kernel
theorem dX8_harvest_42 : decode cX8_harvest 42 = .ok (.invokevirtual 241, 3) := by decide +kernel
theorem dX8_harvest_45 : decode cX8_harvest 45 = .ok (.istore 4, 2) := by decide +kernel
theorem dX8_harvest_47 : decode cX8_harvest 47 = .ok (.iload 4, 2) := by decide +kernel
theorem dX8_harvest_49 : decode cX8_harvest 49 = .ok (.invokestatic 244, 3) := by decide +kernel
theorem dX8_harvest_52 : decode cX8_harvest 52 = .ok (.iload_n 2, 1) := by decide +kernel
theorem dX8_harvest_53 : decode cX8_harvest 53 = .ok (.if_icmp .ge 8, 3) := by decide +kernel
theorem dX8_harvest_56 : decode cX8_harvest 56 = .ok (.ldc 199, 2) := by decide +kernel
theorem dX8_harvest_58 : decode cX8_harvest 58 = .ok (.goto 14, 3) := by decide +kernel
theorem dX8_harvest_61 : decode cX8_harvest 61 = .ok (.aload_n 0, 1) := by decide +kernel
theorem dX8_harvest_62 : decode cX8_harvest 62 = .ok (.getfield 26, 3) := by decide +kernel
theorem dX8_harvest_65 : decode cX8_harvest 65 = .ok (.iload_n 1, 1) := by decide +kernel
theorem dX8_harvest_66 : decode cX8_harvest 66 = .ok (.iload 4, 2) := by decide +kernel
theorem dX8_harvest_68 : decode cX8_harvest 68 = .ok (.iload_n 2, 1) := by decide +kernel
theorem dX8_harvest_69 : decode cX8_harvest 69 = .ok (.invokevirtual 249, 3) := by decide +kernel
theorem dX8_harvest_72 : decode cX8_harvest 72 = .ok (.ireturn, 1) := by decide +kernel
set_option maxRecDepth 20000 in
theorem ggX8_raised_X3_isTold : GoodIn wsX8_raised wsX3_isTold := goodIn_r _ [9, 10, 75, 76, 77, 78, 79, 80, 81, 82, 83, 84, 85] (by decide +kernel) (by decide +kernel)
set_option maxRecDepth 20000 in
theorem gX8_raised_X3_isTold : GoodIn wsX8_raised (wsV RX8 140 RX3 yX3_isTold wsX3_isTold) := goodIn_app (goodIn_of _ (by decide +kernel)) ggX8_raised_X3_isTold
set_option maxRecDepth 20000 in
theorem ggX8_raised_X5_isRow : GoodIn wsX8_raised wsX5_isRow := goodIn_r _ [14] (by decide +kernel) (by decide +kernel)
set_option maxRecDepth 20000 in
theorem gX8_raised_X5_isRow : GoodIn wsX8_raised (va_wsS RX8 64 yX5_isRow wsX5_isRow) := goodIn_app (goodIn_of _ (by decide +kernel)) ggX8_raised_X5_isRow
set_option maxRecDepth 20000 in
theorem ggX8_raised_X8_isNumberOfItems : GoodIn wsX8_raised wsX8_isNumberOfItems := goodIn_r _ [18] (by decide +kernel) (by decide +kernel)
set_option maxRecDepth 20000 in
theorem gX8_raised_X8_isNumberOfItems : GoodIn wsX8_raised (va_wsS RX8 252 yX8_isNumberOfItems wsX8_isNumberOfItems) := goodIn_app (goodIn_of _ (by decide +kernel)) ggX8_raised_X8_isNumberOfItems
set_option maxRecDepth 20000 in
theorem ggX8_raised_X5_isMissing : GoodIn wsX8_raised wsX5_isMissing := goodIn_r _ [22, 23, 86, 87, 88] (by decide +kernel) (by decide +kernel)
set_option maxRecDepth 20000 in
theorem gX8_raised_X5_isMissing : GoodIn wsX8_raised (wsV RX8 80 RX5 yX5_isMissing wsX5_isMissing) := goodIn_app (goodIn_of _ (by decide +kernel)) ggX8_raised_X5_isMissing
set_option maxRecDepth 20000 in
theorem ggX8_raised_X8_found : GoodIn wsX8_raised wsX8_found := goodIn_r _ [27, 28, 29, 65, 66, 67, 68, 69, 70, 71, 72, 73, 74] (by decide +kernel) (by decide +kernel)
set_option maxRecDepth 20000 in
theorem gX8_raised_X8_found : GoodIn wsX8_raised (wsV RX8 69 RX8 yX8_found wsX8_found) := goodIn_app (goodIn_of _ (by decide +kernel)) ggX8_raised_X8_found
set_option maxRecDepth 20000 in
theorem ggX8_raised_X5_hasPlaces : GoodIn wsX8_raised wsX5_hasPlaces := goodIn_r _ [33, 34, 86, 87, 88] (by decide +kernel) (by decide +kernel)
set_option maxRecDepth 20000 in
theorem gX8_raised_X5_hasPlaces : GoodIn wsX8_raised (wsV RX8 83 RX5 yX5_hasPlaces wsX5_hasPlaces) := goodIn_app (goodIn_of _ (by decide +kernel)) ggX8_raised_X5_hasPlaces
set_option maxRecDepth 20000 in
theorem ggX8_raised_X3_cellsBelow : GoodIn wsX8_raised wsX3_cellsBelow := goodIn_r _ [38, 39, 75, 76, 77, 78, 79, 80, 81, 82, 83, 84, 85] (by decide +kernel) (by decide +kernel)
set_option maxRecDepth 20000 in
theorem gX8_raised_X3_cellsBelow : GoodIn wsX8_raised (wsV RX8 255 RX3 yX3_cellsBelow wsX3_cellsBelow) := goodIn_app (goodIn_of _ (by decide +kernel)) ggX8_raised_X3_cellsBelow
set_option maxRecDepth 20000 in
theorem ggX8_raised_X5_item : GoodIn wsX8_raised wsX5_item := goodIn_r _ [43, 44, 86, 87, 88] (by decide +kernel) (by decide +kernel)
set_option maxRecDepth 20000 in
theorem gX8_raised_X5_item : GoodIn wsX8_raised (wsV RX8 258 RX5 yX5_item wsX5_item) := goodIn_app (goodIn_of _ (by decide +kernel)) ggX8_raised_X5_item
set_option maxRecDepth 20000 in
theorem ggX8_raised_X3_raisedSo : GoodIn wsX8_raised wsX3_raisedSo := goodIn_r _ [48, 39, 49, 50, 51, 8, 52, 53, 54, 55, 56, 57, 58, 59, 60, 36, 37, 38, 75, 76, 77, 78, 79, 80, 81, 82, 83, 84, 85] (by decide +kernel) (by decide +kernel)
set_option maxRecDepth 20000 in
theorem gX8_raised_X3_raisedSo : GoodIn wsX8_raised (wsV RX8 261 RX3 yX3_raisedSo wsX3_raisedSo) := goodIn_app (goodIn_of _ (by decide +kernel)) ggX8_raised_X3_raisedSo
set_option maxRecDepth 20000 in
theorem ggX8_raised_X8_unfound : GoodIn wsX8_raised wsX8_unfound := goodIn_r _ [64, 28, 65, 66, 67, 68, 69, 70, 71, 72, 73, 74] (by decide +kernel) (by decide +kernel)
set_option maxRecDepth 20000 in
theorem gX8_raised_X8_unfound : GoodIn wsX8_raised (wsV RX8 77 RX8 yX8_unfound wsX8_unfound) := goodIn_app (goodIn_of _ (by decide +kernel)) ggX8_raised_X8_unfound
theorem dX8_raised_0 : decode cX8_raised 0 = .ok (.aload_n 0, 1) := by decide +kernel
theorem dX8_raised_1 : decode cX8_raised 1 = .ok (.getfield 26, 3) := by decide +kernel
theorem dX8_raised_4 : decode cX8_raised 4 = .ok (.invokevirtual 140, 3) := by decide +kernel
theorem dX8_raised_7 : decode cX8_raised 7 = .ok (.ifCond .ne 6, 3) := by decide +kernel
theorem dX8_raised_10 : decode cX8_raised 10 = .ok (.ldc 136, 2) := by decide +kernel
theorem dX8_raised_12 : decode cX8_raised 12 = .ok (.ireturn, 1) := by decide +kernel
theorem dX8_raised_13 : decode cX8_raised 13 = .ok (.iload_n 1, 1) := by decide +kernel
theorem dX8_raised_14 : decode cX8_raised 14 = .ok (.invokestatic 64, 3) := by decide +kernel
theorem dX8_raised_17 : decode cX8_raised 17 = .ok (.ifCond .eq 10, 3) := by decide +kernel
theorem dX8_raised_20 : decode cX8_raised 20 = .ok (.iload_n 3, 1) := by decide +kernel
theorem dX8_raised_21 : decode cX8_raised 21 = .ok (.invokestatic 252, 3) := by decide +kernel
theorem dX8_raised_24 : decode cX8_raised 24 = .ok (.ifCond .ne 6, 3) := by decide +kernel
theorem dX8_raised_27 : decode cX8_raised 27 = .ok (.ldc 68, 2) := by decide +kernel
theorem dX8_raised_29 : decode cX8_raised 29 = .ok (.ireturn, 1) := by decide +kernel
theorem dX8_raised_30 : decode cX8_raised 30 = .ok (.aload_n 0, 1) := by decide +kernel
theorem dX8_raised_31 : decode cX8_raised 31 = .ok (.getfield 12, 3) := by decide +kernel
theorem dX8_raised_34 : decode cX8_raised 34 = .ok (.iload_n 1, 1) := by decide +kernel
theorem dX8_raised_35 : decode cX8_raised 35 = .ok (.invokevirtual 80, 3) := by decide +kernel
theorem dX8_raised_38 : decode cX8_raised 38 = .ok (.ifCond .eq 9, 3) := by decide +kernel
theorem dX8_raised_41 : decode cX8_raised 41 = .ok (.aload_n 0, 1) := by decide +kernel
theorem dX8_raised_42 : decode cX8_raised 42 = .ok (.iconst 1, 1) := by decide +kernel
theorem dX8_raised_43 : decode cX8_raised 43 = .ok (.invokevirtual 69, 3) := by decide +kernel
theorem dX8_raised_46 : decode cX8_raised 46 = .ok (.ireturn, 1) := by decide +kernel
theorem dX8_raised_47 : decode cX8_raised 47 = .ok (.aload_n 0, 1) := by decide +kernel
theorem dX8_raised_48 : decode cX8_raised 48 = .ok (.getfield 12, 3) := by decide +kernel
theorem dX8_raised_51 : decode cX8_raised 51 = .ok (.iload_n 1, 1) := by decide +kernel
theorem dX8_raised_52 : decode cX8_raised 52 = .ok (.iload_n 2, 1) := by decide +kernel
theorem dX8_raised_53 : decode cX8_raised 53 = .ok (.iload_n 3, 1) := by decide +kernel
theorem dX8_raised_54 : decode cX8_raised 54 = .ok (.invokevirtual 83, 3) := by decide +kernel
theorem dX8_raised_57 : decode cX8_raised 57 = .ok (.ifCond .ne 9, 3) := by decide +kernel
theorem dX8_raised_60 : decode cX8_raised 60 = .ok (.aload_n 0, 1) := by decide +kernel
theorem dX8_raised_61 : decode cX8_raised 61 = .ok (.iconst 2, 1) := by decide +kernel
theorem dX8_raised_62 : decode cX8_raised 62 = .ok (.invokevirtual 69, 3) := by decide +kernel
theorem dX8_raised_65 : decode cX8_raised 65 = .ok (.ireturn, 1) := by decide +kernel
theorem dX8_raised_66 : decode cX8_raised 66 = .ok (.aload_n 0, 1) := by decide +kernel
theorem dX8_raised_67 : decode cX8_raised 67 = .ok (.getfield 26, 3) := by decide +kernel
theorem dX8_raised_70 : decode cX8_raised 70 = .ok (.bipush 9, 2) := by decide +kernel
theorem dX8_raised_72 : decode cX8_raised 72 = .ok (.invokevirtual 255, 3) := by decide +kernel
theorem dX8_raised_75 : decode cX8_raised 75 = .ok (.istore 4, 2) := by decide +kernel
theorem dX8_raised_77 : decode cX8_raised 77 = .ok (.iconst 1, 1) := by decide +kernel
theorem dX8_raised_78 : decode cX8_raised 78 = .ok (.istore 5, 2) := by decide +kernel
theorem dX8_raised_80 : decode cX8_raised 80 = .ok (.iload 5, 2) := by decide +kernel
theorem dX8_raised_82 : decode cX8_raised 82 = .ok (.iload_n 3, 1) := by decide +kernel
theorem dX8_raised_83 : decode cX8_raised 83 = .ok (.if_icmp .gt 36, 3) := by decide +kernel
theorem dX8_raised_86 : decode cX8_raised 86 = .ok (.aload_n 0, 1) := by decide +kernel
theorem dX8_raised_87 : decode cX8_raised 87 = .ok (.getfield 26, 3) := by decide +kernel
theorem dX8_raised_90 : decode cX8_raised 90 = .ok (.iload 4, 2) := by decide +kernel
theorem dX8_raised_92 : decode cX8_raised 92 = .ok (.iload 5, 2) := by decide +kernel
theorem dX8_raised_94 : decode cX8_raised 94 = .ok (.aload_n 0, 1) := by decide +kernel
theorem dX8_raised_95 : decode cX8_raised 95 = .ok (.getfield 12, 3) := by decide +kernel
theorem dX8_raised_98 : decode cX8_raised 98 = .ok (.iload_n 1, 1) := by decide +kernel
theorem dX8_raised_99 : decode cX8_raised 99 = .ok (.iload_n 2, 1) := by decide +kernel
theorem dX8_raised_100 : decode cX8_raised 100 = .ok (.iload 5, 2) := by decide +kernel
theorem dX8_raised_102 : decode cX8_raised 102 = .ok (.iadd, 1) := by decide +kernel
theorem dX8_raised_103 : decode cX8_raised 103 = .ok (.iconst 1, 1) := by decide +kernel
theorem dX8_raised_104 : decode cX8_raised 104 = .ok (.isub, 1) := by decide +kernel
theorem dX8_raised_105 : decode cX8_raised 105 = .ok (.invokevirtual 258, 3) := by decide +kernel
theorem dX8_raised_108 : decode cX8_raised 108 = .ok (.invokevirtual 261, 3) := by decide +kernel
theorem dX8_raised_111 : decode cX8_raised 111 = .ok (.istore 4, 2) := by decide +kernel
theorem dX8_raised_113 : decode cX8_raised 113 = .ok (.iinc 5 1, 3) := by decide +kernel
theorem dX8_raised_116 : decode cX8_raised 116 = .ok (.goto (-36), 3) := by decide +kernel
theorem dX8_raised_119 : decode cX8_raised 119 = .ok (.aload_n 0, 1) := by decide +kernel
theorem dX8_raised_120 : decode cX8_raised 120 = .ok (.iload 4, 2) := by decide +kernel
theorem dX8_raised_122 : decode cX8_raised 122 = .ok (.invokevirtual 77, 3) := by decide +kernel
theorem dX8_raised_125 : decode cX8_raised 125 = .ok (.ireturn, 1) := by decide +kernel
set_option maxRecDepth 20000 in
theorem ggX8_who_X3_isTold : GoodIn wsX8_who wsX3_isTold := goodIn_r _ [9, 10, 75, 76, 77, 78, 79, 80, 81, 82, 83, 84, 85] (by decide +kernel) (by decide +kernel)
set_option maxRecDepth 20000 in
theorem gX8_who_X3_isTold : GoodIn wsX8_who (wsV RX8 140 RX3 yX3_isTold wsX3_isTold) := goodIn_app (goodIn_of _ (by decide +kernel)) ggX8_who_X3_isTold
set_option maxRecDepth 20000 in
theorem ggX8_who_X5_isRow : GoodIn wsX8_who wsX5_isRow := goodIn_r _ [14] (by decide +kernel) (by decide +kernel)
set_option maxRecDepth 20000 in
theorem gX8_who_X5_isRow : GoodIn wsX8_who (va_wsS RX8 64 yX5_isRow wsX5_isRow) := goodIn_app (goodIn_of _ (by decide +kernel)) ggX8_who_X5_isRow
set_option maxRecDepth 20000 in
theorem ggX8_who_X8_isNumberOfItems : GoodIn wsX8_who wsX8_isNumberOfItems := goodIn_r _ [18] (by decide +kernel) (by decide +kernel)
set_option maxRecDepth 20000 in
theorem gX8_who_X8_isNumberOfItems : GoodIn wsX8_who (va_wsS RX8 252 yX8_isNumberOfItems wsX8_isNumberOfItems) := goodIn_app (goodIn_of _ (by decide +kernel)) ggX8_who_X8_isNumberOfItems
set_option maxRecDepth 20000 in
theorem ggX8_who_X5_isMissing : GoodIn wsX8_who wsX5_isMissing := goodIn_r _ [22, 23, 86, 87, 88] (by decide +kernel) (by decide +kernel)
set_option maxRecDepth 20000 in
theorem gX8_who_X5_isMissing : GoodIn wsX8_who (wsV RX8 80 RX5 yX5_isMissing wsX5_isMissing) := goodIn_app (goodIn_of _ (by decide +kernel)) ggX8_who_X5_isMissing
set_option maxRecDepth 20000 in
theorem ggX8_who_X8_found : GoodIn wsX8_who wsX8_found := goodIn_r _ [27, 28, 29, 65, 66, 67, 68, 69, 70, 71, 72, 73, 74] (by decide +kernel) (by decide +kernel)
set_option maxRecDepth 20000 in
theorem gX8_who_X8_found : GoodIn wsX8_who (wsV RX8 69 RX8 yX8_found wsX8_found) := goodIn_app (goodIn_of _ (by decide +kernel)) ggX8_who_X8_found
set_option maxRecDepth 20000 in
theorem ggX8_who_X5_hasPlaces : GoodIn wsX8_who wsX5_hasPlaces := goodIn_r _ [33, 34, 86, 87, 88] (by decide +kernel) (by decide +kernel)
set_option maxRecDepth 20000 in
theorem gX8_who_X5_hasPlaces : GoodIn wsX8_who (wsV RX8 83 RX5 yX5_hasPlaces wsX5_hasPlaces) := goodIn_app (goodIn_of _ (by decide +kernel)) ggX8_who_X5_hasPlaces
set_option maxRecDepth 20000 in
theorem ggX8_who_X8_areCells : GoodIn wsX8_who wsX8_areCells := goodIn_r _ [38, 4, 39, 40, 41, 13, 42, 43, 44, 45, 17, 46, 65, 66, 67, 68, 69, 70, 71, 72, 73, 74, 86, 87, 88] (by decide +kernel) (by decide +kernel)
set_option maxRecDepth 20000 in
theorem gX8_who_X8_areCells : GoodIn wsX8_who (wsV RX8 264 RX8 yX8_areCells wsX8_areCells) := goodIn_app (goodIn_of _ (by decide +kernel)) ggX8_who_X8_areCells
set_option maxRecDepth 20000 in
theorem ggX8_who_X8_arePricesTo : GoodIn wsX8_who wsX8_arePricesTo := goodIn_r _ [50, 4, 1, 39, 40, 41, 13, 42, 43, 51, 52, 53, 8, 54, 55, 56, 57, 58, 59, 60, 65, 66, 67, 68, 69, 70, 71, 72, 73, 74, 86, 87, 88, 75, 76, 77, 78, 79, 80, 81, 82, 83, 84, 85] (by decide +kernel) (by decide +kernel)
set_option maxRecDepth 20000 in
theorem gX8_who_X8_arePricesTo : GoodIn wsX8_who (wsV RX8 270 RX8 yX8_arePricesTo wsX8_arePricesTo) := goodIn_app (goodIn_of _ (by decide +kernel)) ggX8_who_X8_arePricesTo
set_option maxRecDepth 20000 in
theorem ggX8_who_X8_unfound : GoodIn wsX8_who wsX8_unfound := goodIn_r _ [64, 28, 65, 66, 67, 68, 69, 70, 71, 72, 73, 74] (by decide +kernel) (by decide +kernel)
set_option maxRecDepth 20000 in
theorem gX8_who_X8_unfound : GoodIn wsX8_who (wsV RX8 77 RX8 yX8_unfound wsX8_unfound) := goodIn_app (goodIn_of _ (by decide +kernel)) ggX8_who_X8_unfound
theorem dX8_who_0 : decode cX8_who 0 = .ok (.aload_n 0, 1) := by decide +kernel
theorem dX8_who_1 : decode cX8_who 1 = .ok (.getfield 26, 3) := by decide +kernel
theorem dX8_who_4 : decode cX8_who 4 = .ok (.invokevirtual 140, 3) := by decide +kernel
theorem dX8_who_7 : decode cX8_who 7 = .ok (.ifCond .ne 6, 3) := by decide +kernel
theorem dX8_who_10 : decode cX8_who 10 = .ok (.ldc 136, 2) := by decide +kernel
theorem dX8_who_12 : decode cX8_who 12 = .ok (.ireturn, 1) := by decide +kernel
theorem dX8_who_13 : decode cX8_who 13 = .ok (.iload_n 1, 1) := by decide +kernel
theorem dX8_who_14 : decode cX8_who 14 = .ok (.invokestatic 64, 3) := by decide +kernel
theorem dX8_who_17 : decode cX8_who 17 = .ok (.ifCond .eq 10, 3) := by decide +kernel
theorem dX8_who_20 : decode cX8_who 20 = .ok (.iload_n 3, 1) := by decide +kernel
theorem dX8_who_21 : decode cX8_who 21 = .ok (.invokestatic 252, 3) := by decide +kernel
theorem dX8_who_24 : decode cX8_who 24 = .ok (.ifCond .ne 6, 3) := by decide +kernel
theorem dX8_who_27 : decode cX8_who 27 = .ok (.ldc 68, 2) := by decide +kernel
theorem dX8_who_29 : decode cX8_who 29 = .ok (.ireturn, 1) := by decide +kernel
theorem dX8_who_30 : decode cX8_who 30 = .ok (.aload_n 0, 1) := by decide +kernel
theorem dX8_who_31 : decode cX8_who 31 = .ok (.getfield 12, 3) := by decide +kernel
theorem dX8_who_34 : decode cX8_who 34 = .ok (.iload_n 1, 1) := by decide +kernel
theorem dX8_who_35 : decode cX8_who 35 = .ok (.invokevirtual 80, 3) := by decide +kernel
theorem dX8_who_38 : decode cX8_who 38 = .ok (.ifCond .eq 9, 3) := by decide +kernel
theorem dX8_who_41 : decode cX8_who 41 = .ok (.aload_n 0, 1) := by decide +kernel
theorem dX8_who_42 : decode cX8_who 42 = .ok (.iconst 1, 1) := by decide +kernel
theorem dX8_who_43 : decode cX8_who 43 = .ok (.invokevirtual 69, 3) := by decide +kernel
theorem dX8_who_46 : decode cX8_who 46 = .ok (.ireturn, 1) := by decide +kernel
theorem dX8_who_47 : decode cX8_who 47 = .ok (.aload_n 0, 1) := by decide +kernel
theorem dX8_who_48 : decode cX8_who 48 = .ok (.getfield 12, 3) := by decide +kernel
theorem dX8_who_51 : decode cX8_who 51 = .ok (.iload_n 1, 1) := by decide +kernel
theorem dX8_who_52 : decode cX8_who 52 = .ok (.iload_n 2, 1) := by decide +kernel
theorem dX8_who_53 : decode cX8_who 53 = .ok (.iconst 2, 1) := by decide +kernel
theorem dX8_who_54 : decode cX8_who 54 = .ok (.iload_n 3, 1) := by decide +kernel
theorem dX8_who_55 : decode cX8_who 55 = .ok (.imul, 1) := by decide +kernel
theorem dX8_who_56 : decode cX8_who 56 = .ok (.invokevirtual 83, 3) := by decide +kernel
theorem dX8_who_59 : decode cX8_who 59 = .ok (.ifCond .ne 9, 3) := by decide +kernel
theorem dX8_who_62 : decode cX8_who 62 = .ok (.aload_n 0, 1) := by decide +kernel
theorem dX8_who_63 : decode cX8_who 63 = .ok (.iconst 2, 1) := by decide +kernel
theorem dX8_who_64 : decode cX8_who 64 = .ok (.invokevirtual 69, 3) := by decide +kernel
theorem dX8_who_67 : decode cX8_who 67 = .ok (.ireturn, 1) := by decide +kernel
theorem dX8_who_68 : decode cX8_who 68 = .ok (.aload_n 0, 1) := by decide +kernel
theorem dX8_who_69 : decode cX8_who 69 = .ok (.iload_n 1, 1) := by decide +kernel
theorem dX8_who_70 : decode cX8_who 70 = .ok (.iload_n 2, 1) := by decide +kernel
theorem dX8_who_71 : decode cX8_who 71 = .ok (.iload_n 3, 1) := by decide +kernel
theorem dX8_who_72 : decode cX8_who 72 = .ok (.iconst 2, 1) := by decide +kernel
theorem dX8_who_73 : decode cX8_who 73 = .ok (.invokevirtual 264, 3) := by decide +kernel
theorem dX8_who_76 : decode cX8_who 76 = .ok (.ifCond .ne 6, 3) := by decide +kernel
theorem dX8_who_79 : decode cX8_who 79 = .ok (.ldc 68, 2) := by decide +kernel
theorem dX8_who_81 : decode cX8_who 81 = .ok (.ireturn, 1) := by decide +kernel
theorem dX8_who_82 : decode cX8_who 82 = .ok (.iconst 0, 1) := by decide +kernel
theorem dX8_who_83 : decode cX8_who 83 = .ok (.istore 4, 2) := by decide +kernel
theorem dX8_who_85 : decode cX8_who 85 = .ok (.iconst 1, 1) := by decide +kernel
theorem dX8_who_86 : decode cX8_who 86 = .ok (.istore 5, 2) := by decide +kernel
theorem dX8_who_88 : decode cX8_who 88 = .ok (.iload 5, 2) := by decide +kernel
theorem dX8_who_90 : decode cX8_who 90 = .ok (.iconst 5, 1) := by decide +kernel
theorem dX8_who_91 : decode cX8_who 91 = .ok (.if_icmp .gt 30, 3) := by decide +kernel
theorem dX8_who_94 : decode cX8_who 94 = .ok (.aload_n 0, 1) := by decide +kernel
theorem dX8_who_95 : decode cX8_who 95 = .ok (.iload 5, 2) := by decide +kernel
theorem dX8_who_97 : decode cX8_who 97 = .ok (.iload_n 1, 1) := by decide +kernel
theorem dX8_who_98 : decode cX8_who 98 = .ok (.iload_n 2, 1) := by decide +kernel
theorem dX8_who_99 : decode cX8_who 99 = .ok (.iload_n 3, 1) := by decide +kernel
theorem dX8_who_100 : decode cX8_who 100 = .ok (.invokevirtual 270, 3) := by decide +kernel
theorem dX8_who_103 : decode cX8_who 103 = .ok (.ifCond .eq 12, 3) := by decide +kernel
theorem dX8_who_106 : decode cX8_who 106 = .ok (.iload 4, 2) := by decide +kernel
theorem dX8_who_108 : decode cX8_who 108 = .ok (.iconst 1, 1) := by decide +kernel
theorem dX8_who_109 : decode cX8_who 109 = .ok (.iload 5, 2) := by decide +kernel
theorem dX8_who_111 : decode cX8_who 111 = .ok (.ishl, 1) := by decide +kernel
theorem dX8_who_112 : decode cX8_who 112 = .ok (.ior, 1) := by decide +kernel
theorem dX8_who_113 : decode cX8_who 113 = .ok (.istore 4, 2) := by decide +kernel
theorem dX8_who_115 : decode cX8_who 115 = .ok (.iinc 5 1, 3) := by decide +kernel
theorem dX8_who_118 : decode cX8_who 118 = .ok (.goto (-30), 3) := by decide +kernel
theorem dX8_who_121 : decode cX8_who 121 = .ok (.aload_n 0, 1) := by decide +kernel
theorem dX8_who_122 : decode cX8_who 122 = .ok (.iload 4, 2) := by decide +kernel
theorem dX8_who_124 : decode cX8_who 124 = .ok (.invokevirtual 77, 3) := by decide +kernel
theorem dX8_who_127 : decode cX8_who 127 = .ok (.ireturn, 1) := by decide +kernel
set_option maxRecDepth 20000 in
theorem ggX8_ring_X3_isTold : GoodIn wsX8_ring wsX3_isTold := goodIn_r _ [8, 9, 65, 66, 67, 68, 69, 70, 71, 72, 73, 74, 75] (by decide +kernel) (by decide +kernel)
set_option maxRecDepth 20000 in
theorem gX8_ring_X3_isTold : GoodIn wsX8_ring (wsV RX8 140 RX3 yX3_isTold wsX3_isTold) := goodIn_app (goodIn_of _ (by decide +kernel)) ggX8_ring_X3_isTold
set_option maxRecDepth 20000 in
theorem ggX8_ring_X8_isCell : GoodIn wsX8_ring wsX8_isCell := goodIn_r _ [13] (by decide +kernel) (by decide +kernel)
set_option maxRecDepth 20000 in
theorem gX8_ring_X8_isCell : GoodIn wsX8_ring (va_wsS RX8 159 yX8_isCell wsX8_isCell) := goodIn_app (goodIn_of _ (by decide +kernel)) ggX8_ring_X8_isCell
set_option maxRecDepth 20000 in
theorem ggX8_ring_X8_isChoice : GoodIn wsX8_ring wsX8_isChoice := goodIn_r _ [16] (by decide +kernel) (by decide +kernel)
set_option maxRecDepth 20000 in
theorem gX8_ring_X8_isChoice : GoodIn wsX8_ring (va_wsS RX8 222 yX8_isChoice wsX8_isChoice) := goodIn_app (goodIn_of _ (by decide +kernel)) ggX8_ring_X8_isChoice
set_option maxRecDepth 20000 in
theorem ggX8_ring_X6_ringRound : GoodIn wsX8_ring wsX6_ringRound := goodIn_r _ [20, 21, 22, 19, 23, 24, 25, 26, 27, 28, 29, 30] (by decide +kernel) (by decide +kernel)
set_option maxRecDepth 20000 in
theorem gX8_ring_X6_ringRound : GoodIn wsX8_ring (va_wsS RX8 273 yX6_ringRound wsX6_ringRound) := goodIn_app (goodIn_of _ (by decide +kernel)) ggX8_ring_X6_ringRound
set_option maxRecDepth 20000 in
theorem ggX8_ring_J6_bitCount_0f7a4 : GoodIn wsX8_ring wsJ6_bitCount_0f7a4 := goodIn_r _ [27, 28, 29, 30] (by decide +kernel) (by decide +kernel)
set_option maxRecDepth 20000 in
theorem gX8_ring_J6_bitCount_0f7a4 : GoodIn wsX8_ring (va_wsS RX8 244 yJ6_bitCount_0f7a4 wsJ6_bitCount_0f7a4) := goodIn_app (goodIn_of _ (by decide +kernel)) ggX8_ring_J6_bitCount_0f7a4
set_option maxRecDepth 20000 in
theorem ggX8_ring_X3_heldCells : GoodIn wsX8_ring wsX3_heldCells := goodIn_r _ [35, 36, 37, 38, 7, 39, 40, 65, 66, 67, 68, 69, 70, 71, 72, 73, 74, 75] (by decide +kernel) (by decide +kernel)
set_option maxRecDepth 20000 in
theorem gX8_ring_X3_heldCells : GoodIn wsX8_ring (wsV RX8 153 RX3 yX3_heldCells wsX3_heldCells) := goodIn_app (goodIn_of _ (by decide +kernel)) ggX8_ring_X3_heldCells
set_option maxRecDepth 20000 in
theorem ggX8_ring_X3_costOf : GoodIn wsX8_ring wsX3_costOf := goodIn_r _ [44, 45, 46, 47, 7, 48, 49, 50, 51, 52, 53, 54, 65, 66, 67, 68, 69, 70, 71, 72, 73, 74, 75] (by decide +kernel) (by decide +kernel)
set_option maxRecDepth 20000 in
theorem gX8_ring_X3_costOf : GoodIn wsX8_ring (wsV RX8 276 RX3 yX3_costOf wsX3_costOf) := goodIn_app (goodIn_of _ (by decide +kernel)) ggX8_ring_X3_costOf
theorem dX8_ring_0 : decode cX8_ring 0 = .ok (.aload_n 0, 1) := by decide +kernel
theorem dX8_ring_1 : decode cX8_ring 1 = .ok (.getfield 26, 3) := by decide +kernel
theorem dX8_ring_4 : decode cX8_ring 4 = .ok (.invokevirtual 140, 3) := by decide +kernel
theorem dX8_ring_7 : decode cX8_ring 7 = .ok (.ifCond .ne 6, 3) := by decide +kernel
theorem dX8_ring_10 : decode cX8_ring 10 = .ok (.ldc 136, 2) := by decide +kernel
theorem dX8_ring_12 : decode cX8_ring 12 = .ok (.ireturn, 1) := by decide +kernel
theorem dX8_ring_13 : decode cX8_ring 13 = .ok (.iload_n 1, 1) := by decide +kernel
theorem dX8_ring_14 : decode cX8_ring 14 = .ok (.invokestatic 159, 3) := by decide +kernel
theorem dX8_ring_17 : decode cX8_ring 17 = .ok (.ifCond .eq 10, 3) := by decide +kernel
theorem dX8_ring_20 : decode cX8_ring 20 = .ok (.iload_n 2, 1) := by decide +kernel
theorem dX8_ring_21 : decode cX8_ring 21 = .ok (.invokestatic 222, 3) := by decide +kernel
theorem dX8_ring_24 : decode cX8_ring 24 = .ok (.ifCond .ne 6, 3) := by decide +kernel
theorem dX8_ring_27 : decode cX8_ring 27 = .ok (.ldc 68, 2) := by decide +kernel
theorem dX8_ring_29 : decode cX8_ring 29 = .ok (.ireturn, 1) := by decide +kernel
theorem dX8_ring_30 : decode cX8_ring 30 = .ok (.iload_n 1, 1) := by decide +kernel
theorem dX8_ring_31 : decode cX8_ring 31 = .ok (.invokestatic 273, 3) := by decide +kernel
theorem dX8_ring_34 : decode cX8_ring 34 = .ok (.istore_n 3, 1) := by decide +kernel
theorem dX8_ring_35 : decode cX8_ring 35 = .ok (.iload_n 2, 1) := by decide +kernel
theorem dX8_ring_36 : decode cX8_ring 36 = .ok (.iconst 1, 1) := by decide +kernel
theorem dX8_ring_37 : decode cX8_ring 37 = .ok (.if_icmp .ne 10, 3) := by decide +kernel
theorem dX8_ring_40 : decode cX8_ring 40 = .ok (.iload_n 3, 1) := by decide +kernel
theorem dX8_ring_41 : decode cX8_ring 41 = .ok (.invokestatic 244, 3) := by decide +kernel
theorem dX8_ring_44 : decode cX8_ring 44 = .ok (.goto 22, 3) := by decide +kernel
theorem dX8_ring_47 : decode cX8_ring 47 = .ok (.aload_n 0, 1) := by decide +kernel
theorem dX8_ring_48 : decode cX8_ring 48 = .ok (.getfield 26, 3) := by decide +kernel
theorem dX8_ring_51 : decode cX8_ring 51 = .ok (.iconst 1, 1) := by decide +kernel
theorem dX8_ring_52 : decode cX8_ring 52 = .ok (.iload_n 3, 1) := by decide +kernel
theorem dX8_ring_53 : decode cX8_ring 53 = .ok (.aload_n 0, 1) := by decide +kernel
theorem dX8_ring_54 : decode cX8_ring 54 = .ok (.getfield 26, 3) := by decide +kernel
theorem dX8_ring_57 : decode cX8_ring 57 = .ok (.invokevirtual 153, 3) := by decide +kernel
theorem dX8_ring_60 : decode cX8_ring 60 = .ok (.iconst (-1), 1) := by decide +kernel
theorem dX8_ring_61 : decode cX8_ring 61 = .ok (.ixor, 1) := by decide +kernel
theorem dX8_ring_62 : decode cX8_ring 62 = .ok (.iand, 1) := by decide +kernel
theorem dX8_ring_63 : decode cX8_ring 63 = .ok (.invokevirtual 276, 3) := by decide +kernel
theorem dX8_ring_66 : decode cX8_ring 66 = .ok (.ireturn, 1) := by decide +kernel
set_option maxRecDepth 20000 in
theorem ggX8_purses_X3_hasBidder : GoodIn wsX8_purses wsX3_hasBidder := goodIn_r _ [16, 17, 86, 87, 88, 89, 90, 91, 92, 93, 94, 95, 96] (by decide +kernel) (by decide +kernel)
set_option maxRecDepth 20000 in
theorem gX8_purses_X3_hasBidder : GoodIn wsX8_purses (wsV RX8 156 RX3 yX3_hasBidder wsX3_hasBidder) := goodIn_app (goodIn_of _ (by decide +kernel)) ggX8_purses_X3_hasBidder
set_option maxRecDepth 20000 in
theorem ggX8_purses_X5_isRow : GoodIn wsX8_purses wsX5_isRow := goodIn_r _ [21] (by decide +kernel) (by decide +kernel)
set_option maxRecDepth 20000 in
theorem gX8_purses_X5_isRow : GoodIn wsX8_purses (va_wsS RX8 64 yX5_isRow wsX5_isRow) := goodIn_app (goodIn_of _ (by decide +kernel)) ggX8_purses_X5_isRow
set_option maxRecDepth 20000 in
theorem ggX8_purses_X8_isNumberOfItems : GoodIn wsX8_purses wsX8_isNumberOfItems := goodIn_r _ [25] (by decide +kernel) (by decide +kernel)
set_option maxRecDepth 20000 in
theorem gX8_purses_X8_isNumberOfItems : GoodIn wsX8_purses (va_wsS RX8 252 yX8_isNumberOfItems wsX8_isNumberOfItems) := goodIn_app (goodIn_of _ (by decide +kernel)) ggX8_purses_X8_isNumberOfItems
set_option maxRecDepth 20000 in
theorem ggX8_purses_X8_isChoice : GoodIn wsX8_purses wsX8_isChoice := goodIn_r _ [28] (by decide +kernel) (by decide +kernel)
set_option maxRecDepth 20000 in
theorem gX8_purses_X8_isChoice : GoodIn wsX8_purses (va_wsS RX8 222 yX8_isChoice wsX8_isChoice) := goodIn_app (goodIn_of _ (by decide +kernel)) ggX8_purses_X8_isChoice
set_option maxRecDepth 20000 in
theorem ggX8_purses_X5_isMissing : GoodIn wsX8_purses wsX5_isMissing := goodIn_r _ [32, 33, 97, 98, 99] (by decide +kernel) (by decide +kernel)
set_option maxRecDepth 20000 in
theorem gX8_purses_X5_isMissing : GoodIn wsX8_purses (wsV RX8 80 RX5 yX5_isMissing wsX5_isMissing) := goodIn_app (goodIn_of _ (by decide +kernel)) ggX8_purses_X5_isMissing
set_option maxRecDepth 20000 in
theorem ggX8_purses_X8_found : GoodIn wsX8_purses wsX8_found := goodIn_r _ [37, 38, 39, 76, 77, 78, 79, 80, 81, 82, 83, 84, 85] (by decide +kernel) (by decide +kernel)
set_option maxRecDepth 20000 in
theorem gX8_purses_X8_found : GoodIn wsX8_purses (wsV RX8 69 RX8 yX8_found wsX8_found) := goodIn_app (goodIn_of _ (by decide +kernel)) ggX8_purses_X8_found
set_option maxRecDepth 20000 in
theorem ggX8_purses_X5_hasPlaces : GoodIn wsX8_purses wsX5_hasPlaces := goodIn_r _ [43, 44, 97, 98, 99] (by decide +kernel) (by decide +kernel)
set_option maxRecDepth 20000 in
theorem gX8_purses_X5_hasPlaces : GoodIn wsX8_purses (wsV RX8 83 RX5 yX5_hasPlaces wsX5_hasPlaces) := goodIn_app (goodIn_of _ (by decide +kernel)) ggX8_purses_X5_hasPlaces
set_option maxRecDepth 20000 in
theorem ggX8_purses_X8_areCells : GoodIn wsX8_purses wsX8_areCells := goodIn_r _ [48, 3, 49, 50, 51, 20, 52, 53, 54, 55, 24, 56, 76, 77, 78, 79, 80, 81, 82, 83, 84, 85, 97, 98, 99] (by decide +kernel) (by decide +kernel)
set_option maxRecDepth 20000 in
theorem gX8_purses_X8_areCells : GoodIn wsX8_purses (wsV RX8 264 RX8 yX8_areCells wsX8_areCells) := goodIn_app (goodIn_of _ (by decide +kernel)) ggX8_purses_X8_areCells
set_option maxRecDepth 20000 in
theorem ggX8_purses_X5_item : GoodIn wsX8_purses wsX5_item := goodIn_r _ [52, 53, 97, 98, 99] (by decide +kernel) (by decide +kernel)
set_option maxRecDepth 20000 in
theorem gX8_purses_X5_item : GoodIn wsX8_purses (wsV RX8 258 RX5 yX5_item wsX5_item) := goodIn_app (goodIn_of _ (by decide +kernel)) ggX8_purses_X5_item
set_option maxRecDepth 20000 in
theorem ggX8_purses_X3_costTo : GoodIn wsX8_purses wsX3_costTo := goodIn_r _ [60, 61, 62, 63, 64, 15, 65, 66, 67, 68, 69, 70, 71, 86, 87, 88, 89, 90, 91, 92, 93, 94, 95, 96] (by decide +kernel) (by decide +kernel)
set_option maxRecDepth 20000 in
theorem gX8_purses_X3_costTo : GoodIn wsX8_purses (wsV RX8 172 RX3 yX3_costTo wsX3_costTo) := goodIn_app (goodIn_of _ (by decide +kernel)) ggX8_purses_X3_costTo
set_option maxRecDepth 20000 in
theorem ggX8_purses_X8_unfound : GoodIn wsX8_purses wsX8_unfound := goodIn_r _ [75, 38, 76, 77, 78, 79, 80, 81, 82, 83, 84, 85] (by decide +kernel) (by decide +kernel)
set_option maxRecDepth 20000 in
theorem gX8_purses_X8_unfound : GoodIn wsX8_purses (wsV RX8 77 RX8 yX8_unfound wsX8_unfound) := goodIn_app (goodIn_of _ (by decide +kernel)) ggX8_purses_X8_unfound
theorem dX8_purses_0 : decode cX8_purses 0 = .ok (.aload_n 0, 1) := by decide +kernel
theorem dX8_purses_1 : decode cX8_purses 1 = .ok (.getfield 26, 3) := by decide +kernel
theorem dX8_purses_4 : decode cX8_purses 4 = .ok (.iload_n 1, 1) := by decide +kernel
theorem dX8_purses_5 : decode cX8_purses 5 = .ok (.invokevirtual 156, 3) := by decide +kernel
theorem dX8_purses_8 : decode cX8_purses 8 = .ok (.ifCond .eq 26, 3) := by decide +kernel
theorem dX8_purses_11 : decode cX8_purses 11 = .ok (.iload_n 2, 1) := by decide +kernel
