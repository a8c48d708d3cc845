theorem dX4_takes_0 : decode cX4_takes 0 = .ok (.iload_n 1, 1) := by decide +kernel
theorem dX4_takes_1 : decode cX4_takes 1 = .ok (.iload_n 0, 1) := by decide +kernel
theorem dX4_takes_2 : decode cX4_takes 2 = .ok (.iconst 5, 1) := by decide +kernel
theorem dX4_takes_3 : decode cX4_takes 3 = .ok (.if_icmp .ne 7, 3) := by decide +kernel
theorem dX4_takes_6 : decode cX4_takes 6 = .ok (.iconst 1, 1) := by decide +kernel
theorem dX4_takes_7 : decode cX4_takes 7 = .ok (.goto 4, 3) := by decide +kernel
theorem dX4_takes_10 : decode cX4_takes 10 = .ok (.iconst 0, 1) := by decide +kernel
theorem dX4_takes_11 : decode cX4_takes 11 = .ok (.if_icmp .eq 7, 3) := by decide +kernel
theorem dX4_takes_14 : decode cX4_takes 14 = .ok (.iconst 1, 1) := by decide +kernel
theorem dX4_takes_15 : decode cX4_takes 15 = .ok (.goto 4, 3) := by decide +kernel
theorem dX4_takes_18 : decode cX4_takes 18 = .ok (.iconst 0, 1) := by decide +kernel
theorem dX4_takes_19 : decode cX4_takes 19 = .ok (.ireturn, 1) := by decide +kernel
theorem dX4_loses_0 : decode cX4_loses 0 = .ok (.iload_n 0, 1) := by decide +kernel
theorem dX4_loses_1 : decode cX4_loses 1 = .ok (.lookupswitch 51 #[(3, 38), (5, 27)], 27) := by decide +kernel
theorem dX4_loses_28 : decode cX4_loses 28 = .ok (.iload_n 2, 1) := by decide +kernel
theorem dX4_loses_29 : decode cX4_loses 29 = .ok (.iload_n 1, 1) := by decide +kernel
theorem dX4_loses_30 : decode cX4_loses 30 = .ok (.if_icmp .le 7, 3) := by decide +kernel
theorem dX4_loses_33 : decode cX4_loses 33 = .ok (.iconst 1, 1) := by decide +kernel
theorem dX4_loses_34 : decode cX4_loses 34 = .ok (.goto 4, 3) := by decide +kernel
theorem dX4_loses_37 : decode cX4_loses 37 = .ok (.iconst 0, 1) := by decide +kernel
theorem dX4_loses_38 : decode cX4_loses 38 = .ok (.ireturn, 1) := by decide +kernel
theorem dX4_loses_39 : decode cX4_loses 39 = .ok (.iload_n 1, 1) := by decide +kernel
theorem dX4_loses_40 : decode cX4_loses 40 = .ok (.iload_n 2, 1) := by decide +kernel
theorem dX4_loses_41 : decode cX4_loses 41 = .ok (.isub, 1) := by decide +kernel
theorem dX4_loses_42 : decode cX4_loses 42 = .ok (.iconst 2, 1) := by decide +kernel
theorem dX4_loses_43 : decode cX4_loses 43 = .ok (.if_icmp .lt 7, 3) := by decide +kernel
theorem dX4_loses_46 : decode cX4_loses 46 = .ok (.iconst 1, 1) := by decide +kernel
theorem dX4_loses_47 : decode cX4_loses 47 = .ok (.goto 4, 3) := by decide +kernel
theorem dX4_loses_50 : decode cX4_loses 50 = .ok (.iconst 0, 1) := by decide +kernel
theorem dX4_loses_51 : decode cX4_loses 51 = .ok (.ireturn, 1) := by decide +kernel
theorem dX4_loses_52 : decode cX4_loses 52 = .ok (.iload_n 2, 1) := by decide +kernel
theorem dX4_loses_53 : decode cX4_loses 53 = .ok (.iload_n 1, 1) := by decide +kernel
theorem dX4_loses_54 : decode cX4_loses 54 = .ok (.if_icmp .gt 7, 3) := by decide +kernel
theorem dX4_loses_57 : decode cX4_loses 57 = .ok (.iconst 1, 1) := by decide +kernel
theorem dX4_loses_58 : decode cX4_loses 58 = .ok (.goto 4, 3) := by decide +kernel
theorem dX4_loses_61 : decode cX4_loses 61 = .ok (.iconst 0, 1) := by decide +kernel
theorem dX4_loses_62 : decode cX4_loses 62 = .ok (.ireturn, 1) := by decide +kernel
theorem dX5_init_0 : decode cX5_init 0 = .ok (.aload_n 0, 1) := by decide +kernel
theorem dX5_init_1 : decode cX5_init 1 = .ok (.invokespecial 1, 3) := by decide +kernel
theorem dX5_init_4 : decode cX5_init 4 = .ok (.aload_n 0, 1) := by decide +kernel
theorem dX5_init_5 : decode cX5_init 5 = .ok (.bipush 8, 2) := by decide +kernel
theorem dX5_init_7 : decode cX5_init 7 = .ok (.newarray .int, 2) := by decide +kernel
theorem dX5_init_9 : decode cX5_init 9 = .ok (.putfield 9, 3) := by decide +kernel
theorem dX5_init_12 : decode cX5_init 12 = .ok (.aload_n 0, 1) := by decide +kernel
theorem dX5_init_13 : decode cX5_init 13 = .ok (.bipush 8, 2) := by decide +kernel
theorem dX5_init_15 : decode cX5_init 15 = .ok (.newarray .int, 2) := by decide +kernel
theorem dX5_init_17 : decode cX5_init 17 = .ok (.putfield 13, 3) := by decide +kernel
theorem dX5_init_20 : decode cX5_init 20 = .ok (.aload_n 0, 1) := by decide +kernel
theorem dX5_init_21 : decode cX5_init 21 = .ok (.sipush 320, 3) := by decide +kernel
theorem dX5_init_24 : decode cX5_init 24 = .ok (.newarray .int, 2) := by decide +kernel
theorem dX5_init_26 : decode cX5_init 26 = .ok (.putfield 16, 3) := by decide +kernel
theorem dX5_init_29 : decode cX5_init 29 = .ok (.iconst 0, 1) := by decide +kernel
theorem dX5_init_30 : decode cX5_init 30 = .ok (.istore_n 1, 1) := by decide +kernel
theorem dX5_init_31 : decode cX5_init 31 = .ok (.iload_n 1, 1) := by decide +kernel
theorem dX5_init_32 : decode cX5_init 32 = .ok (.bipush 8, 2) := by decide +kernel
theorem dX5_init_34 : decode cX5_init 34 = .ok (.if_icmp .ge 16, 3) := by decide +kernel
theorem dX5_init_37 : decode cX5_init 37 = .ok (.aload_n 0, 1) := by decide +kernel
theorem dX5_init_38 : decode cX5_init 38 = .ok (.getfield 9, 3) := by decide +kernel
theorem dX5_init_41 : decode cX5_init 41 = .ok (.iload_n 1, 1) := by decide +kernel
theorem dX5_init_42 : decode cX5_init 42 = .ok (.iconst (-1), 1) := by decide +kernel
theorem dX5_init_43 : decode cX5_init 43 = .ok (.iastore, 1) := by decide +kernel
theorem dX5_init_44 : decode cX5_init 44 = .ok (.iinc 1 1, 3) := by decide +kernel
theorem dX5_init_47 : decode cX5_init 47 = .ok (.goto (-16), 3) := by decide +kernel
theorem dX5_init_50 : decode cX5_init 50 = .ok (.return_, 1) := by decide +kernel
theorem dX5_isRow_0 : decode cX5_isRow 0 = .ok (.iload_n 0, 1) := by decide +kernel
theorem dX5_isRow_1 : decode cX5_isRow 1 = .ok (.ifCond .lt 13, 3) := by decide +kernel
theorem dX5_isRow_4 : decode cX5_isRow 4 = .ok (.iload_n 0, 1) := by decide +kernel
theorem dX5_isRow_5 : decode cX5_isRow 5 = .ok (.bipush 8, 2) := by decide +kernel
theorem dX5_isRow_7 : decode cX5_isRow 7 = .ok (.if_icmp .ge 7, 3) := by decide +kernel
theorem dX5_isRow_10 : decode cX5_isRow 10 = .ok (.iconst 1, 1) := by decide +kernel
theorem dX5_isRow_11 : decode cX5_isRow 11 = .ok (.goto 4, 3) := by decide +kernel
theorem dX5_isRow_14 : decode cX5_isRow 14 = .ok (.iconst 0, 1) := by decide +kernel
theorem dX5_isRow_15 : decode cX5_isRow 15 = .ok (.ireturn, 1) := by decide +kernel
theorem dX5_isMissing_0 : decode cX5_isMissing 0 = .ok (.aload_n 0, 1) := by decide +kernel
theorem dX5_isMissing_1 : decode cX5_isMissing 1 = .ok (.getfield 9, 3) := by decide +kernel
theorem dX5_isMissing_4 : decode cX5_isMissing 4 = .ok (.iload_n 1, 1) := by decide +kernel
theorem dX5_isMissing_5 : decode cX5_isMissing 5 = .ok (.iaload, 1) := by decide +kernel
theorem dX5_isMissing_6 : decode cX5_isMissing 6 = .ok (.iconst (-1), 1) := by decide +kernel
theorem dX5_isMissing_7 : decode cX5_isMissing 7 = .ok (.if_icmp .ne 7, 3) := by decide +kernel
theorem dX5_isMissing_10 : decode cX5_isMissing 10 = .ok (.iconst 1, 1) := by decide +kernel
theorem dX5_isMissing_11 : decode cX5_isMissing 11 = .ok (.goto 4, 3) := by decide +kernel
theorem dX5_isMissing_14 : decode cX5_isMissing 14 = .ok (.iconst 0, 1) := by decide +kernel
theorem dX5_isMissing_15 : decode cX5_isMissing 15 = .ok (.ireturn, 1) := by decide +kernel
theorem dX5_lane_0 : decode cX5_lane 0 = .ok (.aload_n 0, 1) := by decide +kernel
theorem dX5_lane_1 : decode cX5_lane 1 = .ok (.getfield 9, 3) := by decide +kernel
theorem dX5_lane_4 : decode cX5_lane 4 = .ok (.iload_n 1, 1) := by decide +kernel
theorem dX5_lane_5 : decode cX5_lane 5 = .ok (.iaload, 1) := by decide +kernel
theorem dX5_lane_6 : decode cX5_lane 6 = .ok (.ireturn, 1) := by decide +kernel
theorem dX5_hasPlaces_0 : decode cX5_hasPlaces 0 = .ok (.iload_n 2, 1) := by decide +kernel
theorem dX5_hasPlaces_1 : decode cX5_hasPlaces 1 = .ok (.ifCond .lt 33, 3) := by decide +kernel
theorem dX5_hasPlaces_4 : decode cX5_hasPlaces 4 = .ok (.iload_n 3, 1) := by decide +kernel
theorem dX5_hasPlaces_5 : decode cX5_hasPlaces 5 = .ok (.ifCond .lt 29, 3) := by decide +kernel
theorem dX5_hasPlaces_8 : decode cX5_hasPlaces 8 = .ok (.iload_n 3, 1) := by decide +kernel
theorem dX5_hasPlaces_9 : decode cX5_hasPlaces 9 = .ok (.aload_n 0, 1) := by decide +kernel
theorem dX5_hasPlaces_10 : decode cX5_hasPlaces 10 = .ok (.getfield 13, 3) := by decide +kernel
theorem dX5_hasPlaces_13 : decode cX5_hasPlaces 13 = .ok (.iload_n 1, 1) := by decide +kernel
theorem dX5_hasPlaces_14 : decode cX5_hasPlaces 14 = .ok (.iaload, 1) := by decide +kernel
theorem dX5_hasPlaces_15 : decode cX5_hasPlaces 15 = .ok (.if_icmp .gt 19, 3) := by decide +kernel
theorem dX5_hasPlaces_18 : decode cX5_hasPlaces 18 = .ok (.iload_n 2, 1) := by decide +kernel
theorem dX5_hasPlaces_19 : decode cX5_hasPlaces 19 = .ok (.aload_n 0, 1) := by decide +kernel
theorem dX5_hasPlaces_20 : decode cX5_hasPlaces 20 = .ok (.getfield 13, 3) := by decide +kernel
theorem dX5_hasPlaces_23 : decode cX5_hasPlaces 23 = .ok (.iload_n 1, 1) := by decide +kernel
theorem dX5_hasPlaces_24 : decode cX5_hasPlaces 24 = .ok (.iaload, 1) := by decide +kernel
theorem dX5_hasPlaces_25 : decode cX5_hasPlaces 25 = .ok (.iload_n 3, 1) := by decide +kernel
theorem dX5_hasPlaces_26 : decode cX5_hasPlaces 26 = .ok (.isub, 1) := by decide +kernel
theorem dX5_hasPlaces_27 : decode cX5_hasPlaces 27 = .ok (.if_icmp .gt 7, 3) := by decide +kernel
theorem dX5_hasPlaces_30 : decode cX5_hasPlaces 30 = .ok (.iconst 1, 1) := by decide +kernel
theorem dX5_hasPlaces_31 : decode cX5_hasPlaces 31 = .ok (.goto 4, 3) := by decide +kernel
theorem dX5_hasPlaces_34 : decode cX5_hasPlaces 34 = .ok (.iconst 0, 1) := by decide +kernel
theorem dX5_hasPlaces_35 : decode cX5_hasPlaces 35 = .ok (.ireturn, 1) := by decide +kernel
theorem dX5_make_0 : decode cX5_make 0 = .ok (.aload_n 0, 1) := by decide +kernel
theorem dX5_make_1 : decode cX5_make 1 = .ok (.getfield 9, 3) := by decide +kernel
theorem dX5_make_4 : decode cX5_make 4 = .ok (.iload_n 1, 1) := by decide +kernel
theorem dX5_make_5 : decode cX5_make 5 = .ok (.iload_n 2, 1) := by decide +kernel
theorem dX5_make_6 : decode cX5_make 6 = .ok (.iastore, 1) := by decide +kernel
theorem dX5_make_7 : decode cX5_make 7 = .ok (.aload_n 0, 1) := by decide +kernel
theorem dX5_make_8 : decode cX5_make 8 = .ok (.getfield 13, 3) := by decide +kernel
theorem dX5_make_11 : decode cX5_make 11 = .ok (.iload_n 1, 1) := by decide +kernel
theorem dX5_make_12 : decode cX5_make 12 = .ok (.iload_n 3, 1) := by decide +kernel
theorem dX5_make_13 : decode cX5_make 13 = .ok (.iastore, 1) := by decide +kernel
theorem dX5_make_14 : decode cX5_make 14 = .ok (.iconst 0, 1) := by decide +kernel
theorem dX5_make_15 : decode cX5_make 15 = .ok (.istore 4, 2) := by decide +kernel
theorem dX5_make_17 : decode cX5_make 17 = .ok (.iload 4, 2) := by decide +kernel
theorem dX5_make_19 : decode cX5_make 19 = .ok (.iload_n 3, 1) := by decide +kernel
theorem dX5_make_20 : decode cX5_make 20 = .ok (.if_icmp .ge 22, 3) := by decide +kernel
theorem dX5_make_23 : decode cX5_make 23 = .ok (.aload_n 0, 1) := by decide +kernel
theorem dX5_make_24 : decode cX5_make 24 = .ok (.getfield 16, 3) := by decide +kernel
theorem dX5_make_27 : decode cX5_make 27 = .ok (.iload_n 1, 1) := by decide +kernel
theorem dX5_make_28 : decode cX5_make 28 = .ok (.bipush 40, 2) := by decide +kernel
theorem dX5_make_30 : decode cX5_make 30 = .ok (.imul, 1) := by decide +kernel
theorem dX5_make_31 : decode cX5_make 31 = .ok (.iload 4, 2) := by decide +kernel
theorem dX5_make_33 : decode cX5_make 33 = .ok (.iadd, 1) := by decide +kernel
theorem dX5_make_34 : decode cX5_make 34 = .ok (.iconst 0, 1) := by decide +kernel
theorem dX5_make_35 : decode cX5_make 35 = .ok (.iastore, 1) := by decide +kernel
theorem dX5_make_36 : decode cX5_make 36 = .ok (.iinc 4 1, 3) := by decide +kernel
theorem dX5_make_39 : decode cX5_make 39 = .ok (.goto (-22), 3) := by decide +kernel
theorem dX5_make_42 : decode cX5_make 42 = .ok (.return_, 1) := by decide +kernel
theorem dX5_item_0 : decode cX5_item 0 = .ok (.aload_n 0, 1) := by decide +kernel
theorem dX5_item_1 : decode cX5_item 1 = .ok (.getfield 16, 3) := by decide +kernel
theorem dX5_item_4 : decode cX5_item 4 = .ok (.iload_n 1, 1) := by decide +kernel
theorem dX5_item_5 : decode cX5_item 5 = .ok (.bipush 40, 2) := by decide +kernel
theorem dX5_item_7 : decode cX5_item 7 = .ok (.imul, 1) := by decide +kernel
theorem dX5_item_8 : decode cX5_item 8 = .ok (.iload_n 2, 1) := by decide +kernel
theorem dX5_item_9 : decode cX5_item 9 = .ok (.iadd, 1) := by decide +kernel
theorem dX5_item_10 : decode cX5_item 10 = .ok (.iaload, 1) := by decide +kernel
theorem dX5_item_11 : decode cX5_item 11 = .ok (.ireturn, 1) := by decide +kernel
theorem dX5_put_0 : decode cX5_put 0 = .ok (.iload_n 3, 1) := by decide +kernel
theorem dX5_put_1 : decode cX5_put 1 = .ok (.istore 4, 2) := by decide +kernel
theorem dX5_put_3 : decode cX5_put 3 = .ok (.aload_n 0, 1) := by decide +kernel
theorem dX5_put_4 : decode cX5_put 4 = .ok (.getfield 9, 3) := by decide +kernel
theorem dX5_put_7 : decode cX5_put 7 = .ok (.iload_n 1, 1) := by decide +kernel
theorem dX5_put_8 : decode cX5_put 8 = .ok (.iaload, 1) := by decide +kernel
theorem dX5_put_9 : decode cX5_put 9 = .ok (.ifCond .ne 10, 3) := by decide +kernel
theorem dX5_put_12 : decode cX5_put 12 = .ok (.iload_n 3, 1) := by decide +kernel
theorem dX5_put_13 : decode cX5_put 13 = .ok (.i2b, 1) := by decide +kernel
theorem dX5_put_14 : decode cX5_put 14 = .ok (.istore 4, 2) := by decide +kernel
theorem dX5_put_16 : decode cX5_put 16 = .ok (.goto 17, 3) := by decide +kernel
theorem dX5_put_19 : decode cX5_put 19 = .ok (.aload_n 0, 1) := by decide +kernel
theorem dX5_put_20 : decode cX5_put 20 = .ok (.getfield 9, 3) := by decide +kernel
theorem dX5_put_23 : decode cX5_put 23 = .ok (.iload_n 1, 1) := by decide +kernel
theorem dX5_put_24 : decode cX5_put 24 = .ok (.iaload, 1) := by decide +kernel
theorem dX5_put_25 : decode cX5_put 25 = .ok (.iconst 1, 1) := by decide +kernel
theorem dX5_put_26 : decode cX5_put 26 = .ok (.if_icmp .ne 7, 3) := by decide +kernel
theorem dX5_put_29 : decode cX5_put 29 = .ok (.iload_n 3, 1) := by decide +kernel
theorem dX5_put_30 : decode cX5_put 30 = .ok (.i2s, 1) := by decide +kernel
theorem dX5_put_31 : decode cX5_put 31 = .ok (.istore 4, 2) := by decide +kernel
theorem dX5_put_33 : decode cX5_put 33 = .ok (.aload_n 0, 1) := by decide +kernel
theorem dX5_put_34 : decode cX5_put 34 = .ok (.getfield 16, 3) := by decide +kernel
theorem dX5_put_37 : decode cX5_put 37 = .ok (.iload_n 1, 1) := by decide +kernel
theorem dX5_put_38 : decode cX5_put 38 = .ok (.bipush 40, 2) := by decide +kernel
theorem dX5_put_40 : decode cX5_put 40 = .ok (.imul, 1) := by decide +kernel
theorem dX5_put_41 : decode cX5_put 41 = .ok (.iload_n 2, 1) := by decide +kernel
theorem dX5_put_42 : decode cX5_put 42 = .ok (.iadd, 1) := by decide +kernel
theorem dX5_put_43 : decode cX5_put 43 = .ok (.iload 4, 2) := by decide +kernel
theorem dX5_put_45 : decode cX5_put 45 = .ok (.iastore, 1) := by decide +kernel
theorem dX5_put_46 : decode cX5_put 46 = .ok (.iload 4, 2) := by decide +kernel
theorem dX5_put_48 : decode cX5_put 48 = .ok (.ireturn, 1) := by decide +kernel
theorem dX5_move_0 : decode cX5_move 0 = .ok (.aload_n 0, 1) := by decide +kernel
theorem dX5_move_1 : decode cX5_move 1 = .ok (.getfield 16, 3) := by decide +kernel
theorem dX5_move_4 : decode cX5_move 4 = .ok (.iload_n 1, 1) := by decide +kernel
theorem dX5_move_5 : decode cX5_move 5 = .ok (.bipush 40, 2) := by decide +kernel
theorem dX5_move_7 : decode cX5_move 7 = .ok (.imul, 1) := by decide +kernel
theorem dX5_move_8 : decode cX5_move 8 = .ok (.iload_n 2, 1) := by decide +kernel
theorem dX5_move_9 : decode cX5_move 9 = .ok (.iadd, 1) := by decide +kernel
theorem dX5_move_10 : decode cX5_move 10 = .ok (.aload_n 0, 1) := by decide +kernel
theorem dX5_move_11 : decode cX5_move 11 = .ok (.getfield 16, 3) := by decide +kernel
theorem dX5_move_14 : decode cX5_move 14 = .ok (.iload_n 3, 1) := by decide +kernel
theorem dX5_move_15 : decode cX5_move 15 = .ok (.bipush 40, 2) := by decide +kernel
theorem dX5_move_17 : decode cX5_move 17 = .ok (.imul, 1) := by decide +kernel
theorem dX5_move_18 : decode cX5_move 18 = .ok (.iload 4, 2) := by decide +kernel
theorem dX5_move_20 : decode cX5_move 20 = .ok (.iadd, 1) := by decide +kernel
theorem dX5_move_21 : decode cX5_move 21 = .ok (.iload 5, 2) := by decide +kernel
theorem dX5_move_23 : decode cX5_move 23 = .ok (.invokestatic 19, 3) := by decide +kernel
theorem dX5_move_26 : decode cX5_move 26 = .ok (.return_, 1) := by decide +kernel
theorem dX5_remove_0 : decode cX5_remove 0 = .ok (.aload_n 0, 1) := by decide +kernel
theorem dX5_remove_1 : decode cX5_remove 1 = .ok (.getfield 13, 3) := by decide +kernel
theorem dX5_remove_4 : decode cX5_remove 4 = .ok (.iload_n 1, 1) := by decide +kernel
theorem dX5_remove_5 : decode cX5_remove 5 = .ok (.iaload, 1) := by decide +kernel
theorem dX5_remove_6 : decode cX5_remove 6 = .ok (.istore_n 2, 1) := by decide +kernel
theorem dX5_remove_7 : decode cX5_remove 7 = .ok (.aload_n 0, 1) := by decide +kernel
theorem dX5_remove_8 : decode cX5_remove 8 = .ok (.getfield 9, 3) := by decide +kernel
theorem dX5_remove_11 : decode cX5_remove 11 = .ok (.iload_n 1, 1) := by decide +kernel
theorem dX5_remove_12 : decode cX5_remove 12 = .ok (.iconst (-1), 1) := by decide +kernel
theorem dX5_remove_13 : decode cX5_remove 13 = .ok (.iastore, 1) := by decide +kernel
theorem dX5_remove_14 : decode cX5_remove 14 = .ok (.aload_n 0, 1) := by decide +kernel
theorem dX5_remove_15 : decode cX5_remove 15 = .ok (.getfield 13, 3) := by decide +kernel
theorem dX5_remove_18 : decode cX5_remove 18 = .ok (.iload_n 1, 1) := by decide +kernel
theorem dX5_remove_19 : decode cX5_remove 19 = .ok (.iconst 0, 1) := by decide +kernel
theorem dX5_remove_20 : decode cX5_remove 20 = .ok (.iastore, 1) := by decide +kernel
theorem dX5_remove_21 : decode cX5_remove 21 = .ok (.iload_n 2, 1) := by decide +kernel
theorem dX5_remove_22 : decode cX5_remove 22 = .ok (.ireturn, 1) := by decide +kernel
set_option maxRecDepth 20000 in
theorem ggX5_there_X5_isMissing : GoodIn wsX5_there wsX5_isMissing := goodIn_r _ [5, 6, 7, 8, 9] (by decide +kernel) (by decide +kernel)
set_option maxRecDepth 20000 in
theorem gX5_there_X5_isMissing : GoodIn wsX5_there (wsV RX5 25 RX5 yX5_isMissing wsX5_isMissing) := goodIn_app (goodIn_of _ (by decide +kernel)) ggX5_there_X5_isMissing
theorem dX5_there_0 : decode cX5_there 0 = .ok (.iconst 0, 1) := by decide +kernel
theorem dX5_there_1 : decode cX5_there 1 = .ok (.istore_n 1, 1) := by decide +kernel
theorem dX5_there_2 : decode cX5_there 2 = .ok (.iconst 0, 1) := by decide +kernel
theorem dX5_there_3 : decode cX5_there 3 = .ok (.istore_n 2, 1) := by decide +kernel
theorem dX5_there_4 : decode cX5_there 4 = .ok (.iload_n 2, 1) := by decide +kernel
theorem dX5_there_5 : decode cX5_there 5 = .ok (.bipush 8, 2) := by decide +kernel
theorem dX5_there_7 : decode cX5_there 7 = .ok (.if_icmp .ge 20, 3) := by decide +kernel
theorem dX5_there_10 : decode cX5_there 10 = .ok (.aload_n 0, 1) := by decide +kernel
theorem dX5_there_11 : decode cX5_there 11 = .ok (.iload_n 2, 1) := by decide +kernel
theorem dX5_there_12 : decode cX5_there 12 = .ok (.invokevirtual 25, 3) := by decide +kernel
theorem dX5_there_15 : decode cX5_there 15 = .ok (.ifCond .ne 6, 3) := by decide +kernel
theorem dX5_there_18 : decode cX5_there 18 = .ok (.iinc 1 1, 3) := by decide +kernel
theorem dX5_there_21 : decode cX5_there 21 = .ok (.iinc 2 1, 3) := by decide +kernel
theorem dX5_there_24 : decode cX5_there 24 = .ok (.goto (-20), 3) := by decide +kernel
theorem dX5_there_27 : decode cX5_there 27 = .ok (.iload_n 1, 1) := by decide +kernel
theorem dX5_there_28 : decode cX5_there 28 = .ok (.ireturn, 1) := by decide +kernel
theorem dX6_beside_0 : decode cX6_beside 0 = .ok (.iload_n 0, 1) := by decide +kernel
theorem dX6_beside_1 : decode cX6_beside 1 = .ok (.sipush (-16913), 3) := by decide +kernel
theorem dX6_beside_4 : decode cX6_beside 4 = .ok (.iand, 1) := by decide +kernel
theorem dX6_beside_5 : decode cX6_beside 5 = .ok (.iconst 1, 1) := by decide +kernel
theorem dX6_beside_6 : decode cX6_beside 6 = .ok (.ishl, 1) := by decide +kernel
theorem dX6_beside_7 : decode cX6_beside 7 = .ok (.istore_n 1, 1) := by decide +kernel
theorem dX6_beside_8 : decode cX6_beside 8 = .ok (.iload_n 0, 1) := by decide +kernel
theorem dX6_beside_9 : decode cX6_beside 9 = .ok (.sipush (-1058), 3) := by decide +kernel
theorem dX6_beside_12 : decode cX6_beside 12 = .ok (.iand, 1) := by decide +kernel
theorem dX6_beside_13 : decode cX6_beside 13 = .ok (.iconst 1, 1) := by decide +kernel
theorem dX6_beside_14 : decode cX6_beside 14 = .ok (.ishr, 1) := by decide +kernel
theorem dX6_beside_15 : decode cX6_beside 15 = .ok (.istore_n 2, 1) := by decide +kernel
theorem dX6_beside_16 : decode cX6_beside 16 = .ok (.iload_n 1, 1) := by decide +kernel
theorem dX6_beside_17 : decode cX6_beside 17 = .ok (.iload_n 2, 1) := by decide +kernel
theorem dX6_beside_18 : decode cX6_beside 18 = .ok (.ior, 1) := by decide +kernel
theorem dX6_beside_19 : decode cX6_beside 19 = .ok (.iload_n 0, 1) := by decide +kernel
theorem dX6_beside_20 : decode cX6_beside 20 = .ok (.iconst 5, 1) := by decide +kernel
theorem dX6_beside_21 : decode cX6_beside 21 = .ok (.ishl, 1) := by decide +kernel
theorem dX6_beside_22 : decode cX6_beside 22 = .ok (.ior, 1) := by decide +kernel
theorem dX6_beside_23 : decode cX6_beside 23 = .ok (.iload_n 0, 1) := by decide +kernel
theorem dX6_beside_24 : decode cX6_beside 24 = .ok (.iconst 5, 1) := by decide +kernel
theorem dX6_beside_25 : decode cX6_beside 25 = .ok (.ishr, 1) := by decide +kernel
theorem dX6_beside_26 : decode cX6_beside 26 = .ok (.ior, 1) := by decide +kernel
theorem dX6_beside_27 : decode cX6_beside 27 = .ok (.sipush 32767, 3) := by decide +kernel
theorem dX6_beside_30 : decode cX6_beside 30 = .ok (.iand, 1) := by decide +kernel
theorem dX6_beside_31 : decode cX6_beside 31 = .ok (.ireturn, 1) := by decide +kernel
set_option maxRecDepth 20000 in
theorem ggX6_parts_X6_partFrom : GoodIn wsX6_parts wsX6_partFrom := goodIn_r _ [4, 5, 6, 3, 7] (by decide +kernel) (by decide +kernel)
set_option maxRecDepth 20000 in
theorem gX6_parts_X6_partFrom : GoodIn wsX6_parts (va_wsS RX6 11 yX6_partFrom wsX6_partFrom) := goodIn_app (goodIn_of _ (by decide +kernel)) ggX6_parts_X6_partFrom
theorem dX6_parts_0 : decode cX6_parts 0 = .ok (.iload_n 0, 1) := by decide +kernel
theorem dX6_parts_1 : decode cX6_parts 1 = .ok (.sipush 32767, 3) := by decide +kernel
theorem dX6_parts_4 : decode cX6_parts 4 = .ok (.iand, 1) := by decide +kernel
theorem dX6_parts_5 : decode cX6_parts 5 = .ok (.istore_n 1, 1) := by decide +kernel
theorem dX6_parts_6 : decode cX6_parts 6 = .ok (.iconst 0, 1) := by decide +kernel
theorem dX6_parts_7 : decode cX6_parts 7 = .ok (.istore_n 2, 1) := by decide +kernel
theorem dX6_parts_8 : decode cX6_parts 8 = .ok (.iconst 0, 1) := by decide +kernel
theorem dX6_parts_9 : decode cX6_parts 9 = .ok (.istore_n 3, 1) := by decide +kernel
theorem dX6_parts_10 : decode cX6_parts 10 = .ok (.iload_n 3, 1) := by decide +kernel
theorem dX6_parts_11 : decode cX6_parts 11 = .ok (.bipush 15, 2) := by decide +kernel
theorem dX6_parts_13 : decode cX6_parts 13 = .ok (.if_icmp .ge 29, 3) := by decide +kernel
theorem dX6_parts_16 : decode cX6_parts 16 = .ok (.iload_n 1, 1) := by decide +kernel
theorem dX6_parts_17 : decode cX6_parts 17 = .ok (.ifCond .eq 25, 3) := by decide +kernel
theorem dX6_parts_20 : decode cX6_parts 20 = .ok (.iload_n 1, 1) := by decide +kernel
theorem dX6_parts_21 : decode cX6_parts 21 = .ok (.iload_n 1, 1) := by decide +kernel
theorem dX6_parts_22 : decode cX6_parts 22 = .ok (.iload_n 1, 1) := by decide +kernel
theorem dX6_parts_23 : decode cX6_parts 23 = .ok (.ineg, 1) := by decide +kernel
theorem dX6_parts_24 : decode cX6_parts 24 = .ok (.iand, 1) := by decide +kernel
theorem dX6_parts_25 : decode cX6_parts 25 = .ok (.iload_n 1, 1) := by decide +kernel
theorem dX6_parts_26 : decode cX6_parts 26 = .ok (.invokestatic 11, 3) := by decide +kernel
theorem dX6_parts_29 : decode cX6_parts 29 = .ok (.iconst (-1), 1) := by decide +kernel
theorem dX6_parts_30 : decode cX6_parts 30 = .ok (.ixor, 1) := by decide +kernel
theorem dX6_parts_31 : decode cX6_parts 31 = .ok (.iand, 1) := by decide +kernel
theorem dX6_parts_32 : decode cX6_parts 32 = .ok (.istore_n 1, 1) := by decide +kernel
theorem dX6_parts_33 : decode cX6_parts 33 = .ok (.iinc 2 1, 3) := by decide +kernel
theorem dX6_parts_36 : decode cX6_parts 36 = .ok (.iinc 3 1, 3) := by decide +kernel
theorem dX6_parts_39 : decode cX6_parts 39 = .ok (.goto (-29), 3) := by decide +kernel
theorem dX6_parts_42 : decode cX6_parts 42 = .ok (.iload_n 2, 1) := by decide +kernel
theorem dX6_parts_43 : decode cX6_parts 43 = .ok (.ireturn, 1) := by decide +kernel
set_option maxRecDepth 20000 in
theorem ggX6_partFrom_X6_beside : GoodIn wsX6_partFrom wsX6_beside := goodIn_r _ [4] (by decide +kernel) (by decide +kernel)
set_option maxRecDepth 20000 in
theorem gX6_partFrom_X6_beside : GoodIn wsX6_partFrom (va_wsS RX6 15 yX6_beside wsX6_beside) := goodIn_app (goodIn_of _ (by decide +kernel)) ggX6_partFrom_X6_beside
theorem dX6_partFrom_0 : decode cX6_partFrom 0 = .ok (.iload_n 0, 1) := by decide +kernel
theorem dX6_partFrom_1 : decode cX6_partFrom 1 = .ok (.istore_n 2, 1) := by decide +kernel
theorem dX6_partFrom_2 : decode cX6_partFrom 2 = .ok (.iconst 0, 1) := by decide +kernel
theorem dX6_partFrom_3 : decode cX6_partFrom 3 = .ok (.istore_n 3, 1) := by decide +kernel
theorem dX6_partFrom_4 : decode cX6_partFrom 4 = .ok (.iload_n 3, 1) := by decide +kernel
theorem dX6_partFrom_5 : decode cX6_partFrom 5 = .ok (.bipush 15, 2) := by decide +kernel
theorem dX6_partFrom_7 : decode cX6_partFrom 7 = .ok (.if_icmp .ge 30, 3) := by decide +kernel
theorem dX6_partFrom_10 : decode cX6_partFrom 10 = .ok (.iload_n 2, 1) := by decide +kernel
theorem dX6_partFrom_11 : decode cX6_partFrom 11 = .ok (.iload_n 2, 1) := by decide +kernel
theorem dX6_partFrom_12 : decode cX6_partFrom 12 = .ok (.invokestatic 15, 3) := by decide +kernel
theorem dX6_partFrom_15 : decode cX6_partFrom 15 = .ok (.iload_n 1, 1) := by decide +kernel
theorem dX6_partFrom_16 : decode cX6_partFrom 16 = .ok (.iand, 1) := by decide +kernel
theorem dX6_partFrom_17 : decode cX6_partFrom 17 = .ok (.ior, 1) := by decide +kernel
theorem dX6_partFrom_18 : decode cX6_partFrom 18 = .ok (.istore 4, 2) := by decide +kernel
theorem dX6_partFrom_20 : decode cX6_partFrom 20 = .ok (.iload 4, 2) := by decide +kernel
theorem dX6_partFrom_22 : decode cX6_partFrom 22 = .ok (.iload_n 2, 1) := by decide +kernel
theorem dX6_partFrom_23 : decode cX6_partFrom 23 = .ok (.if_icmp .ne 5, 3) := by decide +kernel
theorem dX6_partFrom_26 : decode cX6_partFrom 26 = .ok (.iload_n 2, 1) := by decide +kernel
theorem dX6_partFrom_27 : decode cX6_partFrom 27 = .ok (.ireturn, 1) := by decide +kernel
theorem dX6_partFrom_28 : decode cX6_partFrom 28 = .ok (.iload 4, 2) := by decide +kernel
theorem dX6_partFrom_30 : decode cX6_partFrom 30 = .ok (.istore_n 2, 1) := by decide +kernel
theorem dX6_partFrom_31 : decode cX6_partFrom 31 = .ok (.iinc 3 1, 3) := by decide +kernel
theorem dX6_partFrom_34 : decode cX6_partFrom 34 = .ok (.goto (-30), 3) := by decide +kernel
theorem dX6_partFrom_37 : decode cX6_partFrom 37 = .ok (.iload_n 2, 1) := by decide +kernel
theorem dX6_partFrom_38 : decode cX6_partFrom 38 = .ok (.ireturn, 1) := by decide +kernel
set_option maxRecDepth 20000 in
theorem ggX6_cutting_X6_parts : GoodIn wsX6_cutting wsX6_parts := goodIn_r _ [4, 5, 6, 3, 7, 8, 9, 10] (by decide +kernel) (by decide +kernel)
set_option maxRecDepth 20000 in
theorem gX6_cutting_X6_parts : GoodIn wsX6_cutting (va_wsS RX6 19 yX6_parts wsX6_parts) := goodIn_app (goodIn_of _ (by decide +kernel)) ggX6_cutting_X6_parts
theorem dX6_cutting_0 : decode cX6_cutting 0 = .ok (.iload_n 0, 1) := by decide +kernel
theorem dX6_cutting_1 : decode cX6_cutting 1 = .ok (.invokestatic 19, 3) := by decide +kernel
theorem dX6_cutting_4 : decode cX6_cutting 4 = .ok (.istore_n 1, 1) := by decide +kernel
theorem dX6_cutting_5 : decode cX6_cutting 5 = .ok (.iconst 0, 1) := by decide +kernel
theorem dX6_cutting_6 : decode cX6_cutting 6 = .ok (.istore_n 2, 1) := by decide +kernel
theorem dX6_cutting_7 : decode cX6_cutting 7 = .ok (.iconst 0, 1) := by decide +kernel
theorem dX6_cutting_8 : decode cX6_cutting 8 = .ok (.istore_n 3, 1) := by decide +kernel
theorem dX6_cutting_9 : decode cX6_cutting 9 = .ok (.iload_n 3, 1) := by decide +kernel
theorem dX6_cutting_10 : decode cX6_cutting 10 = .ok (.bipush 15, 2) := by decide +kernel
theorem dX6_cutting_12 : decode cX6_cutting 12 = .ok (.if_icmp .ge 29, 3) := by decide +kernel
theorem dX6_cutting_15 : decode cX6_cutting 15 = .ok (.iload_n 0, 1) := by decide +kernel
theorem dX6_cutting_16 : decode cX6_cutting 16 = .ok (.iconst 1, 1) := by decide +kernel
theorem dX6_cutting_17 : decode cX6_cutting 17 = .ok (.iload_n 3, 1) := by decide +kernel
theorem dX6_cutting_18 : decode cX6_cutting 18 = .ok (.ishl, 1) := by decide +kernel
theorem dX6_cutting_19 : decode cX6_cutting 19 = .ok (.iconst (-1), 1) := by decide +kernel
theorem dX6_cutting_20 : decode cX6_cutting 20 = .ok (.ixor, 1) := by decide +kernel
theorem dX6_cutting_21 : decode cX6_cutting 21 = .ok (.iand, 1) := by decide +kernel
theorem dX6_cutting_22 : decode cX6_cutting 22 = .ok (.invokestatic 19, 3) := by decide +kernel
theorem dX6_cutting_25 : decode cX6_cutting 25 = .ok (.iload_n 1, 1) := by decide +kernel
theorem dX6_cutting_26 : decode cX6_cutting 26 = .ok (.if_icmp .le 9, 3) := by decide +kernel
theorem dX6_cutting_29 : decode cX6_cutting 29 = .ok (.iload_n 2, 1) := by decide +kernel
theorem dX6_cutting_30 : decode cX6_cutting 30 = .ok (.iconst 1, 1) := by decide +kernel
theorem dX6_cutting_31 : decode cX6_cutting 31 = .ok (.iload_n 3, 1) := by decide +kernel
theorem dX6_cutting_32 : decode cX6_cutting 32 = .ok (.ishl, 1) := by decide +kernel
theorem dX6_cutting_33 : decode cX6_cutting 33 = .ok (.ior, 1) := by decide +kernel
theorem dX6_cutting_34 : decode cX6_cutting 34 = .ok (.istore_n 2, 1) := by decide +kernel
theorem dX6_cutting_35 : decode cX6_cutting 35 = .ok (.iinc 3 1, 3) := by decide +kernel
theorem dX6_cutting_38 : decode cX6_cutting 38 = .ok (.goto (-29), 3) := by decide +kernel
theorem dX6_cutting_41 : decode cX6_cutting 41 = .ok (.iload_n 2, 1) := by decide +kernel
theorem dX6_cutting_42 : decode cX6_cutting 42 = .ok (.ireturn, 1) := by decide +kernel
set_option maxRecDepth 20000 in
theorem ggX6_ringRound_X6_beside : GoodIn wsX6_ringRound wsX6_beside := goodIn_r _ [4] (by decide +kernel) (by decide +kernel)
set_option maxRecDepth 20000 in
theorem gX6_ringRound_X6_beside : GoodIn wsX6_ringRound (va_wsS RX6 15 yX6_beside wsX6_beside) := goodIn_app (goodIn_of _ (by decide +kernel)) ggX6_ringRound_X6_beside
set_option maxRecDepth 20000 in
theorem ggX6_ringRound_J6_bitCount_0f7a4 : GoodIn wsX6_ringRound wsJ6_bitCount_0f7a4 := goodIn_r _ [8, 9, 10, 11] (by decide +kernel) (by decide +kernel)
set_option maxRecDepth 20000 in
theorem gX6_ringRound_J6_bitCount_0f7a4 : GoodIn wsX6_ringRound (va_wsS RX6 22 yJ6_bitCount_0f7a4 wsJ6_bitCount_0f7a4) := goodIn_app (goodIn_of _ (by decide +kernel)) ggX6_ringRound_J6_bitCount_0f7a4
theorem dX6_ringRound_0 : decode cX6_ringRound 0 = .ok (.iconst 1, 1) := by decide +kernel
theorem dX6_ringRound_1 : decode cX6_ringRound 1 = .ok (.iload_n 0, 1) := by decide +kernel
theorem dX6_ringRound_2 : decode cX6_ringRound 2 = .ok (.ishl, 1) := by decide +kernel
theorem dX6_ringRound_3 : decode cX6_ringRound 3 = .ok (.invokestatic 15, 3) := by decide +kernel
theorem dX6_ringRound_6 : decode cX6_ringRound 6 = .ok (.istore_n 1, 1) := by decide +kernel
theorem dX6_ringRound_7 : decode cX6_ringRound 7 = .ok (.iload_n 1, 1) := by decide +kernel
theorem dX6_ringRound_8 : decode cX6_ringRound 8 = .ok (.istore_n 2, 1) := by decide +kernel
theorem dX6_ringRound_9 : decode cX6_ringRound 9 = .ok (.iconst 0, 1) := by decide +kernel
theorem dX6_ringRound_10 : decode cX6_ringRound 10 = .ok (.istore_n 3, 1) := by decide +kernel
theorem dX6_ringRound_11 : decode cX6_ringRound 11 = .ok (.iload_n 3, 1) := by decide +kernel
theorem dX6_ringRound_12 : decode cX6_ringRound 12 = .ok (.bipush 15, 2) := by decide +kernel
theorem dX6_ringRound_14 : decode cX6_ringRound 14 = .ok (.if_icmp .ge 30, 3) := by decide +kernel
theorem dX6_ringRound_17 : decode cX6_ringRound 17 = .ok (.iconst 1, 1) := by decide +kernel
theorem dX6_ringRound_18 : decode cX6_ringRound 18 = .ok (.iload_n 3, 1) := by decide +kernel
theorem dX6_ringRound_19 : decode cX6_ringRound 19 = .ok (.ishl, 1) := by decide +kernel
theorem dX6_ringRound_20 : decode cX6_ringRound 20 = .ok (.invokestatic 15, 3) := by decide +kernel
theorem dX6_ringRound_23 : decode cX6_ringRound 23 = .ok (.iload_n 1, 1) := by decide +kernel
theorem dX6_ringRound_24 : decode cX6_ringRound 24 = .ok (.iand, 1) := by decide +kernel
theorem dX6_ringRound_25 : decode cX6_ringRound 25 = .ok (.invokestatic 22, 3) := by decide +kernel
theorem dX6_ringRound_28 : decode cX6_ringRound 28 = .ok (.iconst 2, 1) := by decide +kernel
theorem dX6_ringRound_29 : decode cX6_ringRound 29 = .ok (.if_icmp .lt 9, 3) := by decide +kernel
theorem dX6_ringRound_32 : decode cX6_ringRound 32 = .ok (.iload_n 2, 1) := by decide +kernel
theorem dX6_ringRound_33 : decode cX6_ringRound 33 = .ok (.iconst 1, 1) := by decide +kernel
theorem dX6_ringRound_34 : decode cX6_ringRound 34 = .ok (.iload_n 3, 1) := by decide +kernel
theorem dX6_ringRound_35 : decode cX6_ringRound 35 = .ok (.ishl, 1) := by decide +kernel
theorem dX6_ringRound_36 : decode cX6_ringRound 36 = .ok (.ior, 1) := by decide +kernel
theorem dX6_ringRound_37 : decode cX6_ringRound 37 = .ok (.istore_n 2, 1) := by decide +kernel
theorem dX6_ringRound_38 : decode cX6_ringRound 38 = .ok (.iinc 3 1, 3) := by decide +kernel
theorem dX6_ringRound_41 : decode cX6_ringRound 41 = .ok (.goto (-30), 3) := by decide +kernel
theorem dX6_ringRound_44 : decode cX6_ringRound 44 = .ok (.iload_n 2, 1) := by decide +kernel
theorem dX6_ringRound_45 : decode cX6_ringRound 45 = .ok (.iconst 1, 1) := by decide +kernel
theorem dX6_ringRound_46 : decode cX6_ringRound 46 = .ok (.iload_n 0, 1) := by decide +kernel
theorem dX6_ringRound_47 : decode cX6_ringRound 47 = .ok (.ishl, 1) := by decide +kernel
theorem dX6_ringRound_48 : decode cX6_ringRound 48 = .ok (.iconst (-1), 1) := by decide +kernel
theorem dX6_ringRound_49 : decode cX6_ringRound 49 = .ok (.ixor, 1) := by decide +kernel
theorem dX6_ringRound_50 : decode cX6_ringRound 50 = .ok (.iand, 1) := by decide +kernel
theorem dX6_ringRound_51 : decode cX6_ringRound 51 = .ok (.ireturn, 1) := by decide +kernel
theorem dX7_init_0 : decode cX7_init 0 = .ok (.aload_n 0, 1) := by decide +kernel
theorem dX7_init_1 : decode cX7_init 1 = .ok (.invokespecial 3, 3) := by decide +kernel
theorem dX7_init_4 : decode cX7_init 4 = .ok (.aload_n 0, 1) := by decide +kernel
theorem dX7_init_5 : decode cX7_init 5 = .ok (.bipush 100, 2) := by decide +kernel
theorem dX7_init_7 : decode cX7_init 7 = .ok (.newarray .int, 2) := by decide +kernel
theorem dX7_init_9 : decode cX7_init 9 = .ok (.putfield 11, 3) := by decide +kernel
theorem dX7_init_12 : decode cX7_init 12 = .ok (.return_, 1) := by decide +kernel
theorem dX7_length_0 : decode cX7_length 0 = .ok (.aload_n 0, 1) := by decide +kernel
theorem dX7_length_1 : decode cX7_length 1 = .ok (.getfield 15, 3) := by decide +kernel
theorem dX7_length_4 : decode cX7_length 4 = .ok (.ireturn, 1) := by decide +kernel
theorem dX7_faultNumber_0 : decode cX7_faultNumber 0 = .ok (.aload_n 0, 1) := by decide +kernel
theorem dX7_faultNumber_1 : decode cX7_faultNumber 1 = .ok (.getfield 19, 3) := by decide +kernel
theorem dX7_faultNumber_4 : decode cX7_faultNumber 4 = .ok (.ireturn, 1) := by decide +kernel
theorem dX7_faultPlace_0 : decode cX7_faultPlace 0 = .ok (.aload_n 0, 1) := by decide +kernel
theorem dX7_faultPlace_1 : decode cX7_faultPlace 1 = .ok (.getfield 22, 3) := by decide +kernel
theorem dX7_faultPlace_4 : decode cX7_faultPlace 4 = .ok (.ireturn, 1) := by decide +kernel
theorem dX7_add_0 : decode cX7_add 0 = .ok (.aload_n 0, 1) := by decide +kernel
theorem dX7_add_1 : decode cX7_add 1 = .ok (.getfield 15, 3) := by decide +kernel
theorem dX7_add_4 : decode cX7_add 4 = .ok (.bipush 100, 2) := by decide +kernel
theorem dX7_add_6 : decode cX7_add 6 = .ok (.if_icmp .lt 5, 3) := by decide +kernel
theorem dX7_add_9 : decode cX7_add 9 = .ok (.iconst 0, 1) := by decide +kernel
theorem dX7_add_10 : decode cX7_add 10 = .ok (.ireturn, 1) := by decide +kernel
theorem dX7_add_11 : decode cX7_add 11 = .ok (.aload_n 0, 1) := by decide +kernel
theorem dX7_add_12 : decode cX7_add 12 = .ok (.getfield 11, 3) := by decide +kernel
theorem dX7_add_15 : decode cX7_add 15 = .ok (.aload_n 0, 1) := by decide +kernel
theorem dX7_add_16 : decode cX7_add 16 = .ok (.getfield 15, 3) := by decide +kernel
theorem dX7_add_19 : decode cX7_add 19 = .ok (.iload_n 1, 1) := by decide +kernel
theorem dX7_add_20 : decode cX7_add 20 = .ok (.iastore, 1) := by decide +kernel
theorem dX7_add_21 : decode cX7_add 21 = .ok (.aload_n 0, 1) := by decide +kernel
theorem dX7_add_22 : decode cX7_add 22 = .ok (.dup, 1) := by decide +kernel
theorem dX7_add_23 : decode cX7_add 23 = .ok (.getfield 15, 3) := by decide +kernel
theorem dX7_add_26 : decode cX7_add 26 = .ok (.iconst 1, 1) := by decide +kernel
theorem dX7_add_27 : decode cX7_add 27 = .ok (.iadd, 1) := by decide +kernel
theorem dX7_add_28 : decode cX7_add 28 = .ok (.putfield 15, 3) := by decide +kernel
theorem dX7_add_31 : decode cX7_add 31 = .ok (.iconst 1, 1) := by decide +kernel
theorem dX7_add_32 : decode cX7_add 32 = .ok (.ireturn, 1) := by decide +kernel
theorem dX7_empty_0 : decode cX7_empty 0 = .ok (.aload_n 0, 1) := by decide +kernel
theorem dX7_empty_1 : decode cX7_empty 1 = .ok (.iconst 0, 1) := by decide +kernel
theorem dX7_empty_2 : decode cX7_empty 2 = .ok (.putfield 15, 3) := by decide +kernel
theorem dX7_empty_5 : decode cX7_empty 5 = .ok (.return_, 1) := by decide +kernel
set_option maxRecDepth 20000 in
theorem ggX7_readInto_X3_begin : GoodIn wsX7_readInto wsX3_begin := goodIn_r _ [6, 7, 8, 9, 10, 11, 12, 5, 13, 14, 91, 92, 93, 94, 95, 96, 97, 98, 99, 100, 101] (by decide +kernel) (by decide +kernel)
set_option maxRecDepth 20000 in
theorem gX7_readInto_X3_begin : GoodIn wsX7_readInto (wsV RX7 25 RX3 yX3_begin wsX3_begin) := goodIn_app (goodIn_of _ (by decide +kernel)) ggX7_readInto_X3_begin
set_option maxRecDepth 20000 in
theorem ggX7_readInto_X7_readLaw : GoodIn wsX7_readInto wsX7_readLaw := goodIn_r _ [19, 20, 21, 22, 23, 18, 24, 1, 25, 26, 27, 28, 29, 30, 31, 32, 33, 34, 35, 36, 37, 38, 39, 40, 41, 42, 43, 44, 45, 46, 47, 48, 49, 5, 50, 51, 52, 53, 7, 86, 87, 88, 89, 90, 91, 92, 93, 94, 95, 96, 97, 98, 99, 100, 101] (by decide +kernel) (by decide +kernel)
set_option maxRecDepth 20000 in
theorem gX7_readInto_X7_readLaw : GoodIn wsX7_readInto (wsV RX7 30 RX7 yX7_readLaw wsX7_readLaw) := goodIn_app (goodIn_of _ (by decide +kernel)) ggX7_readInto_X7_readLaw
set_option maxRecDepth 20000 in
theorem ggX7_readInto_X7_readHeights : GoodIn wsX7_readInto wsX7_readHeights := goodIn_r _ [57, 1, 21, 22, 23, 18, 24, 25, 26, 27, 28, 29, 30, 31, 32, 33, 34, 35, 58, 59, 60, 5, 61, 62, 86, 87, 88, 89, 90, 91, 92, 93, 94, 95, 96, 97, 98, 99, 100, 101] (by decide +kernel) (by decide +kernel)
set_option maxRecDepth 20000 in
theorem gX7_readInto_X7_readHeights : GoodIn wsX7_readInto (wsV RX7 34 RX7 yX7_readHeights wsX7_readHeights) := goodIn_app (goodIn_of _ (by decide +kernel)) ggX7_readInto_X7_readHeights
set_option maxRecDepth 20000 in
theorem ggX7_readInto_X7_readBidders : GoodIn wsX7_readInto wsX7_readBidders := goodIn_r _ [66, 1, 29, 67, 68, 69, 18, 70, 20, 25, 26, 27, 28, 30, 71, 72, 73, 74, 31, 32, 33, 34, 35, 75, 76, 77, 5, 78, 9, 36, 37, 38, 39, 40, 41, 42, 43, 44, 45, 46, 21, 22, 23, 24, 79, 80, 81, 82, 83, 84, 85, 86, 87, 88, 89, 90, 91, 92, 93, 94, 95, 96, 97, 98, 99, 100, 101] (by decide +kernel) (by decide +kernel)
set_option maxRecDepth 20000 in
theorem gX7_readInto_X7_readBidders : GoodIn wsX7_readInto (wsV RX7 37 RX7 yX7_readBidders wsX7_readBidders) := goodIn_app (goodIn_of _ (by decide +kernel)) ggX7_readInto_X7_readBidders
theorem dX7_readInto_0 : decode cX7_readInto 0 = .ok (.aload_n 0, 1) := by decide +kernel
theorem dX7_readInto_1 : decode cX7_readInto 1 = .ok (.iconst 0, 1) := by decide +kernel
theorem dX7_readInto_2 : decode cX7_readInto 2 = .ok (.putfield 22, 3) := by decide +kernel
theorem dX7_readInto_5 : decode cX7_readInto 5 = .ok (.aload_n 1, 1) := by decide +kernel
theorem dX7_readInto_6 : decode cX7_readInto 6 = .ok (.invokevirtual 25, 3) := by decide +kernel
theorem dX7_readInto_9 : decode cX7_readInto 9 = .ok (.aload_n 0, 1) := by decide +kernel
theorem dX7_readInto_10 : decode cX7_readInto 10 = .ok (.aload_n 1, 1) := by decide +kernel
theorem dX7_readInto_11 : decode cX7_readInto 11 = .ok (.invokevirtual 30, 3) := by decide +kernel
theorem dX7_readInto_14 : decode cX7_readInto 14 = .ok (.ifCond .eq 23, 3) := by decide +kernel
theorem dX7_readInto_17 : decode cX7_readInto 17 = .ok (.aload_n 0, 1) := by decide +kernel
theorem dX7_readInto_18 : decode cX7_readInto 18 = .ok (.aload_n 1, 1) := by decide +kernel
theorem dX7_readInto_19 : decode cX7_readInto 19 = .ok (.invokevirtual 34, 3) := by decide +kernel
theorem dX7_readInto_22 : decode cX7_readInto 22 = .ok (.ifCond .eq 15, 3) := by decide +kernel
theorem dX7_readInto_25 : decode cX7_readInto 25 = .ok (.aload_n 0, 1) := by decide +kernel
theorem dX7_readInto_26 : decode cX7_readInto 26 = .ok (.aload_n 1, 1) := by decide +kernel
theorem dX7_readInto_27 : decode cX7_readInto 27 = .ok (.invokevirtual 37, 3) := by decide +kernel
theorem dX7_readInto_30 : decode cX7_readInto 30 = .ok (.ifCond .eq 7, 3) := by decide +kernel
theorem dX7_readInto_33 : decode cX7_readInto 33 = .ok (.iconst 1, 1) := by decide +kernel
theorem dX7_readInto_34 : decode cX7_readInto 34 = .ok (.goto 4, 3) := by decide +kernel
theorem dX7_readInto_37 : decode cX7_readInto 37 = .ok (.iconst 0, 1) := by decide +kernel
theorem dX7_readInto_38 : decode cX7_readInto 38 = .ok (.ireturn, 1) := by decide +kernel
set_option maxRecDepth 20000 in
theorem ggX7_readLaw_X7_readSign : GoodIn wsX7_readLaw wsX7_readSign := goodIn_r _ [6, 7, 8, 9, 10, 5, 11, 12, 13, 14, 15, 16, 17, 18, 39, 40, 41, 42, 43] (by decide +kernel) (by decide +kernel)
set_option maxRecDepth 20000 in
theorem gX7_readLaw_X7_readSign : GoodIn wsX7_readLaw (wsV RX7 40 RX7 yX7_readSign wsX7_readSign) := goodIn_app (goodIn_of _ (by decide +kernel)) ggX7_readLaw_X7_readSign
set_option maxRecDepth 20000 in
theorem ggX7_readLaw_X7_readNumber : GoodIn wsX7_readLaw wsX7_readNumber := goodIn_r _ [22, 7, 12, 13, 23, 24, 25, 26, 1, 27, 28, 5, 29, 14, 15, 16, 17, 18, 39, 40, 41, 42, 43] (by decide +kernel) (by decide +kernel)
set_option maxRecDepth 20000 in
theorem gX7_readLaw_X7_readNumber : GoodIn wsX7_readLaw (wsV RX7 44 RX7 yX7_readNumber wsX7_readNumber) := goodIn_app (goodIn_of _ (by decide +kernel)) ggX7_readLaw_X7_readNumber
set_option maxRecDepth 20000 in
theorem ggX7_readLaw_X3_tellLaw : GoodIn wsX7_readLaw wsX3_tellLaw := goodIn_r _ [34, 35, 36, 37, 38, 44, 45, 46, 47, 48, 49, 50, 51, 52, 53, 54] (by decide +kernel) (by decide +kernel)
set_option maxRecDepth 20000 in
theorem gX7_readLaw_X3_tellLaw : GoodIn wsX7_readLaw (wsV RX7 51 RX3 yX3_tellLaw wsX3_tellLaw) := goodIn_app (goodIn_of _ (by decide +kernel)) ggX7_readLaw_X3_tellLaw
theorem dX7_readLaw_0 : decode cX7_readLaw 0 = .ok (.aload_n 0, 1) := by decide +kernel
theorem dX7_readLaw_1 : decode cX7_readLaw 1 = .ok (.bipush 105, 2) := by decide +kernel
theorem dX7_readLaw_3 : decode cX7_readLaw 3 = .ok (.invokevirtual 40, 3) := by decide +kernel
theorem dX7_readLaw_6 : decode cX7_readLaw 6 = .ok (.ifCond .eq 13, 3) := by decide +kernel
theorem dX7_readLaw_9 : decode cX7_readLaw 9 = .ok (.aload_n 0, 1) := by decide +kernel
theorem dX7_readLaw_10 : decode cX7_readLaw 10 = .ok (.iconst 0, 1) := by decide +kernel
theorem dX7_readLaw_11 : decode cX7_readLaw 11 = .ok (.bipush 9, 2) := by decide +kernel
theorem dX7_readLaw_13 : decode cX7_readLaw 13 = .ok (.invokevirtual 44, 3) := by decide +kernel
theorem dX7_readLaw_16 : decode cX7_readLaw 16 = .ok (.ifCond .ne 5, 3) := by decide +kernel
theorem dX7_readLaw_19 : decode cX7_readLaw 19 = .ok (.iconst 0, 1) := by decide +kernel
theorem dX7_readLaw_20 : decode cX7_readLaw 20 = .ok (.ireturn, 1) := by decide +kernel
theorem dX7_readLaw_21 : decode cX7_readLaw 21 = .ok (.aload_n 0, 1) := by decide +kernel
theorem dX7_readLaw_22 : decode cX7_readLaw 22 = .ok (.getfield 48, 3) := by decide +kernel
theorem dX7_readLaw_25 : decode cX7_readLaw 25 = .ok (.istore_n 2, 1) := by decide +kernel
theorem dX7_readLaw_26 : decode cX7_readLaw 26 = .ok (.aload_n 0, 1) := by decide +kernel
theorem dX7_readLaw_27 : decode cX7_readLaw 27 = .ok (.bipush 44, 2) := by decide +kernel
theorem dX7_readLaw_29 : decode cX7_readLaw 29 = .ok (.invokevirtual 40, 3) := by decide +kernel
theorem dX7_readLaw_32 : decode cX7_readLaw 32 = .ok (.ifCond .eq 13, 3) := by decide +kernel
theorem dX7_readLaw_35 : decode cX7_readLaw 35 = .ok (.aload_n 0, 1) := by decide +kernel
theorem dX7_readLaw_36 : decode cX7_readLaw 36 = .ok (.iload_n 2, 1) := by decide +kernel
theorem dX7_readLaw_37 : decode cX7_readLaw 37 = .ok (.bipush 9, 2) := by decide +kernel
theorem dX7_readLaw_39 : decode cX7_readLaw 39 = .ok (.invokevirtual 44, 3) := by decide +kernel
theorem dX7_readLaw_42 : decode cX7_readLaw 42 = .ok (.ifCond .ne 5, 3) := by decide +kernel
theorem dX7_readLaw_45 : decode cX7_readLaw 45 = .ok (.iconst 0, 1) := by decide +kernel
theorem dX7_readLaw_46 : decode cX7_readLaw 46 = .ok (.ireturn, 1) := by decide +kernel
theorem dX7_readLaw_47 : decode cX7_readLaw 47 = .ok (.aload_n 0, 1) := by decide +kernel
theorem dX7_readLaw_48 : decode cX7_readLaw 48 = .ok (.getfield 48, 3) := by decide +kernel
theorem dX7_readLaw_51 : decode cX7_readLaw 51 = .ok (.istore_n 3, 1) := by decide +kernel
theorem dX7_readLaw_52 : decode cX7_readLaw 52 = .ok (.aload_n 0, 1) := by decide +kernel
theorem dX7_readLaw_53 : decode cX7_readLaw 53 = .ok (.bipush 44, 2) := by decide +kernel
theorem dX7_readLaw_55 : decode cX7_readLaw 55 = .ok (.invokevirtual 40, 3) := by decide +kernel
theorem dX7_readLaw_58 : decode cX7_readLaw 58 = .ok (.ifCond .eq 13, 3) := by decide +kernel
theorem dX7_readLaw_61 : decode cX7_readLaw 61 = .ok (.aload_n 0, 1) := by decide +kernel
theorem dX7_readLaw_62 : decode cX7_readLaw 62 = .ok (.iconst 1, 1) := by decide +kernel
theorem dX7_readLaw_63 : decode cX7_readLaw 63 = .ok (.bipush 9, 2) := by decide +kernel
theorem dX7_readLaw_65 : decode cX7_readLaw 65 = .ok (.invokevirtual 44, 3) := by decide +kernel
theorem dX7_readLaw_68 : decode cX7_readLaw 68 = .ok (.ifCond .ne 5, 3) := by decide +kernel
theorem dX7_readLaw_71 : decode cX7_readLaw 71 = .ok (.iconst 0, 1) := by decide +kernel
theorem dX7_readLaw_72 : decode cX7_readLaw 72 = .ok (.ireturn, 1) := by decide +kernel
theorem dX7_readLaw_73 : decode cX7_readLaw 73 = .ok (.aload_n 1, 1) := by decide +kernel
theorem dX7_readLaw_74 : decode cX7_readLaw 74 = .ok (.iload_n 2, 1) := by decide +kernel
theorem dX7_readLaw_75 : decode cX7_readLaw 75 = .ok (.iload_n 3, 1) := by decide +kernel
theorem dX7_readLaw_76 : decode cX7_readLaw 76 = .ok (.aload_n 0, 1) := by decide +kernel
theorem dX7_readLaw_77 : decode cX7_readLaw 77 = .ok (.getfield 48, 3) := by decide +kernel
theorem dX7_readLaw_80 : decode cX7_readLaw 80 = .ok (.invokevirtual 51, 3) := by decide +kernel
theorem dX7_readLaw_83 : decode cX7_readLaw 83 = .ok (.aload_n 0, 1) := by decide +kernel
theorem dX7_readLaw_84 : decode cX7_readLaw 84 = .ok (.bipush 59, 2) := by decide +kernel
theorem dX7_readLaw_86 : decode cX7_readLaw 86 = .ok (.invokevirtual 40, 3) := by decide +kernel
theorem dX7_readLaw_89 : decode cX7_readLaw 89 = .ok (.ireturn, 1) := by decide +kernel
set_option maxRecDepth 20000 in
theorem ggX7_readHeights_X7_readSign : GoodIn wsX7_readHeights wsX7_readSign := goodIn_r _ [6, 1, 7, 8, 9, 5, 10, 11, 12, 13, 14, 15, 16, 17, 24, 25, 26, 27, 28] (by decide +kernel) (by decide +kernel)
set_option maxRecDepth 20000 in
theorem gX7_readHeights_X7_readSign : GoodIn wsX7_readHeights (wsV RX7 40 RX7 yX7_readSign wsX7_readSign) := goodIn_app (goodIn_of _ (by decide +kernel)) ggX7_readHeights_X7_readSign
set_option maxRecDepth 20000 in
theorem ggX7_readHeights_X7_next : GoodIn wsX7_readHeights wsX7_next := goodIn_r _ [10, 1, 11, 12, 24, 25, 26, 27, 28] (by decide +kernel) (by decide +kernel)
set_option maxRecDepth 20000 in
theorem gX7_readHeights_X7_next : GoodIn wsX7_readHeights (wsV RX7 55 RX7 yX7_next wsX7_next) := goodIn_app (goodIn_of _ (by decide +kernel)) ggX7_readHeights_X7_next
set_option maxRecDepth 20000 in
theorem ggX7_readHeights_X7_fails : GoodIn wsX7_readHeights wsX7_fails := goodIn_r _ [16, 17, 24, 25, 26, 27, 28] (by decide +kernel) (by decide +kernel)
set_option maxRecDepth 20000 in
theorem gX7_readHeights_X7_fails : GoodIn wsX7_readHeights (wsV RX7 59 RX7 yX7_fails wsX7_fails) := goodIn_app (goodIn_of _ (by decide +kernel)) ggX7_readHeights_X7_fails
set_option maxRecDepth 20000 in
theorem ggX7_readHeights_X3_tellHeight : GoodIn wsX7_readHeights wsX3_tellHeight := goodIn_r _ [22, 23, 29, 30, 31, 32, 33, 34, 35, 36, 37, 38, 39] (by decide +kernel) (by decide +kernel)
set_option maxRecDepth 20000 in
theorem gX7_readHeights_X3_tellHeight : GoodIn wsX7_readHeights (wsV RX7 62 RX3 yX3_tellHeight wsX3_tellHeight) := goodIn_app (goodIn_of _ (by decide +kernel)) ggX7_readHeights_X3_tellHeight
theorem dX7_readHeights_0 : decode cX7_readHeights 0 = .ok (.aload_n 0, 1) := by decide +kernel
theorem dX7_readHeights_1 : decode cX7_readHeights 1 = .ok (.bipush 104, 2) := by decide +kernel
theorem dX7_readHeights_3 : decode cX7_readHeights 3 = .ok (.invokevirtual 40, 3) := by decide +kernel
theorem dX7_readHeights_6 : decode cX7_readHeights 6 = .ok (.ifCond .ne 5, 3) := by decide +kernel
theorem dX7_readHeights_9 : decode cX7_readHeights 9 = .ok (.iconst 0, 1) := by decide +kernel
theorem dX7_readHeights_10 : decode cX7_readHeights 10 = .ok (.ireturn, 1) := by decide +kernel
theorem dX7_readHeights_11 : decode cX7_readHeights 11 = .ok (.iconst 0, 1) := by decide +kernel
theorem dX7_readHeights_12 : decode cX7_readHeights 12 = .ok (.istore_n 2, 1) := by decide +kernel
theorem dX7_readHeights_13 : decode cX7_readHeights 13 = .ok (.iload_n 2, 1) := by decide +kernel
theorem dX7_readHeights_14 : decode cX7_readHeights 14 = .ok (.bipush 15, 2) := by decide +kernel
theorem dX7_readHeights_16 : decode cX7_readHeights 16 = .ok (.if_icmp .ge 51, 3) := by decide +kernel
theorem dX7_readHeights_19 : decode cX7_readHeights 19 = .ok (.aload_n 0, 1) := by decide +kernel
theorem dX7_readHeights_20 : decode cX7_readHeights 20 = .ok (.invokevirtual 55, 3) := by decide +kernel
theorem dX7_readHeights_23 : decode cX7_readHeights 23 = .ok (.istore_n 3, 1) := by decide +kernel
theorem dX7_readHeights_24 : decode cX7_readHeights 24 = .ok (.iload_n 3, 1) := by decide +kernel
theorem dX7_readHeights_25 : decode cX7_readHeights 25 = .ok (.bipush 97, 2) := by decide +kernel
theorem dX7_readHeights_27 : decode cX7_readHeights 27 = .ok (.if_icmp .lt 9, 3) := by decide +kernel
theorem dX7_readHeights_30 : decode cX7_readHeights 30 = .ok (.iload_n 3, 1) := by decide +kernel
theorem dX7_readHeights_31 : decode cX7_readHeights 31 = .ok (.bipush 106, 2) := by decide +kernel
theorem dX7_readHeights_33 : decode cX7_readHeights 33 = .ok (.if_icmp .le 9, 3) := by decide +kernel
theorem dX7_readHeights_36 : decode cX7_readHeights 36 = .ok (.aload_n 0, 1) := by decide +kernel
theorem dX7_readHeights_37 : decode cX7_readHeights 37 = .ok (.iconst 1, 1) := by decide +kernel
theorem dX7_readHeights_38 : decode cX7_readHeights 38 = .ok (.invokevirtual 59, 3) := by decide +kernel
theorem dX7_readHeights_41 : decode cX7_readHeights 41 = .ok (.ireturn, 1) := by decide +kernel
theorem dX7_readHeights_42 : decode cX7_readHeights 42 = .ok (.aload_n 1, 1) := by decide +kernel
theorem dX7_readHeights_43 : decode cX7_readHeights 43 = .ok (.iload_n 2, 1) := by decide +kernel
theorem dX7_readHeights_44 : decode cX7_readHeights 44 = .ok (.iload_n 3, 1) := by decide +kernel
theorem dX7_readHeights_45 : decode cX7_readHeights 45 = .ok (.bipush 97, 2) := by decide +kernel
theorem dX7_readHeights_47 : decode cX7_readHeights 47 = .ok (.isub, 1) := by decide +kernel
theorem dX7_readHeights_48 : decode cX7_readHeights 48 = .ok (.invokevirtual 62, 3) := by decide +kernel
theorem dX7_readHeights_51 : decode cX7_readHeights 51 = .ok (.aload_n 0, 1) := by decide +kernel
theorem dX7_readHeights_52 : decode cX7_readHeights 52 = .ok (.dup, 1) := by decide +kernel
theorem dX7_readHeights_53 : decode cX7_readHeights 53 = .ok (.getfield 22, 3) := by decide +kernel
theorem dX7_readHeights_56 : decode cX7_readHeights 56 = .ok (.iconst 1, 1) := by decide +kernel
theorem dX7_readHeights_57 : decode cX7_readHeights 57 = .ok (.iadd, 1) := by decide +kernel
theorem dX7_readHeights_58 : decode cX7_readHeights 58 = .ok (.putfield 22, 3) := by decide +kernel
theorem dX7_readHeights_61 : decode cX7_readHeights 61 = .ok (.iinc 2 1, 3) := by decide +kernel
theorem dX7_readHeights_64 : decode cX7_readHeights 64 = .ok (.goto (-51), 3) := by decide +kernel
theorem dX7_readHeights_67 : decode cX7_readHeights 67 = .ok (.aload_n 0, 1) := by decide +kernel
theorem dX7_readHeights_68 : decode cX7_readHeights 68 = .ok (.bipush 59, 2) := by decide +kernel
theorem dX7_readHeights_70 : decode cX7_readHeights 70 = .ok (.invokevirtual 40, 3) := by decide +kernel
theorem dX7_readHeights_73 : decode cX7_readHeights 73 = .ok (.ireturn, 1) := by decide +kernel
set_option maxRecDepth 20000 in
theorem ggX7_readBidders_X7_readBidder : GoodIn wsX7_readBidders wsX7_readBidder := goodIn_r _ [7, 1, 8, 9, 10, 11, 6, 12, 2, 13, 14, 15, 16, 17, 18, 19, 20, 21, 22, 23, 24, 25, 26, 27, 28, 29, 30, 31, 32, 33, 34, 35, 36, 37, 38, 39, 40, 41, 42, 43, 44, 45, 46, 47, 48, 49, 50, 51, 52, 53, 54, 55, 56, 57, 58, 59, 60, 61, 62, 63, 64, 65, 66] (by decide +kernel) (by decide +kernel)
set_option maxRecDepth 20000 in
theorem gX7_readBidders_X7_readBidder : GoodIn wsX7_readBidders (wsV RX7 66 RX7 yX7_readBidder wsX7_readBidder) := goodIn_app (goodIn_of _ (by decide +kernel)) ggX7_readBidders_X7_readBidder
theorem dX7_readBidders_0 : decode cX7_readBidders 0 = .ok (.aload_n 0, 1) := by decide +kernel
theorem dX7_readBidders_1 : decode cX7_readBidders 1 = .ok (.aload_n 1, 1) := by decide +kernel
theorem dX7_readBidders_2 : decode cX7_readBidders 2 = .ok (.invokevirtual 66, 3) := by decide +kernel
theorem dX7_readBidders_5 : decode cX7_readBidders 5 = .ok (.ifCond .ne 5, 3) := by decide +kernel
theorem dX7_readBidders_8 : decode cX7_readBidders 8 = .ok (.iconst 0, 1) := by decide +kernel
theorem dX7_readBidders_9 : decode cX7_readBidders 9 = .ok (.ireturn, 1) := by decide +kernel
theorem dX7_readBidders_10 : decode cX7_readBidders 10 = .ok (.iconst 0, 1) := by decide +kernel
theorem dX7_readBidders_11 : decode cX7_readBidders 11 = .ok (.istore_n 2, 1) := by decide +kernel
theorem dX7_readBidders_12 : decode cX7_readBidders 12 = .ok (.iload_n 2, 1) := by decide +kernel
theorem dX7_readBidders_13 : decode cX7_readBidders 13 = .ok (.bipush 100, 2) := by decide +kernel
theorem dX7_readBidders_15 : decode cX7_readBidders 15 = .ok (.if_icmp .ge 30, 3) := by decide +kernel
theorem dX7_readBidders_18 : decode cX7_readBidders 18 = .ok (.aload_n 0, 1) := by decide +kernel
theorem dX7_readBidders_19 : decode cX7_readBidders 19 = .ok (.getfield 22, 3) := by decide +kernel
theorem dX7_readBidders_22 : decode cX7_readBidders 22 = .ok (.aload_n 0, 1) := by decide +kernel
theorem dX7_readBidders_23 : decode cX7_readBidders 23 = .ok (.getfield 15, 3) := by decide +kernel
theorem dX7_readBidders_26 : decode cX7_readBidders 26 = .ok (.if_icmp .ge 19, 3) := by decide +kernel
theorem dX7_readBidders_29 : decode cX7_readBidders 29 = .ok (.aload_n 0, 1) := by decide +kernel
theorem dX7_readBidders_30 : decode cX7_readBidders 30 = .ok (.aload_n 1, 1) := by decide +kernel
theorem dX7_readBidders_31 : decode cX7_readBidders 31 = .ok (.invokevirtual 66, 3) := by decide +kernel
theorem dX7_readBidders_34 : decode cX7_readBidders 34 = .ok (.ifCond .ne 5, 3) := by decide +kernel
theorem dX7_readBidders_37 : decode cX7_readBidders 37 = .ok (.iconst 0, 1) := by decide +kernel
theorem dX7_readBidders_38 : decode cX7_readBidders 38 = .ok (.ireturn, 1) := by decide +kernel
theorem dX7_readBidders_39 : decode cX7_readBidders 39 = .ok (.iinc 2 1, 3) := by decide +kernel
theorem dX7_readBidders_42 : decode cX7_readBidders 42 = .ok (.goto (-30), 3) := by decide +kernel
theorem dX7_readBidders_45 : decode cX7_readBidders 45 = .ok (.iconst 1, 1) := by decide +kernel
theorem dX7_readBidders_46 : decode cX7_readBidders 46 = .ok (.ireturn, 1) := by decide +kernel
set_option maxRecDepth 20000 in
theorem ggX7_readBidder_X7_next : GoodIn wsX7_readBidder wsX7_next := goodIn_r _ [7, 1, 8, 9, 47, 48, 49, 50, 51] (by decide +kernel) (by decide +kernel)
set_option maxRecDepth 20000 in
theorem gX7_readBidder_X7_next : GoodIn wsX7_readBidder (wsV RX7 55 RX7 yX7_next wsX7_next) := goodIn_app (goodIn_of _ (by decide +kernel)) ggX7_readBidder_X7_next
set_option maxRecDepth 20000 in
theorem ggX7_readBidder_X4_told : GoodIn wsX7_readBidder wsX4_told := goodIn_r _ [13] (by decide +kernel) (by decide +kernel)
set_option maxRecDepth 20000 in
theorem gX7_readBidder_X4_told : GoodIn wsX7_readBidder (va_wsS RX7 69 yX4_told wsX4_told) := goodIn_app (goodIn_of _ (by decide +kernel)) ggX7_readBidder_X4_told
set_option maxRecDepth 20000 in
theorem ggX7_readBidder_X7_fails : GoodIn wsX7_readBidder wsX7_fails := goodIn_r _ [17, 18, 47, 48, 49, 50, 51] (by decide +kernel) (by decide +kernel)
set_option maxRecDepth 20000 in
theorem gX7_readBidder_X7_fails : GoodIn wsX7_readBidder (wsV RX7 59 RX7 yX7_fails wsX7_fails) := goodIn_app (goodIn_of _ (by decide +kernel)) ggX7_readBidder_X7_fails
set_option maxRecDepth 20000 in
theorem ggX7_readBidder_X3_bidders : GoodIn wsX7_readBidder wsX3_bidders := goodIn_r _ [23, 24, 52, 53, 54, 55, 56, 57, 58, 59, 60, 61, 62] (by decide +kernel) (by decide +kernel)
set_option maxRecDepth 20000 in
theorem gX7_readBidder_X3_bidders : GoodIn wsX7_readBidder (wsV RX7 75 RX3 yX3_bidders wsX3_bidders) := goodIn_app (goodIn_of _ (by decide +kernel)) ggX7_readBidder_X3_bidders
set_option maxRecDepth 20000 in
theorem ggX7_readBidder_X7_readNumber : GoodIn wsX7_readBidder wsX7_readNumber := goodIn_r _ [28, 1, 8, 9, 29, 30, 31, 32, 2, 33, 34, 6, 35, 14, 15, 16, 17, 18, 47, 48, 49, 50, 51] (by decide +kernel) (by decide +kernel)
set_option maxRecDepth 20000 in
theorem gX7_readBidder_X7_readNumber : GoodIn wsX7_readBidder (wsV RX7 44 RX7 yX7_readNumber wsX7_readNumber) := goodIn_app (goodIn_of _ (by decide +kernel)) ggX7_readBidder_X7_readNumber
set_option maxRecDepth 20000 in
theorem ggX7_readBidder_X7_readSign : GoodIn wsX7_readBidder wsX7_readSign := goodIn_r _ [39, 1, 3, 4, 5, 6, 7, 8, 9, 14, 15, 16, 17, 18, 47, 48, 49, 50, 51] (by decide +kernel) (by decide +kernel)
set_option maxRecDepth 20000 in
theorem gX7_readBidder_X7_readSign : GoodIn wsX7_readBidder (wsV RX7 40 RX7 yX7_readSign wsX7_readSign) := goodIn_app (goodIn_of _ (by decide +kernel)) ggX7_readBidder_X7_readSign
set_option maxRecDepth 20000 in
theorem ggX7_readBidder_X3_tellBidder : GoodIn wsX7_readBidder wsX3_tellBidder := goodIn_r _ [43, 24, 44, 45, 46, 52, 53, 54, 55, 56, 57, 58, 59, 60, 61, 62] (by decide +kernel) (by decide +kernel)
set_option maxRecDepth 20000 in
theorem gX7_readBidder_X3_tellBidder : GoodIn wsX7_readBidder (wsV RX7 78 RX3 yX3_tellBidder wsX3_tellBidder) := goodIn_app (goodIn_of _ (by decide +kernel)) ggX7_readBidder_X3_tellBidder
theorem dX7_readBidder_0 : decode cX7_readBidder 0 = .ok (.aload_n 0, 1) := by decide +kernel
theorem dX7_readBidder_1 : decode cX7_readBidder 1 = .ok (.invokevirtual 55, 3) := by decide +kernel
theorem dX7_readBidder_4 : decode cX7_readBidder 4 = .ok (.invokestatic 69, 3) := by decide +kernel
theorem dX7_readBidder_7 : decode cX7_readBidder 7 = .ok (.istore_n 2, 1) := by decide +kernel
theorem dX7_readBidder_8 : decode cX7_readBidder 8 = .ok (.iload_n 2, 1) := by decide +kernel
theorem dX7_readBidder_9 : decode cX7_readBidder 9 = .ok (.iconst (-1), 1) := by decide +kernel
theorem dX7_readBidder_10 : decode cX7_readBidder 10 = .ok (.if_icmp .ne 9, 3) := by decide +kernel
theorem dX7_readBidder_13 : decode cX7_readBidder 13 = .ok (.aload_n 0, 1) := by decide +kernel
theorem dX7_readBidder_14 : decode cX7_readBidder 14 = .ok (.iconst 1, 1) := by decide +kernel
theorem dX7_readBidder_15 : decode cX7_readBidder 15 = .ok (.invokevirtual 59, 3) := by decide +kernel
theorem dX7_readBidder_18 : decode cX7_readBidder 18 = .ok (.ireturn, 1) := by decide +kernel
theorem dX7_readBidder_19 : decode cX7_readBidder 19 = .ok (.aload_n 1, 1) := by decide +kernel
theorem dX7_readBidder_20 : decode cX7_readBidder 20 = .ok (.invokevirtual 75, 3) := by decide +kernel
theorem dX7_readBidder_23 : decode cX7_readBidder 23 = .ok (.iconst 5, 1) := by decide +kernel
theorem dX7_readBidder_24 : decode cX7_readBidder 24 = .ok (.if_icmp .lt 9, 3) := by decide +kernel
theorem dX7_readBidder_27 : decode cX7_readBidder 27 = .ok (.aload_n 0, 1) := by decide +kernel
theorem dX7_readBidder_28 : decode cX7_readBidder 28 = .ok (.iconst 3, 1) := by decide +kernel
theorem dX7_readBidder_29 : decode cX7_readBidder 29 = .ok (.invokevirtual 59, 3) := by decide +kernel
theorem dX7_readBidder_32 : decode cX7_readBidder 32 = .ok (.ireturn, 1) := by decide +kernel
theorem dX7_readBidder_33 : decode cX7_readBidder 33 = .ok (.aload_n 0, 1) := by decide +kernel
theorem dX7_readBidder_34 : decode cX7_readBidder 34 = .ok (.dup, 1) := by decide +kernel
theorem dX7_readBidder_35 : decode cX7_readBidder 35 = .ok (.getfield 22, 3) := by decide +kernel
theorem dX7_readBidder_38 : decode cX7_readBidder 38 = .ok (.iconst 1, 1) := by decide +kernel
theorem dX7_readBidder_39 : decode cX7_readBidder 39 = .ok (.iadd, 1) := by decide +kernel
theorem dX7_readBidder_40 : decode cX7_readBidder 40 = .ok (.putfield 22, 3) := by decide +kernel
theorem dX7_readBidder_43 : decode cX7_readBidder 43 = .ok (.aload_n 0, 1) := by decide +kernel
theorem dX7_readBidder_44 : decode cX7_readBidder 44 = .ok (.iconst 0, 1) := by decide +kernel
theorem dX7_readBidder_45 : decode cX7_readBidder 45 = .ok (.bipush 99, 2) := by decide +kernel
theorem dX7_readBidder_47 : decode cX7_readBidder 47 = .ok (.invokevirtual 44, 3) := by decide +kernel
theorem dX7_readBidder_50 : decode cX7_readBidder 50 = .ok (.ifCond .ne 5, 3) := by decide +kernel
theorem dX7_readBidder_53 : decode cX7_readBidder 53 = .ok (.iconst 0, 1) := by decide +kernel
theorem dX7_readBidder_54 : decode cX7_readBidder 54 = .ok (.ireturn, 1) := by decide +kernel
theorem dX7_readBidder_55 : decode cX7_readBidder 55 = .ok (.aload_n 0, 1) := by decide +kernel
theorem dX7_readBidder_56 : decode cX7_readBidder 56 = .ok (.getfield 48, 3) := by decide +kernel
theorem dX7_readBidder_59 : decode cX7_readBidder 59 = .ok (.istore_n 3, 1) := by decide +kernel
theorem dX7_readBidder_60 : decode cX7_readBidder 60 = .ok (.aload_n 0, 1) := by decide +kernel
theorem dX7_readBidder_61 : decode cX7_readBidder 61 = .ok (.bipush 44, 2) := by decide +kernel
theorem dX7_readBidder_63 : decode cX7_readBidder 63 = .ok (.invokevirtual 40, 3) := by decide +kernel
theorem dX7_readBidder_66 : decode cX7_readBidder 66 = .ok (.ifCond .eq 13, 3) := by decide +kernel
theorem dX7_readBidder_69 : decode cX7_readBidder 69 = .ok (.aload_n 0, 1) := by decide +kernel
theorem dX7_readBidder_70 : decode cX7_readBidder 70 = .ok (.iconst 0, 1) := by decide +kernel
theorem dX7_readBidder_71 : decode cX7_readBidder 71 = .ok (.bipush 14, 2) := by decide +kernel
theorem dX7_readBidder_73 : decode cX7_readBidder 73 = .ok (.invokevirtual 44, 3) := by decide +kernel
theorem dX7_readBidder_76 : decode cX7_readBidder 76 = .ok (.ifCond .ne 5, 3) := by decide +kernel
theorem dX7_readBidder_79 : decode cX7_readBidder 79 = .ok (.iconst 0, 1) := by decide +kernel
theorem dX7_readBidder_80 : decode cX7_readBidder 80 = .ok (.ireturn, 1) := by decide +kernel
theorem dX7_readBidder_81 : decode cX7_readBidder 81 = .ok (.aload_n 1, 1) := by decide +kernel
theorem dX7_readBidder_82 : decode cX7_readBidder 82 = .ok (.iload_n 2, 1) := by decide +kernel
theorem dX7_readBidder_83 : decode cX7_readBidder 83 = .ok (.iload_n 3, 1) := by decide +kernel
theorem dX7_readBidder_84 : decode cX7_readBidder 84 = .ok (.aload_n 0, 1) := by decide +kernel
theorem dX7_readBidder_85 : decode cX7_readBidder 85 = .ok (.getfield 48, 3) := by decide +kernel
theorem dX7_readBidder_88 : decode cX7_readBidder 88 = .ok (.invokevirtual 78, 3) := by decide +kernel
theorem dX7_readBidder_91 : decode cX7_readBidder 91 = .ok (.aload_n 0, 1) := by decide +kernel
theorem dX7_readBidder_92 : decode cX7_readBidder 92 = .ok (.bipush 59, 2) := by decide +kernel
theorem dX7_readBidder_94 : decode cX7_readBidder 94 = .ok (.invokevirtual 40, 3) := by decide +kernel
theorem dX7_readBidder_97 : decode cX7_readBidder 97 = .ok (.ireturn, 1) := by decide +kernel
theorem dX7_next_0 : decode cX7_next 0 = .ok (.aload_n 0, 1) := by decide +kernel
theorem dX7_next_1 : decode cX7_next 1 = .ok (.getfield 22, 3) := by decide +kernel
theorem dX7_next_4 : decode cX7_next 4 = .ok (.aload_n 0, 1) := by decide +kernel
theorem dX7_next_5 : decode cX7_next 5 = .ok (.getfield 15, 3) := by decide +kernel
theorem dX7_next_8 : decode cX7_next 8 = .ok (.if_icmp .ge 15, 3) := by decide +kernel
theorem dX7_next_11 : decode cX7_next 11 = .ok (.aload_n 0, 1) := by decide +kernel
theorem dX7_next_12 : decode cX7_next 12 = .ok (.getfield 11, 3) := by decide +kernel
theorem dX7_next_15 : decode cX7_next 15 = .ok (.aload_n 0, 1) := by decide +kernel
theorem dX7_next_16 : decode cX7_next 16 = .ok (.getfield 22, 3) := by decide +kernel
theorem dX7_next_19 : decode cX7_next 19 = .ok (.iaload, 1) := by decide +kernel
theorem dX7_next_20 : decode cX7_next 20 = .ok (.goto 4, 3) := by decide +kernel
theorem dX7_next_23 : decode cX7_next 23 = .ok (.iconst (-1), 1) := by decide +kernel
theorem dX7_next_24 : decode cX7_next 24 = .ok (.ireturn, 1) := by decide +kernel
set_option maxRecDepth 20000 in
theorem ggX7_readSign_X7_next : GoodIn wsX7_readSign wsX7_next := goodIn_r _ [6, 1, 7, 8, 14, 15, 16, 17, 18] (by decide +kernel) (by decide +kernel)
set_option maxRecDepth 20000 in
theorem gX7_readSign_X7_next : GoodIn wsX7_readSign (wsV RX7 55 RX7 yX7_next wsX7_next) := goodIn_app (goodIn_of _ (by decide +kernel)) ggX7_readSign_X7_next
set_option maxRecDepth 20000 in
theorem ggX7_readSign_X7_fails : GoodIn wsX7_readSign wsX7_fails := goodIn_r _ [12, 13, 14, 15, 16, 17, 18] (by decide +kernel) (by decide +kernel)
set_option maxRecDepth 20000 in
theorem gX7_readSign_X7_fails : GoodIn wsX7_readSign (wsV RX7 59 RX7 yX7_fails wsX7_fails) := goodIn_app (goodIn_of _ (by decide +kernel)) ggX7_readSign_X7_fails
theorem dX7_readSign_0 : decode cX7_readSign 0 = .ok (.aload_n 0, 1) := by decide +kernel
theorem dX7_readSign_1 : decode cX7_readSign 1 = .ok (.invokevirtual 55, 3) := by decide +kernel
theorem dX7_readSign_4 : decode cX7_readSign 4 = .ok (.iload_n 1, 1) := by decide +kernel
theorem dX7_readSign_5 : decode cX7_readSign 5 = .ok (.if_icmp .eq 9, 3) := by decide +kernel
theorem dX7_readSign_8 : decode cX7_readSign 8 = .ok (.aload_n 0, 1) := by decide +kernel
theorem dX7_readSign_9 : decode cX7_readSign 9 = .ok (.iconst 1, 1) := by decide +kernel
theorem dX7_readSign_10 : decode cX7_readSign 10 = .ok (.invokevirtual 59, 3) := by decide +kernel
theorem dX7_readSign_13 : decode cX7_readSign 13 = .ok (.ireturn, 1) := by decide +kernel
theorem dX7_readSign_14 : decode cX7_readSign 14 = .ok (.aload_n 0, 1) := by decide +kernel
theorem dX7_readSign_15 : decode cX7_readSign 15 = .ok (.dup, 1) := by decide +kernel
theorem dX7_readSign_16 : decode cX7_readSign 16 = .ok (.getfield 22, 3) := by decide +kernel
theorem dX7_readSign_19 : decode cX7_readSign 19 = .ok (.iconst 1, 1) := by decide +kernel
theorem dX7_readSign_20 : decode cX7_readSign 20 = .ok (.iadd, 1) := by decide +kernel
theorem dX7_readSign_21 : decode cX7_readSign 21 = .ok (.putfield 22, 3) := by decide +kernel
theorem dX7_readSign_24 : decode cX7_readSign 24 = .ok (.iconst 1, 1) := by decide +kernel
theorem dX7_readSign_25 : decode cX7_readSign 25 = .ok (.ireturn, 1) := by decide +kernel
set_option maxRecDepth 20000 in
theorem ggX7_readNumber_X7_isFigure : GoodIn wsX7_readNumber wsX7_isFigure := goodIn_r _ [12] (by decide +kernel) (by decide +kernel)
set_option maxRecDepth 20000 in
theorem gX7_readNumber_X7_isFigure : GoodIn wsX7_readNumber (va_wsS RX7 81 yX7_isFigure wsX7_isFigure) := goodIn_app (goodIn_of _ (by decide +kernel)) ggX7_readNumber_X7_isFigure
set_option maxRecDepth 20000 in
theorem ggX7_readNumber_X7_fails : GoodIn wsX7_readNumber wsX7_fails := goodIn_r _ [16, 17, 18, 19, 20, 21, 22] (by decide +kernel) (by decide +kernel)
set_option maxRecDepth 20000 in
theorem gX7_readNumber_X7_fails : GoodIn wsX7_readNumber (wsV RX7 59 RX7 yX7_fails wsX7_fails) := goodIn_app (goodIn_of _ (by decide +kernel)) ggX7_readNumber_X7_fails
theorem dX7_readNumber_0 : decode cX7_readNumber 0 = .ok (.iconst 0, 1) := by decide +kernel
theorem dX7_readNumber_1 : decode cX7_readNumber 1 = .ok (.istore_n 3, 1) := by decide +kernel
theorem dX7_readNumber_2 : decode cX7_readNumber 2 = .ok (.iconst 0, 1) := by decide +kernel
theorem dX7_readNumber_3 : decode cX7_readNumber 3 = .ok (.istore 4, 2) := by decide +kernel
theorem dX7_readNumber_5 : decode cX7_readNumber 5 = .ok (.aload_n 0, 1) := by decide +kernel
theorem dX7_readNumber_6 : decode cX7_readNumber 6 = .ok (.getfield 22, 3) := by decide +kernel
theorem dX7_readNumber_9 : decode cX7_readNumber 9 = .ok (.iload_n 3, 1) := by decide +kernel
theorem dX7_readNumber_10 : decode cX7_readNumber 10 = .ok (.iadd, 1) := by decide +kernel
theorem dX7_readNumber_11 : decode cX7_readNumber 11 = .ok (.aload_n 0, 1) := by decide +kernel
theorem dX7_readNumber_12 : decode cX7_readNumber 12 = .ok (.getfield 15, 3) := by decide +kernel
theorem dX7_readNumber_15 : decode cX7_readNumber 15 = .ok (.if_icmp .ge 54, 3) := by decide +kernel
theorem dX7_readNumber_18 : decode cX7_readNumber 18 = .ok (.aload_n 0, 1) := by decide +kernel
theorem dX7_readNumber_19 : decode cX7_readNumber 19 = .ok (.getfield 11, 3) := by decide +kernel
theorem dX7_readNumber_22 : decode cX7_readNumber 22 = .ok (.aload_n 0, 1) := by decide +kernel
theorem dX7_readNumber_23 : decode cX7_readNumber 23 = .ok (.getfield 22, 3) := by decide +kernel
theorem dX7_readNumber_26 : decode cX7_readNumber 26 = .ok (.iload_n 3, 1) := by decide +kernel
theorem dX7_readNumber_27 : decode cX7_readNumber 27 = .ok (.iadd, 1) := by decide +kernel
theorem dX7_readNumber_28 : decode cX7_readNumber 28 = .ok (.iaload, 1) := by decide +kernel
theorem dX7_readNumber_29 : decode cX7_readNumber 29 = .ok (.invokestatic 81, 3) := by decide +kernel
theorem dX7_readNumber_32 : decode cX7_readNumber 32 = .ok (.ifCond .eq 37, 3) := by decide +kernel
theorem dX7_readNumber_35 : decode cX7_readNumber 35 = .ok (.sipush 1000, 3) := by decide +kernel
theorem dX7_readNumber_38 : decode cX7_readNumber 38 = .ok (.bipush 10, 2) := by decide +kernel
theorem dX7_readNumber_40 : decode cX7_readNumber 40 = .ok (.iload 4, 2) := by decide +kernel
theorem dX7_readNumber_42 : decode cX7_readNumber 42 = .ok (.imul, 1) := by decide +kernel
theorem dX7_readNumber_43 : decode cX7_readNumber 43 = .ok (.aload_n 0, 1) := by decide +kernel
theorem dX7_readNumber_44 : decode cX7_readNumber 44 = .ok (.getfield 11, 3) := by decide +kernel
theorem dX7_readNumber_47 : decode cX7_readNumber 47 = .ok (.aload_n 0, 1) := by decide +kernel
theorem dX7_readNumber_48 : decode cX7_readNumber 48 = .ok (.getfield 22, 3) := by decide +kernel
theorem dX7_readNumber_51 : decode cX7_readNumber 51 = .ok (.iload_n 3, 1) := by decide +kernel
theorem dX7_readNumber_52 : decode cX7_readNumber 52 = .ok (.iadd, 1) := by decide +kernel
theorem dX7_readNumber_53 : decode cX7_readNumber 53 = .ok (.iaload, 1) := by decide +kernel
theorem dX7_readNumber_54 : decode cX7_readNumber 54 = .ok (.iadd, 1) := by decide +kernel
theorem dX7_readNumber_55 : decode cX7_readNumber 55 = .ok (.bipush 48, 2) := by decide +kernel
theorem dX7_readNumber_57 : decode cX7_readNumber 57 = .ok (.isub, 1) := by decide +kernel
theorem dX7_readNumber_58 : decode cX7_readNumber 58 = .ok (.invokestatic 84, 3) := by decide +kernel
theorem dX7_readNumber_61 : decode cX7_readNumber 61 = .ok (.istore 4, 2) := by decide +kernel
theorem dX7_readNumber_63 : decode cX7_readNumber 63 = .ok (.iinc 3 1, 3) := by decide +kernel
theorem dX7_readNumber_66 : decode cX7_readNumber 66 = .ok (.goto (-61), 3) := by decide +kernel
theorem dX7_readNumber_69 : decode cX7_readNumber 69 = .ok (.iload_n 3, 1) := by decide +kernel
theorem dX7_readNumber_70 : decode cX7_readNumber 70 = .ok (.iconst 1, 1) := by decide +kernel
theorem dX7_readNumber_71 : decode cX7_readNumber 71 = .ok (.if_icmp .lt 8, 3) := by decide +kernel
theorem dX7_readNumber_74 : decode cX7_readNumber 74 = .ok (.iload_n 3, 1) := by decide +kernel
theorem dX7_readNumber_75 : decode cX7_readNumber 75 = .ok (.iconst 2, 1) := by decide +kernel
theorem dX7_readNumber_76 : decode cX7_readNumber 76 = .ok (.if_icmp .le 9, 3) := by decide +kernel
theorem dX7_readNumber_79 : decode cX7_readNumber 79 = .ok (.aload_n 0, 1) := by decide +kernel
theorem dX7_readNumber_80 : decode cX7_readNumber 80 = .ok (.iconst 1, 1) := by decide +kernel
theorem dX7_readNumber_81 : decode cX7_readNumber 81 = .ok (.invokevirtual 59, 3) := by decide +kernel
theorem dX7_readNumber_84 : decode cX7_readNumber 84 = .ok (.ireturn, 1) := by decide +kernel
theorem dX7_readNumber_85 : decode cX7_readNumber 85 = .ok (.iload 4, 2) := by decide +kernel
theorem dX7_readNumber_87 : decode cX7_readNumber 87 = .ok (.iload_n 1, 1) := by decide +kernel
theorem dX7_readNumber_88 : decode cX7_readNumber 88 = .ok (.if_icmp .lt 9, 3) := by decide +kernel
theorem dX7_readNumber_91 : decode cX7_readNumber 91 = .ok (.iload 4, 2) := by decide +kernel
theorem dX7_readNumber_93 : decode cX7_readNumber 93 = .ok (.iload_n 2, 1) := by decide +kernel
theorem dX7_readNumber_94 : decode cX7_readNumber 94 = .ok (.if_icmp .le 9, 3) := by decide +kernel
theorem dX7_readNumber_97 : decode cX7_readNumber 97 = .ok (.aload_n 0, 1) := by decide +kernel
theorem dX7_readNumber_98 : decode cX7_readNumber 98 = .ok (.iconst 2, 1) := by decide +kernel
theorem dX7_readNumber_99 : decode cX7_readNumber 99 = .ok (.invokevirtual 59, 3) := by decide +kernel
theorem dX7_readNumber_102 : decode cX7_readNumber 102 = .ok (.ireturn, 1) := by decide +kernel
theorem dX7_readNumber_103 : decode cX7_readNumber 103 = .ok (.aload_n 0, 1) := by decide +kernel
theorem dX7_readNumber_104 : decode cX7_readNumber 104 = .ok (.iload 4, 2) := by decide +kernel
theorem dX7_readNumber_106 : decode cX7_readNumber 106 = .ok (.putfield 48, 3) := by decide +kernel
theorem dX7_readNumber_109 : decode cX7_readNumber 109 = .ok (.aload_n 0, 1) := by decide +kernel
theorem dX7_readNumber_110 : decode cX7_readNumber 110 = .ok (.dup, 1) := by decide +kernel
theorem dX7_readNumber_111 : decode cX7_readNumber 111 = .ok (.getfield 22, 3) := by decide +kernel
theorem dX7_readNumber_114 : decode cX7_readNumber 114 = .ok (.iload_n 3, 1) := by decide +kernel
theorem dX7_readNumber_115 : decode cX7_readNumber 115 = .ok (.iadd, 1) := by decide +kernel
theorem dX7_readNumber_116 : decode cX7_readNumber 116 = .ok (.putfield 22, 3) := by decide +kernel
theorem dX7_readNumber_119 : decode cX7_readNumber 119 = .ok (.iconst 1, 1) := by decide +kernel
theorem dX7_readNumber_120 : decode cX7_readNumber 120 = .ok (.ireturn, 1) := by decide +kernel
theorem dX7_isFigure_0 : decode cX7_isFigure 0 = .ok (.iload_n 0, 1) := by decide +kernel
theorem dX7_isFigure_1 : decode cX7_isFigure 1 = .ok (.bipush 48, 2) := by decide +kernel
theorem dX7_isFigure_3 : decode cX7_isFigure 3 = .ok (.if_icmp .lt 13, 3) := by decide +kernel
theorem dX7_isFigure_6 : decode cX7_isFigure 6 = .ok (.iload_n 0, 1) := by decide +kernel
theorem dX7_isFigure_7 : decode cX7_isFigure 7 = .ok (.bipush 57, 2) := by decide +kernel
theorem dX7_isFigure_9 : decode cX7_isFigure 9 = .ok (.if_icmp .gt 7, 3) := by decide +kernel
theorem dX7_isFigure_12 : decode cX7_isFigure 12 = .ok (.iconst 1, 1) := by decide +kernel
theorem dX7_isFigure_13 : decode cX7_isFigure 13 = .ok (.goto 4, 3) := by decide +kernel
theorem dX7_isFigure_16 : decode cX7_isFigure 16 = .ok (.iconst 0, 1) := by decide +kernel
theorem dX7_isFigure_17 : decode cX7_isFigure 17 = .ok (.ireturn, 1) := by decide +kernel
theorem dX7_fails_0 : decode cX7_fails 0 = .ok (.aload_n 0, 1) := by decide +kernel
theorem dX7_fails_1 : decode cX7_fails 1 = .ok (.iload_n 1, 1) := by decide +kernel
theorem dX7_fails_2 : decode cX7_fails 2 = .ok (.putfield 19, 3) := by decide +kernel
theorem dX7_fails_5 : decode cX7_fails 5 = .ok (.iconst 0, 1) := by decide +kernel
theorem dX7_fails_6 : decode cX7_fails 6 = .ok (.ireturn, 1) := by decide +kernel
theorem dJ6_bitCount_0f7a4_0 : decode cJ6_bitCount_0f7a4 0 = .ok (.iload_n 0, 1) := by decide +kernel
theorem dJ6_bitCount_0f7a4_1 : decode cJ6_bitCount_0f7a4 1 = .ok (.iload_n 0, 1) := by decide +kernel
theorem dJ6_bitCount_0f7a4_2 : decode cJ6_bitCount_0f7a4 2 = .ok (.iconst 1, 1) := by decide +kernel
theorem dJ6_bitCount_0f7a4_3 : decode cJ6_bitCount_0f7a4 3 = .ok (.iushr, 1) := by decide +kernel
theorem dJ6_bitCount_0f7a4_4 : decode cJ6_bitCount_0f7a4 4 = .ok (.ldc_w 265, 3) := by decide +kernel
theorem dJ6_bitCount_0f7a4_7 : decode cJ6_bitCount_0f7a4 7 = .ok (.iand, 1) := by decide +kernel
theorem dJ6_bitCount_0f7a4_8 : decode cJ6_bitCount_0f7a4 8 = .ok (.isub, 1) := by decide +kernel
theorem dJ6_bitCount_0f7a4_9 : decode cJ6_bitCount_0f7a4 9 = .ok (.istore_n 0, 1) := by decide +kernel
theorem dJ6_bitCount_0f7a4_10 : decode cJ6_bitCount_0f7a4 10 = .ok (.iload_n 0, 1) := by decide +kernel
theorem dJ6_bitCount_0f7a4_11 : decode cJ6_bitCount_0f7a4 11 = .ok (.ldc_w 266, 3) := by decide +kernel
theorem dJ6_bitCount_0f7a4_14 : decode cJ6_bitCount_0f7a4 14 = .ok (.iand, 1) := by decide +kernel
theorem dJ6_bitCount_0f7a4_15 : decode cJ6_bitCount_0f7a4 15 = .ok (.iload_n 0, 1) := by decide +kernel
theorem dJ6_bitCount_0f7a4_16 : decode cJ6_bitCount_0f7a4 16 = .ok (.iconst 2, 1) := by decide +kernel
theorem dJ6_bitCount_0f7a4_17 : decode cJ6_bitCount_0f7a4 17 = .ok (.iushr, 1) := by decide +kernel
theorem dJ6_bitCount_0f7a4_18 : decode cJ6_bitCount_0f7a4 18 = .ok (.ldc_w 266, 3) := by decide +kernel
theorem dJ6_bitCount_0f7a4_21 : decode cJ6_bitCount_0f7a4 21 = .ok (.iand, 1) := by decide +kernel
theorem dJ6_bitCount_0f7a4_22 : decode cJ6_bitCount_0f7a4 22 = .ok (.iadd, 1) := by decide +kernel
theorem dJ6_bitCount_0f7a4_23 : decode cJ6_bitCount_0f7a4 23 = .ok (.istore_n 0, 1) := by decide +kernel
theorem dJ6_bitCount_0f7a4_24 : decode cJ6_bitCount_0f7a4 24 = .ok (.iload_n 0, 1) := by decide +kernel
theorem dJ6_bitCount_0f7a4_25 : decode cJ6_bitCount_0f7a4 25 = .ok (.iload_n 0, 1) := by decide +kernel
theorem dJ6_bitCount_0f7a4_26 : decode cJ6_bitCount_0f7a4 26 = .ok (.iconst 4, 1) := by decide +kernel
theorem dJ6_bitCount_0f7a4_27 : decode cJ6_bitCount_0f7a4 27 = .ok (.iushr, 1) := by decide +kernel
theorem dJ6_bitCount_0f7a4_28 : decode cJ6_bitCount_0f7a4 28 = .ok (.iadd, 1) := by decide +kernel
theorem dJ6_bitCount_0f7a4_29 : decode cJ6_bitCount_0f7a4 29 = .ok (.ldc_w 267, 3) := by decide +kernel
theorem dJ6_bitCount_0f7a4_32 : decode cJ6_bitCount_0f7a4 32 = .ok (.iand, 1) := by decide +kernel
theorem dJ6_bitCount_0f7a4_33 : decode cJ6_bitCount_0f7a4 33 = .ok (.istore_n 0, 1) := by decide +kernel
theorem dJ6_bitCount_0f7a4_34 : decode cJ6_bitCount_0f7a4 34 = .ok (.iload_n 0, 1) := by decide +kernel
theorem dJ6_bitCount_0f7a4_35 : decode cJ6_bitCount_0f7a4 35 = .ok (.iload_n 0, 1) := by decide +kernel
theorem dJ6_bitCount_0f7a4_36 : decode cJ6_bitCount_0f7a4 36 = .ok (.bipush 8, 2) := by decide +kernel
theorem dJ6_bitCount_0f7a4_38 : decode cJ6_bitCount_0f7a4 38 = .ok (.iushr, 1) := by decide +kernel
theorem dJ6_bitCount_0f7a4_39 : decode cJ6_bitCount_0f7a4 39 = .ok (.iadd, 1) := by decide +kernel
theorem dJ6_bitCount_0f7a4_40 : decode cJ6_bitCount_0f7a4 40 = .ok (.istore_n 0, 1) := by decide +kernel
theorem dJ6_bitCount_0f7a4_41 : decode cJ6_bitCount_0f7a4 41 = .ok (.iload_n 0, 1) := by decide +kernel
theorem dJ6_bitCount_0f7a4_42 : decode cJ6_bitCount_0f7a4 42 = .ok (.iload_n 0, 1) := by decide +kernel
theorem dJ6_bitCount_0f7a4_43 : decode cJ6_bitCount_0f7a4 43 = .ok (.bipush 16, 2) := by decide +kernel
theorem dJ6_bitCount_0f7a4_45 : decode cJ6_bitCount_0f7a4 45 = .ok (.iushr, 1) := by decide +kernel
theorem dJ6_bitCount_0f7a4_46 : decode cJ6_bitCount_0f7a4 46 = .ok (.iadd, 1) := by decide +kernel
theorem dJ6_bitCount_0f7a4_47 : decode cJ6_bitCount_0f7a4 47 = .ok (.istore_n 0, 1) := by decide +kernel
theorem dJ6_bitCount_0f7a4_48 : decode cJ6_bitCount_0f7a4 48 = .ok (.iload_n 0, 1) := by decide +kernel
theorem dJ6_bitCount_0f7a4_49 : decode cJ6_bitCount_0f7a4 49 = .ok (.bipush 63, 2) := by decide +kernel
theorem dJ6_bitCount_0f7a4_51 : decode cJ6_bitCount_0f7a4 51 = .ok (.iand, 1) := by decide +kernel
theorem dJ6_bitCount_0f7a4_52 : decode cJ6_bitCount_0f7a4 52 = .ok (.ireturn, 1) := by decide +kernel
theorem dJ9_max_7cf53_0 : decode cJ9_max_7cf53 0 = .ok (.iload_n 0, 1) := by decide +kernel
theorem dJ9_max_7cf53_1 : decode cJ9_max_7cf53 1 = .ok (.iload_n 1, 1) := by decide +kernel
theorem dJ9_max_7cf53_2 : decode cJ9_max_7cf53 2 = .ok (.if_icmp .lt 7, 3) := by decide +kernel
theorem dJ9_max_7cf53_5 : decode cJ9_max_7cf53 5 = .ok (.iload_n 0, 1) := by decide +kernel
theorem dJ9_max_7cf53_6 : decode cJ9_max_7cf53 6 = .ok (.goto 4, 3) := by decide +kernel
theorem dJ9_max_7cf53_9 : decode cJ9_max_7cf53 9 = .ok (.iload_n 1, 1) := by decide +kernel
theorem dJ9_max_7cf53_10 : decode cJ9_max_7cf53 10 = .ok (.ireturn, 1) := by decide +kernel
theorem dJ9_min_7cf53_0 : decode cJ9_min_7cf53 0 = .ok (.iload_n 0, 1) := by decide +kernel
theorem dJ9_min_7cf53_1 : decode cJ9_min_7cf53 1 = .ok (.iload_n 1, 1) := by decide +kernel
theorem dJ9_min_7cf53_2 : decode cJ9_min_7cf53 2 = .ok (.if_icmp .gt 7, 3) := by decide +kernel
theorem dJ9_min_7cf53_5 : decode cJ9_min_7cf53 5 = .ok (.iload_n 0, 1) := by decide +kernel
theorem dJ9_min_7cf53_6 : decode cJ9_min_7cf53 6 = .ok (.goto 4, 3) := by decide +kernel
theorem dJ9_min_7cf53_9 : decode cJ9_min_7cf53 9 = .ok (.iload_n 1, 1) := by decide +kernel
theorem dJ9_min_7cf53_10 : decode cJ9_min_7cf53 10 = .ok (.ireturn, 1) := by decide +kernel
