theorem dX0_init_0 : decode cX0_init 0 = .ok (.aload_n 0, 1) := by decide +kernel
theorem dX0_init_1 : decode cX0_init 1 = .ok (.invokespecial 1, 3) := by decide +kernel
theorem dX0_init_4 : decode cX0_init 4 = .ok (.aload_n 0, 1) := by decide +kernel
theorem dX0_init_5 : decode cX0_init 5 = .ok (.sipush 864, 3) := by decide +kernel
theorem dX0_init_8 : decode cX0_init 8 = .ok (.newarray .int, 2) := by decide +kernel
theorem dX0_init_10 : decode cX0_init 10 = .ok (.putfield 11, 3) := by decide +kernel
theorem dX0_init_13 : decode cX0_init 13 = .ok (.return_, 1) := by decide +kernel
theorem dX0_kept_0 : decode cX0_kept 0 = .ok (.aload_n 0, 1) := by decide +kernel
theorem dX0_kept_1 : decode cX0_kept 1 = .ok (.getfield 15, 3) := by decide +kernel
theorem dX0_kept_4 : decode cX0_kept 4 = .ok (.ireturn, 1) := by decide +kernel
theorem dX0_forget_0 : decode cX0_forget 0 = .ok (.aload_n 0, 1) := by decide +kernel
theorem dX0_forget_1 : decode cX0_forget 1 = .ok (.iconst 0, 1) := by decide +kernel
theorem dX0_forget_2 : decode cX0_forget 2 = .ok (.putfield 15, 3) := by decide +kernel
theorem dX0_forget_5 : decode cX0_forget 5 = .ok (.return_, 1) := by decide +kernel
set_option maxRecDepth 20000 in
theorem ggX0_keep_X3_saveTo : GoodIn wsX0_keep wsX3_saveTo := goodIn_r _ [12, 13, 14, 15, 16, 17, 18, 19, 20, 24, 25, 26, 27, 28, 29, 30, 31, 32, 33, 34] (by decide +kernel) (by decide +kernel)
set_option maxRecDepth 20000 in
theorem gX0_keep_X3_saveTo : GoodIn wsX0_keep (wsV RX0 22 RX3 yX3_saveTo wsX3_saveTo) := goodIn_app (goodIn_of _ (by decide +kernel)) ggX0_keep_X3_saveTo
theorem dX0_keep_0 : decode cX0_keep 0 = .ok (.aload_n 1, 1) := by decide +kernel
theorem dX0_keep_1 : decode cX0_keep 1 = .ok (.aload_n 0, 1) := by decide +kernel
theorem dX0_keep_2 : decode cX0_keep 2 = .ok (.getfield 11, 3) := by decide +kernel
theorem dX0_keep_5 : decode cX0_keep 5 = .ok (.aload_n 0, 1) := by decide +kernel
theorem dX0_keep_6 : decode cX0_keep 6 = .ok (.getfield 19, 3) := by decide +kernel
theorem dX0_keep_9 : decode cX0_keep 9 = .ok (.bipush 36, 2) := by decide +kernel
theorem dX0_keep_11 : decode cX0_keep 11 = .ok (.imul, 1) := by decide +kernel
theorem dX0_keep_12 : decode cX0_keep 12 = .ok (.invokevirtual 22, 3) := by decide +kernel
theorem dX0_keep_15 : decode cX0_keep 15 = .ok (.aload_n 0, 1) := by decide +kernel
theorem dX0_keep_16 : decode cX0_keep 16 = .ok (.aload_n 0, 1) := by decide +kernel
theorem dX0_keep_17 : decode cX0_keep 17 = .ok (.getfield 19, 3) := by decide +kernel
theorem dX0_keep_20 : decode cX0_keep 20 = .ok (.iconst 1, 1) := by decide +kernel
theorem dX0_keep_21 : decode cX0_keep 21 = .ok (.iadd, 1) := by decide +kernel
theorem dX0_keep_22 : decode cX0_keep 22 = .ok (.bipush 24, 2) := by decide +kernel
theorem dX0_keep_24 : decode cX0_keep 24 = .ok (.irem, 1) := by decide +kernel
theorem dX0_keep_25 : decode cX0_keep 25 = .ok (.putfield 19, 3) := by decide +kernel
theorem dX0_keep_28 : decode cX0_keep 28 = .ok (.aload_n 0, 1) := by decide +kernel
theorem dX0_keep_29 : decode cX0_keep 29 = .ok (.bipush 24, 2) := by decide +kernel
theorem dX0_keep_31 : decode cX0_keep 31 = .ok (.aload_n 0, 1) := by decide +kernel
theorem dX0_keep_32 : decode cX0_keep 32 = .ok (.getfield 15, 3) := by decide +kernel
theorem dX0_keep_35 : decode cX0_keep 35 = .ok (.iconst 1, 1) := by decide +kernel
theorem dX0_keep_36 : decode cX0_keep 36 = .ok (.iadd, 1) := by decide +kernel
theorem dX0_keep_37 : decode cX0_keep 37 = .ok (.invokestatic 26, 3) := by decide +kernel
theorem dX0_keep_40 : decode cX0_keep 40 = .ok (.putfield 15, 3) := by decide +kernel
theorem dX0_keep_43 : decode cX0_keep 43 = .ok (.return_, 1) := by decide +kernel
set_option maxRecDepth 20000 in
theorem ggX0_takeBack_X3_takeFrom : GoodIn wsX0_takeBack wsX3_takeFrom := goodIn_r _ [8, 9, 10, 11, 12, 13, 14, 15, 16, 20, 21, 22, 23, 24, 25, 26, 27, 28, 29, 30] (by decide +kernel) (by decide +kernel)
set_option maxRecDepth 20000 in
theorem gX0_takeBack_X3_takeFrom : GoodIn wsX0_takeBack (wsV RX0 32 RX3 yX3_takeFrom wsX3_takeFrom) := goodIn_app (goodIn_of _ (by decide +kernel)) ggX0_takeBack_X3_takeFrom
theorem dX0_takeBack_0 : decode cX0_takeBack 0 = .ok (.aload_n 0, 1) := by decide +kernel
theorem dX0_takeBack_1 : decode cX0_takeBack 1 = .ok (.aload_n 0, 1) := by decide +kernel
theorem dX0_takeBack_2 : decode cX0_takeBack 2 = .ok (.getfield 19, 3) := by decide +kernel
theorem dX0_takeBack_5 : decode cX0_takeBack 5 = .ok (.bipush 24, 2) := by decide +kernel
theorem dX0_takeBack_7 : decode cX0_takeBack 7 = .ok (.iadd, 1) := by decide +kernel
theorem dX0_takeBack_8 : decode cX0_takeBack 8 = .ok (.iconst 1, 1) := by decide +kernel
theorem dX0_takeBack_9 : decode cX0_takeBack 9 = .ok (.isub, 1) := by decide +kernel
theorem dX0_takeBack_10 : decode cX0_takeBack 10 = .ok (.bipush 24, 2) := by decide +kernel
theorem dX0_takeBack_12 : decode cX0_takeBack 12 = .ok (.irem, 1) := by decide +kernel
theorem dX0_takeBack_13 : decode cX0_takeBack 13 = .ok (.putfield 19, 3) := by decide +kernel
theorem dX0_takeBack_16 : decode cX0_takeBack 16 = .ok (.aload_n 1, 1) := by decide +kernel
theorem dX0_takeBack_17 : decode cX0_takeBack 17 = .ok (.aload_n 0, 1) := by decide +kernel
theorem dX0_takeBack_18 : decode cX0_takeBack 18 = .ok (.getfield 11, 3) := by decide +kernel
theorem dX0_takeBack_21 : decode cX0_takeBack 21 = .ok (.aload_n 0, 1) := by decide +kernel
theorem dX0_takeBack_22 : decode cX0_takeBack 22 = .ok (.getfield 19, 3) := by decide +kernel
theorem dX0_takeBack_25 : decode cX0_takeBack 25 = .ok (.bipush 36, 2) := by decide +kernel
theorem dX0_takeBack_27 : decode cX0_takeBack 27 = .ok (.imul, 1) := by decide +kernel
theorem dX0_takeBack_28 : decode cX0_takeBack 28 = .ok (.invokevirtual 32, 3) := by decide +kernel
theorem dX0_takeBack_31 : decode cX0_takeBack 31 = .ok (.aload_n 0, 1) := by decide +kernel
theorem dX0_takeBack_32 : decode cX0_takeBack 32 = .ok (.dup, 1) := by decide +kernel
theorem dX0_takeBack_33 : decode cX0_takeBack 33 = .ok (.getfield 15, 3) := by decide +kernel
theorem dX0_takeBack_36 : decode cX0_takeBack 36 = .ok (.iconst 1, 1) := by decide +kernel
theorem dX0_takeBack_37 : decode cX0_takeBack 37 = .ok (.isub, 1) := by decide +kernel
theorem dX0_takeBack_38 : decode cX0_takeBack 38 = .ok (.putfield 15, 3) := by decide +kernel
theorem dX0_takeBack_41 : decode cX0_takeBack 41 = .ok (.return_, 1) := by decide +kernel
theorem dX1_init_0 : decode cX1_init 0 = .ok (.aload_n 0, 1) := by decide +kernel
theorem dX1_init_1 : decode cX1_init 1 = .ok (.invokespecial 1, 3) := by decide +kernel
theorem dX1_init_4 : decode cX1_init 4 = .ok (.aload_n 0, 1) := by decide +kernel
theorem dX1_init_5 : decode cX1_init 5 = .ok (.bipush 16, 2) := by decide +kernel
theorem dX1_init_7 : decode cX1_init 7 = .ok (.newarray .int, 2) := by decide +kernel
theorem dX1_init_9 : decode cX1_init 9 = .ok (.putfield 9, 3) := by decide +kernel
theorem dX1_init_12 : decode cX1_init 12 = .ok (.return_, 1) := by decide +kernel
theorem dX1_traced_0 : decode cX1_traced 0 = .ok (.aload_n 0, 1) := by decide +kernel
theorem dX1_traced_1 : decode cX1_traced 1 = .ok (.getfield 13, 3) := by decide +kernel
theorem dX1_traced_4 : decode cX1_traced 4 = .ok (.ireturn, 1) := by decide +kernel
theorem dX1_tracedBody_0 : decode cX1_tracedBody 0 = .ok (.aload_n 0, 1) := by decide +kernel
theorem dX1_tracedBody_1 : decode cX1_tracedBody 1 = .ok (.getfield 9, 3) := by decide +kernel
theorem dX1_tracedBody_4 : decode cX1_tracedBody 4 = .ok (.iload_n 1, 1) := by decide +kernel
theorem dX1_tracedBody_5 : decode cX1_tracedBody 5 = .ok (.iaload, 1) := by decide +kernel
theorem dX1_tracedBody_6 : decode cX1_tracedBody 6 = .ok (.ireturn, 1) := by decide +kernel
set_option maxRecDepth 20000 in
theorem ggX1_turnTo_X3_kindOf : GoodIn wsX1_turnTo wsX3_kindOf := goodIn_r _ [10, 11, 28, 29, 30, 31, 32, 33, 34, 35, 36, 37, 38] (by decide +kernel) (by decide +kernel)
set_option maxRecDepth 20000 in
theorem gX1_turnTo_X3_kindOf : GoodIn wsX1_turnTo (wsV RX1 20 RX3 yX3_kindOf wsX3_kindOf) := goodIn_app (goodIn_of _ (by decide +kernel)) ggX1_turnTo_X3_kindOf
set_option maxRecDepth 20000 in
theorem ggX1_turnTo_X3_purse : GoodIn wsX1_turnTo wsX3_purse := goodIn_r _ [15, 16, 28, 29, 30, 31, 32, 33, 34, 35, 36, 37, 38] (by decide +kernel) (by decide +kernel)
set_option maxRecDepth 20000 in
theorem gX1_turnTo_X3_purse : GoodIn wsX1_turnTo (wsV RX1 29 RX3 yX3_purse wsX3_purse) := goodIn_app (goodIn_of _ (by decide +kernel)) ggX1_turnTo_X3_purse
set_option maxRecDepth 20000 in
theorem ggX1_turnTo_X3_homeOf : GoodIn wsX1_turnTo wsX3_homeOf := goodIn_r _ [20, 21, 28, 29, 30, 31, 32, 33, 34, 35, 36, 37, 38] (by decide +kernel) (by decide +kernel)
set_option maxRecDepth 20000 in
theorem gX1_turnTo_X3_homeOf : GoodIn wsX1_turnTo (wsV RX1 34 RX3 yX3_homeOf wsX3_homeOf) := goodIn_app (goodIn_of _ (by decide +kernel)) ggX1_turnTo_X3_homeOf
theorem dX1_turnTo_0 : decode cX1_turnTo 0 = .ok (.aload_n 0, 1) := by decide +kernel
theorem dX1_turnTo_1 : decode cX1_turnTo 1 = .ok (.iconst 0, 1) := by decide +kernel
theorem dX1_turnTo_2 : decode cX1_turnTo 2 = .ok (.putfield 13, 3) := by decide +kernel
theorem dX1_turnTo_5 : decode cX1_turnTo 5 = .ok (.aload_n 0, 1) := by decide +kernel
theorem dX1_turnTo_6 : decode cX1_turnTo 6 = .ok (.iload_n 2, 1) := by decide +kernel
theorem dX1_turnTo_7 : decode cX1_turnTo 7 = .ok (.putfield 17, 3) := by decide +kernel
theorem dX1_turnTo_10 : decode cX1_turnTo 10 = .ok (.aload_n 0, 1) := by decide +kernel
theorem dX1_turnTo_11 : decode cX1_turnTo 11 = .ok (.aload_n 1, 1) := by decide +kernel
theorem dX1_turnTo_12 : decode cX1_turnTo 12 = .ok (.iload_n 2, 1) := by decide +kernel
theorem dX1_turnTo_13 : decode cX1_turnTo 13 = .ok (.invokevirtual 20, 3) := by decide +kernel
theorem dX1_turnTo_16 : decode cX1_turnTo 16 = .ok (.putfield 26, 3) := by decide +kernel
theorem dX1_turnTo_19 : decode cX1_turnTo 19 = .ok (.aload_n 0, 1) := by decide +kernel
theorem dX1_turnTo_20 : decode cX1_turnTo 20 = .ok (.aload_n 1, 1) := by decide +kernel
theorem dX1_turnTo_21 : decode cX1_turnTo 21 = .ok (.iload_n 2, 1) := by decide +kernel
theorem dX1_turnTo_22 : decode cX1_turnTo 22 = .ok (.invokevirtual 29, 3) := by decide +kernel
theorem dX1_turnTo_25 : decode cX1_turnTo 25 = .ok (.putfield 32, 3) := by decide +kernel
theorem dX1_turnTo_28 : decode cX1_turnTo 28 = .ok (.aload_n 0, 1) := by decide +kernel
theorem dX1_turnTo_29 : decode cX1_turnTo 29 = .ok (.aload_n 1, 1) := by decide +kernel
theorem dX1_turnTo_30 : decode cX1_turnTo 30 = .ok (.iload_n 2, 1) := by decide +kernel
theorem dX1_turnTo_31 : decode cX1_turnTo 31 = .ok (.invokevirtual 34, 3) := by decide +kernel
theorem dX1_turnTo_34 : decode cX1_turnTo 34 = .ok (.putfield 37, 3) := by decide +kernel
theorem dX1_turnTo_37 : decode cX1_turnTo 37 = .ok (.return_, 1) := by decide +kernel
set_option maxRecDepth 20000 in
theorem ggX1_sizeAsked_X1_begin : GoodIn wsX1_sizeAsked wsX1_begin := goodIn_r _ [6, 7, 8, 40, 41, 42, 43, 44, 45] (by decide +kernel) (by decide +kernel)
set_option maxRecDepth 20000 in
theorem gX1_sizeAsked_X1_begin : GoodIn wsX1_sizeAsked (wsV RX1 40 RX1 yX1_begin wsX1_begin) := goodIn_app (goodIn_of _ (by decide +kernel)) ggX1_sizeAsked_X1_begin
set_option maxRecDepth 20000 in
theorem ggX1_sizeAsked_X1_sizeOfBuyers : GoodIn wsX1_sizeAsked wsX1_sizeOfBuyers := goodIn_r _ [12, 2, 3, 4, 5, 6, 7, 8, 13, 14, 15, 16, 17, 18, 19, 20, 21, 1, 22, 23, 24, 25, 26, 27, 28, 29, 30, 31, 40, 41, 42, 43, 44, 45] (by decide +kernel) (by decide +kernel)
set_option maxRecDepth 20000 in
theorem gX1_sizeAsked_X1_sizeOfBuyers : GoodIn wsX1_sizeAsked (wsV RX1 44 RX1 yX1_sizeOfBuyers wsX1_sizeOfBuyers) := goodIn_app (goodIn_of _ (by decide +kernel)) ggX1_sizeAsked_X1_sizeOfBuyers
set_option maxRecDepth 20000 in
theorem ggX1_sizeAsked_X1_sizeAskedOfGoats : GoodIn wsX1_sizeAsked wsX1_sizeAskedOfGoats := goodIn_r _ [35, 1, 2, 3, 4, 5, 6, 7, 8, 36, 37, 38, 39, 13, 14, 15, 16, 17, 40, 41, 42, 43, 44, 45] (by decide +kernel) (by decide +kernel)
set_option maxRecDepth 20000 in
theorem gX1_sizeAsked_X1_sizeAskedOfGoats : GoodIn wsX1_sizeAsked (wsV RX1 48 RX1 yX1_sizeAskedOfGoats wsX1_sizeAskedOfGoats) := goodIn_app (goodIn_of _ (by decide +kernel)) ggX1_sizeAsked_X1_sizeAskedOfGoats
theorem dX1_sizeAsked_0 : decode cX1_sizeAsked 0 = .ok (.aload_n 0, 1) := by decide +kernel
theorem dX1_sizeAsked_1 : decode cX1_sizeAsked 1 = .ok (.getfield 26, 3) := by decide +kernel
theorem dX1_sizeAsked_4 : decode cX1_sizeAsked 4 = .ok (.tableswitch 49 2 5 #[32, 49, 44, 44], 32) := by decide +kernel
theorem dX1_sizeAsked_36 : decode cX1_sizeAsked 36 = .ok (.aload_n 0, 1) := by decide +kernel
theorem dX1_sizeAsked_37 : decode cX1_sizeAsked 37 = .ok (.bipush 12, 2) := by decide +kernel
theorem dX1_sizeAsked_39 : decode cX1_sizeAsked 39 = .ok (.invokevirtual 40, 3) := by decide +kernel
theorem dX1_sizeAsked_42 : decode cX1_sizeAsked 42 = .ok (.aload_n 0, 1) := by decide +kernel
theorem dX1_sizeAsked_43 : decode cX1_sizeAsked 43 = .ok (.invokevirtual 44, 3) := by decide +kernel
theorem dX1_sizeAsked_46 : decode cX1_sizeAsked 46 = .ok (.ineg, 1) := by decide +kernel
theorem dX1_sizeAsked_47 : decode cX1_sizeAsked 47 = .ok (.ireturn, 1) := by decide +kernel
theorem dX1_sizeAsked_48 : decode cX1_sizeAsked 48 = .ok (.aload_n 0, 1) := by decide +kernel
theorem dX1_sizeAsked_49 : decode cX1_sizeAsked 49 = .ok (.invokevirtual 48, 3) := by decide +kernel
theorem dX1_sizeAsked_52 : decode cX1_sizeAsked 52 = .ok (.ireturn, 1) := by decide +kernel
theorem dX1_sizeAsked_53 : decode cX1_sizeAsked 53 = .ok (.aload_n 0, 1) := by decide +kernel
theorem dX1_sizeAsked_54 : decode cX1_sizeAsked 54 = .ok (.invokevirtual 44, 3) := by decide +kernel
theorem dX1_sizeAsked_57 : decode cX1_sizeAsked 57 = .ok (.ireturn, 1) := by decide +kernel
set_option maxRecDepth 20000 in
theorem ggX1_markAsked_X4_isA : GoodIn wsX1_markAsked wsX4_isA := goodIn_r _ [5, 6, 7, 4, 8] (by decide +kernel) (by decide +kernel)
set_option maxRecDepth 20000 in
theorem gX1_markAsked_X4_isA : GoodIn wsX1_markAsked (va_wsS RX1 53 yX4_isA wsX4_isA) := goodIn_app (goodIn_of _ (by decide +kernel)) ggX1_markAsked_X4_isA
set_option maxRecDepth 20000 in
theorem ggX1_markAsked_X1_markOfGoats : GoodIn wsX1_markAsked wsX1_markOfGoats := goodIn_r _ [13, 14, 15, 16, 12, 17, 18, 19, 20, 21, 22, 23, 24, 25, 26, 27, 28, 1, 29, 30, 31, 32, 33, 34, 35, 36, 37, 47, 48, 49, 50, 51, 52] (by decide +kernel) (by decide +kernel)
set_option maxRecDepth 20000 in
theorem gX1_markAsked_X1_markOfGoats : GoodIn wsX1_markAsked (wsV RX1 57 RX1 yX1_markOfGoats wsX1_markOfGoats) := goodIn_app (goodIn_of _ (by decide +kernel)) ggX1_markAsked_X1_markOfGoats
set_option maxRecDepth 20000 in
theorem ggX1_markAsked_X1_markAskedOfBuyers : GoodIn wsX1_markAsked wsX1_markAskedOfBuyers := goodIn_r _ [41, 1, 14, 15, 16, 12, 17, 18, 19, 42, 43, 44, 45, 46, 20, 21, 22, 23, 24, 47, 48, 49, 50, 51, 52] (by decide +kernel) (by decide +kernel)
set_option maxRecDepth 20000 in
theorem gX1_markAsked_X1_markAskedOfBuyers : GoodIn wsX1_markAsked (wsV RX1 60 RX1 yX1_markAskedOfBuyers wsX1_markAskedOfBuyers) := goodIn_app (goodIn_of _ (by decide +kernel)) ggX1_markAsked_X1_markAskedOfBuyers
theorem dX1_markAsked_0 : decode cX1_markAsked 0 = .ok (.aload_n 0, 1) := by decide +kernel
theorem dX1_markAsked_1 : decode cX1_markAsked 1 = .ok (.getfield 26, 3) := by decide +kernel
theorem dX1_markAsked_4 : decode cX1_markAsked 4 = .ok (.iconst 4, 1) := by decide +kernel
theorem dX1_markAsked_5 : decode cX1_markAsked 5 = .ok (.invokestatic 53, 3) := by decide +kernel
theorem dX1_markAsked_8 : decode cX1_markAsked 8 = .ok (.ifCond .eq 10, 3) := by decide +kernel
theorem dX1_markAsked_11 : decode cX1_markAsked 11 = .ok (.aload_n 0, 1) := by decide +kernel
theorem dX1_markAsked_12 : decode cX1_markAsked 12 = .ok (.invokevirtual 57, 3) := by decide +kernel
theorem dX1_markAsked_15 : decode cX1_markAsked 15 = .ok (.goto 7, 3) := by decide +kernel
theorem dX1_markAsked_18 : decode cX1_markAsked 18 = .ok (.aload_n 0, 1) := by decide +kernel
theorem dX1_markAsked_19 : decode cX1_markAsked 19 = .ok (.invokevirtual 60, 3) := by decide +kernel
theorem dX1_markAsked_22 : decode cX1_markAsked 22 = .ok (.ireturn, 1) := by decide +kernel
set_option maxRecDepth 20000 in
theorem ggX1_sizeAskedOfGoats_X1_begin : GoodIn wsX1_sizeAskedOfGoats wsX1_begin := goodIn_r _ [6, 7, 8, 18, 19, 20, 21, 22, 23] (by decide +kernel) (by decide +kernel)
set_option maxRecDepth 20000 in
theorem gX1_sizeAskedOfGoats_X1_begin : GoodIn wsX1_sizeAskedOfGoats (wsV RX1 40 RX1 yX1_begin wsX1_begin) := goodIn_app (goodIn_of _ (by decide +kernel)) ggX1_sizeAskedOfGoats_X1_begin
set_option maxRecDepth 20000 in
theorem ggX1_sizeAskedOfGoats_X1_sizeOfGoats : GoodIn wsX1_sizeAskedOfGoats wsX1_sizeOfGoats := goodIn_r _ [12, 2, 3, 4, 5, 6, 7, 8, 13, 14, 15, 16, 17, 18, 19, 20, 21, 22, 23] (by decide +kernel) (by decide +kernel)
set_option maxRecDepth 20000 in
theorem gX1_sizeAskedOfGoats_X1_sizeOfGoats : GoodIn wsX1_sizeAskedOfGoats (wsV RX1 63 RX1 yX1_sizeOfGoats wsX1_sizeOfGoats) := goodIn_app (goodIn_of _ (by decide +kernel)) ggX1_sizeAskedOfGoats_X1_sizeOfGoats
theorem dX1_sizeAskedOfGoats_0 : decode cX1_sizeAskedOfGoats 0 = .ok (.aload_n 0, 1) := by decide +kernel
theorem dX1_sizeAskedOfGoats_1 : decode cX1_sizeAskedOfGoats 1 = .ok (.getfield 26, 3) := by decide +kernel
theorem dX1_sizeAskedOfGoats_4 : decode cX1_sizeAskedOfGoats 4 = .ok (.iconst 5, 1) := by decide +kernel
theorem dX1_sizeAskedOfGoats_5 : decode cX1_sizeAskedOfGoats 5 = .ok (.if_icmp .ne 16, 3) := by decide +kernel
theorem dX1_sizeAskedOfGoats_8 : decode cX1_sizeAskedOfGoats 8 = .ok (.aload_n 0, 1) := by decide +kernel
theorem dX1_sizeAskedOfGoats_9 : decode cX1_sizeAskedOfGoats 9 = .ok (.bipush 14, 2) := by decide +kernel
theorem dX1_sizeAskedOfGoats_11 : decode cX1_sizeAskedOfGoats 11 = .ok (.invokevirtual 40, 3) := by decide +kernel
theorem dX1_sizeAskedOfGoats_14 : decode cX1_sizeAskedOfGoats 14 = .ok (.iconst 2, 1) := by decide +kernel
theorem dX1_sizeAskedOfGoats_15 : decode cX1_sizeAskedOfGoats 15 = .ok (.aload_n 0, 1) := by decide +kernel
theorem dX1_sizeAskedOfGoats_16 : decode cX1_sizeAskedOfGoats 16 = .ok (.invokevirtual 63, 3) := by decide +kernel
theorem dX1_sizeAskedOfGoats_19 : decode cX1_sizeAskedOfGoats 19 = .ok (.imul, 1) := by decide +kernel
theorem dX1_sizeAskedOfGoats_20 : decode cX1_sizeAskedOfGoats 20 = .ok (.ireturn, 1) := by decide +kernel
theorem dX1_sizeAskedOfGoats_21 : decode cX1_sizeAskedOfGoats 21 = .ok (.aload_n 0, 1) := by decide +kernel
theorem dX1_sizeAskedOfGoats_22 : decode cX1_sizeAskedOfGoats 22 = .ok (.invokevirtual 63, 3) := by decide +kernel
theorem dX1_sizeAskedOfGoats_25 : decode cX1_sizeAskedOfGoats 25 = .ok (.ireturn, 1) := by decide +kernel
set_option maxRecDepth 20000 in
theorem ggX1_markAskedOfBuyers_X1_begin : GoodIn wsX1_markAskedOfBuyers wsX1_begin := goodIn_r _ [6, 7, 8, 19, 20, 21, 22, 23, 24] (by decide +kernel) (by decide +kernel)
set_option maxRecDepth 20000 in
theorem gX1_markAskedOfBuyers_X1_begin : GoodIn wsX1_markAskedOfBuyers (wsV RX1 40 RX1 yX1_begin wsX1_begin) := goodIn_app (goodIn_of _ (by decide +kernel)) ggX1_markAskedOfBuyers_X1_begin
set_option maxRecDepth 20000 in
theorem ggX1_markAskedOfBuyers_X1_markOfBuyers : GoodIn wsX1_markAskedOfBuyers wsX1_markOfBuyers := goodIn_r _ [12, 13, 2, 3, 4, 5, 6, 7, 8, 14, 15, 16, 17, 18, 19, 20, 21, 22, 23, 24] (by decide +kernel) (by decide +kernel)
set_option maxRecDepth 20000 in
theorem gX1_markAskedOfBuyers_X1_markOfBuyers : GoodIn wsX1_markAskedOfBuyers (wsV RX1 66 RX1 yX1_markOfBuyers wsX1_markOfBuyers) := goodIn_app (goodIn_of _ (by decide +kernel)) ggX1_markAskedOfBuyers_X1_markOfBuyers
theorem dX1_markAskedOfBuyers_0 : decode cX1_markAskedOfBuyers 0 = .ok (.aload_n 0, 1) := by decide +kernel
theorem dX1_markAskedOfBuyers_1 : decode cX1_markAskedOfBuyers 1 = .ok (.getfield 26, 3) := by decide +kernel
theorem dX1_markAskedOfBuyers_4 : decode cX1_markAskedOfBuyers 4 = .ok (.lookupswitch 56 #[(2, 28), (3, 41)], 28) := by decide +kernel
theorem dX1_markAskedOfBuyers_32 : decode cX1_markAskedOfBuyers 32 = .ok (.aload_n 0, 1) := by decide +kernel
theorem dX1_markAskedOfBuyers_33 : decode cX1_markAskedOfBuyers 33 = .ok (.bipush 24, 2) := by decide +kernel
theorem dX1_markAskedOfBuyers_35 : decode cX1_markAskedOfBuyers 35 = .ok (.invokevirtual 40, 3) := by decide +kernel
theorem dX1_markAskedOfBuyers_38 : decode cX1_markAskedOfBuyers 38 = .ok (.iconst 2, 1) := by decide +kernel
theorem dX1_markAskedOfBuyers_39 : decode cX1_markAskedOfBuyers 39 = .ok (.aload_n 0, 1) := by decide +kernel
theorem dX1_markAskedOfBuyers_40 : decode cX1_markAskedOfBuyers 40 = .ok (.invokevirtual 66, 3) := by decide +kernel
theorem dX1_markAskedOfBuyers_43 : decode cX1_markAskedOfBuyers 43 = .ok (.imul, 1) := by decide +kernel
theorem dX1_markAskedOfBuyers_44 : decode cX1_markAskedOfBuyers 44 = .ok (.ireturn, 1) := by decide +kernel
theorem dX1_markAskedOfBuyers_45 : decode cX1_markAskedOfBuyers 45 = .ok (.aload_n 0, 1) := by decide +kernel
theorem dX1_markAskedOfBuyers_46 : decode cX1_markAskedOfBuyers 46 = .ok (.bipush 22, 2) := by decide +kernel
theorem dX1_markAskedOfBuyers_48 : decode cX1_markAskedOfBuyers 48 = .ok (.invokevirtual 40, 3) := by decide +kernel
theorem dX1_markAskedOfBuyers_51 : decode cX1_markAskedOfBuyers 51 = .ok (.aload_n 0, 1) := by decide +kernel
theorem dX1_markAskedOfBuyers_52 : decode cX1_markAskedOfBuyers 52 = .ok (.invokevirtual 66, 3) := by decide +kernel
theorem dX1_markAskedOfBuyers_55 : decode cX1_markAskedOfBuyers 55 = .ok (.sipush 1000, 3) := by decide +kernel
theorem dX1_markAskedOfBuyers_58 : decode cX1_markAskedOfBuyers 58 = .ok (.isub, 1) := by decide +kernel
theorem dX1_markAskedOfBuyers_59 : decode cX1_markAskedOfBuyers 59 = .ok (.ireturn, 1) := by decide +kernel
theorem dX1_markAskedOfBuyers_60 : decode cX1_markAskedOfBuyers 60 = .ok (.aload_n 0, 1) := by decide +kernel
theorem dX1_markAskedOfBuyers_61 : decode cX1_markAskedOfBuyers 61 = .ok (.invokevirtual 66, 3) := by decide +kernel
theorem dX1_markAskedOfBuyers_64 : decode cX1_markAskedOfBuyers 64 = .ok (.ireturn, 1) := by decide +kernel
set_option maxRecDepth 20000 in
theorem ggX1_sizeLent_X1_begin : GoodIn wsX1_sizeLent wsX1_begin := goodIn_r _ [6, 7, 8, 9, 10, 11, 12, 13, 14] (by decide +kernel) (by decide +kernel)
set_option maxRecDepth 20000 in
theorem gX1_sizeLent_X1_begin : GoodIn wsX1_sizeLent (wsV RX1 40 RX1 yX1_begin wsX1_begin) := goodIn_app (goodIn_of _ (by decide +kernel)) ggX1_sizeLent_X1_begin
theorem dX1_sizeLent_0 : decode cX1_sizeLent 0 = .ok (.aload_n 0, 1) := by decide +kernel
theorem dX1_sizeLent_1 : decode cX1_sizeLent 1 = .ok (.bipush 10, 2) := by decide +kernel
theorem dX1_sizeLent_3 : decode cX1_sizeLent 3 = .ok (.invokevirtual 40, 3) := by decide +kernel
theorem dX1_sizeLent_6 : decode cX1_sizeLent 6 = .ok (.aload_n 0, 1) := by decide +kernel
theorem dX1_sizeLent_7 : decode cX1_sizeLent 7 = .ok (.getfield 32, 3) := by decide +kernel
theorem dX1_sizeLent_10 : decode cX1_sizeLent 10 = .ok (.ireturn, 1) := by decide +kernel
set_option maxRecDepth 20000 in
theorem ggX1_sizeOfBuyers_X1_begin : GoodIn wsX1_sizeOfBuyers wsX1_begin := goodIn_r _ [5, 6, 7, 28, 29, 30, 31, 32, 33] (by decide +kernel) (by decide +kernel)
set_option maxRecDepth 20000 in
theorem gX1_sizeOfBuyers_X1_begin : GoodIn wsX1_sizeOfBuyers (wsV RX1 40 RX1 yX1_begin wsX1_begin) := goodIn_app (goodIn_of _ (by decide +kernel)) ggX1_sizeOfBuyers_X1_begin
set_option maxRecDepth 20000 in
theorem ggX1_sizeOfBuyers_X1_sizeLent : GoodIn wsX1_sizeOfBuyers wsX1_sizeLent := goodIn_r _ [11, 12, 1, 2, 3, 4, 5, 6, 7, 28, 29, 30, 31, 32, 33] (by decide +kernel) (by decide +kernel)
set_option maxRecDepth 20000 in
theorem gX1_sizeOfBuyers_X1_sizeLent : GoodIn wsX1_sizeOfBuyers (wsV RX1 69 RX1 yX1_sizeLent wsX1_sizeLent) := goodIn_app (goodIn_of _ (by decide +kernel)) ggX1_sizeOfBuyers_X1_sizeLent
set_option maxRecDepth 20000 in
theorem ggX1_sizeOfBuyers_X1_markAskedOfBuyers : GoodIn wsX1_sizeOfBuyers wsX1_markAskedOfBuyers := goodIn_r _ [16, 17, 1, 2, 3, 4, 5, 6, 7, 18, 19, 20, 21, 22, 23, 24, 25, 26, 27, 28, 29, 30, 31, 32, 33] (by decide +kernel) (by decide +kernel)
set_option maxRecDepth 20000 in
theorem gX1_sizeOfBuyers_X1_markAskedOfBuyers : GoodIn wsX1_sizeOfBuyers (wsV RX1 60 RX1 yX1_markAskedOfBuyers wsX1_markAskedOfBuyers) := goodIn_app (goodIn_of _ (by decide +kernel)) ggX1_sizeOfBuyers_X1_markAskedOfBuyers
theorem dX1_sizeOfBuyers_0 : decode cX1_sizeOfBuyers 0 = .ok (.aload_n 0, 1) := by decide +kernel
theorem dX1_sizeOfBuyers_1 : decode cX1_sizeOfBuyers 1 = .ok (.bipush 11, 2) := by decide +kernel
theorem dX1_sizeOfBuyers_3 : decode cX1_sizeOfBuyers 3 = .ok (.invokevirtual 40, 3) := by decide +kernel
theorem dX1_sizeOfBuyers_6 : decode cX1_sizeOfBuyers 6 = .ok (.aload_n 0, 1) := by decide +kernel
theorem dX1_sizeOfBuyers_7 : decode cX1_sizeOfBuyers 7 = .ok (.invokevirtual 69, 3) := by decide +kernel
theorem dX1_sizeOfBuyers_10 : decode cX1_sizeOfBuyers 10 = .ok (.istore_n 1, 1) := by decide +kernel
theorem dX1_sizeOfBuyers_11 : decode cX1_sizeOfBuyers 11 = .ok (.iload_n 1, 1) := by decide +kernel
theorem dX1_sizeOfBuyers_12 : decode cX1_sizeOfBuyers 12 = .ok (.aload_n 0, 1) := by decide +kernel
theorem dX1_sizeOfBuyers_13 : decode cX1_sizeOfBuyers 13 = .ok (.invokevirtual 60, 3) := by decide +kernel
theorem dX1_sizeOfBuyers_16 : decode cX1_sizeOfBuyers 16 = .ok (.iadd, 1) := by decide +kernel
theorem dX1_sizeOfBuyers_17 : decode cX1_sizeOfBuyers 17 = .ok (.ireturn, 1) := by decide +kernel
set_option maxRecDepth 20000 in
theorem ggX1_sizeOfGoats_X1_begin : GoodIn wsX1_sizeOfGoats wsX1_begin := goodIn_r _ [5, 6, 7, 13, 14, 15, 16, 17, 18] (by decide +kernel) (by decide +kernel)
set_option maxRecDepth 20000 in
theorem gX1_sizeOfGoats_X1_begin : GoodIn wsX1_sizeOfGoats (wsV RX1 40 RX1 yX1_begin wsX1_begin) := goodIn_app (goodIn_of _ (by decide +kernel)) ggX1_sizeOfGoats_X1_begin
set_option maxRecDepth 20000 in
theorem ggX1_sizeOfGoats_X1_sizeLent : GoodIn wsX1_sizeOfGoats wsX1_sizeLent := goodIn_r _ [11, 12, 1, 2, 3, 4, 5, 6, 7, 13, 14, 15, 16, 17, 18] (by decide +kernel) (by decide +kernel)
set_option maxRecDepth 20000 in
theorem gX1_sizeOfGoats_X1_sizeLent : GoodIn wsX1_sizeOfGoats (wsV RX1 69 RX1 yX1_sizeLent wsX1_sizeLent) := goodIn_app (goodIn_of _ (by decide +kernel)) ggX1_sizeOfGoats_X1_sizeLent
theorem dX1_sizeOfGoats_0 : decode cX1_sizeOfGoats 0 = .ok (.aload_n 0, 1) := by decide +kernel
theorem dX1_sizeOfGoats_1 : decode cX1_sizeOfGoats 1 = .ok (.bipush 13, 2) := by decide +kernel
theorem dX1_sizeOfGoats_3 : decode cX1_sizeOfGoats 3 = .ok (.invokevirtual 40, 3) := by decide +kernel
theorem dX1_sizeOfGoats_6 : decode cX1_sizeOfGoats 6 = .ok (.aload_n 0, 1) := by decide +kernel
theorem dX1_sizeOfGoats_7 : decode cX1_sizeOfGoats 7 = .ok (.invokevirtual 69, 3) := by decide +kernel
theorem dX1_sizeOfGoats_10 : decode cX1_sizeOfGoats 10 = .ok (.bipush 100, 2) := by decide +kernel
theorem dX1_sizeOfGoats_12 : decode cX1_sizeOfGoats 12 = .ok (.isub, 1) := by decide +kernel
theorem dX1_sizeOfGoats_13 : decode cX1_sizeOfGoats 13 = .ok (.ireturn, 1) := by decide +kernel
set_option maxRecDepth 20000 in
theorem ggX1_markLent_X1_begin : GoodIn wsX1_markLent wsX1_begin := goodIn_r _ [6, 7, 8, 9, 10, 11, 12, 13, 14] (by decide +kernel) (by decide +kernel)
set_option maxRecDepth 20000 in
theorem gX1_markLent_X1_begin : GoodIn wsX1_markLent (wsV RX1 40 RX1 yX1_begin wsX1_begin) := goodIn_app (goodIn_of _ (by decide +kernel)) ggX1_markLent_X1_begin
theorem dX1_markLent_0 : decode cX1_markLent 0 = .ok (.aload_n 0, 1) := by decide +kernel
theorem dX1_markLent_1 : decode cX1_markLent 1 = .ok (.bipush 20, 2) := by decide +kernel
theorem dX1_markLent_3 : decode cX1_markLent 3 = .ok (.invokevirtual 40, 3) := by decide +kernel
theorem dX1_markLent_6 : decode cX1_markLent 6 = .ok (.aload_n 0, 1) := by decide +kernel
theorem dX1_markLent_7 : decode cX1_markLent 7 = .ok (.getfield 17, 3) := by decide +kernel
theorem dX1_markLent_10 : decode cX1_markLent 10 = .ok (.ireturn, 1) := by decide +kernel
set_option maxRecDepth 20000 in
theorem ggX1_markOfBuyers_X1_begin : GoodIn wsX1_markOfBuyers wsX1_begin := goodIn_r _ [6, 7, 8, 14, 15, 16, 17, 18, 19] (by decide +kernel) (by decide +kernel)
set_option maxRecDepth 20000 in
theorem gX1_markOfBuyers_X1_begin : GoodIn wsX1_markOfBuyers (wsV RX1 40 RX1 yX1_begin wsX1_begin) := goodIn_app (goodIn_of _ (by decide +kernel)) ggX1_markOfBuyers_X1_begin
set_option maxRecDepth 20000 in
theorem ggX1_markOfBuyers_X1_markLent : GoodIn wsX1_markOfBuyers wsX1_markLent := goodIn_r _ [12, 13, 2, 3, 4, 5, 6, 7, 8, 14, 15, 16, 17, 18, 19] (by decide +kernel) (by decide +kernel)
set_option maxRecDepth 20000 in
theorem gX1_markOfBuyers_X1_markLent : GoodIn wsX1_markOfBuyers (wsV RX1 72 RX1 yX1_markLent wsX1_markLent) := goodIn_app (goodIn_of _ (by decide +kernel)) ggX1_markOfBuyers_X1_markLent
theorem dX1_markOfBuyers_0 : decode cX1_markOfBuyers 0 = .ok (.aload_n 0, 1) := by decide +kernel
theorem dX1_markOfBuyers_1 : decode cX1_markOfBuyers 1 = .ok (.bipush 21, 2) := by decide +kernel
theorem dX1_markOfBuyers_3 : decode cX1_markOfBuyers 3 = .ok (.invokevirtual 40, 3) := by decide +kernel
theorem dX1_markOfBuyers_6 : decode cX1_markOfBuyers 6 = .ok (.aload_n 0, 1) := by decide +kernel
theorem dX1_markOfBuyers_7 : decode cX1_markOfBuyers 7 = .ok (.invokevirtual 72, 3) := by decide +kernel
theorem dX1_markOfBuyers_10 : decode cX1_markOfBuyers 10 = .ok (.aload_n 0, 1) := by decide +kernel
theorem dX1_markOfBuyers_11 : decode cX1_markOfBuyers 11 = .ok (.getfield 37, 3) := by decide +kernel
theorem dX1_markOfBuyers_14 : decode cX1_markOfBuyers 14 = .ok (.iadd, 1) := by decide +kernel
theorem dX1_markOfBuyers_15 : decode cX1_markOfBuyers 15 = .ok (.ireturn, 1) := by decide +kernel
set_option maxRecDepth 20000 in
theorem ggX1_markOfGoats_X1_begin : GoodIn wsX1_markOfGoats wsX1_begin := goodIn_r _ [5, 6, 7, 27, 28, 29, 30, 31, 32] (by decide +kernel) (by decide +kernel)
set_option maxRecDepth 20000 in
theorem gX1_markOfGoats_X1_begin : GoodIn wsX1_markOfGoats (wsV RX1 40 RX1 yX1_begin wsX1_begin) := goodIn_app (goodIn_of _ (by decide +kernel)) ggX1_markOfGoats_X1_begin
set_option maxRecDepth 20000 in
theorem ggX1_markOfGoats_X1_markLent : GoodIn wsX1_markOfGoats wsX1_markLent := goodIn_r _ [11, 12, 1, 2, 3, 4, 5, 6, 7, 27, 28, 29, 30, 31, 32] (by decide +kernel) (by decide +kernel)
set_option maxRecDepth 20000 in
theorem gX1_markOfGoats_X1_markLent : GoodIn wsX1_markOfGoats (wsV RX1 72 RX1 yX1_markLent wsX1_markLent) := goodIn_app (goodIn_of _ (by decide +kernel)) ggX1_markOfGoats_X1_markLent
set_option maxRecDepth 20000 in
theorem ggX1_markOfGoats_X1_sizeAskedOfGoats : GoodIn wsX1_markOfGoats wsX1_sizeAskedOfGoats := goodIn_r _ [16, 17, 1, 2, 3, 4, 5, 6, 7, 18, 19, 20, 21, 22, 23, 24, 25, 26, 27, 28, 29, 30, 31, 32] (by decide +kernel) (by decide +kernel)
set_option maxRecDepth 20000 in
theorem gX1_markOfGoats_X1_sizeAskedOfGoats : GoodIn wsX1_markOfGoats (wsV RX1 48 RX1 yX1_sizeAskedOfGoats wsX1_sizeAskedOfGoats) := goodIn_app (goodIn_of _ (by decide +kernel)) ggX1_markOfGoats_X1_sizeAskedOfGoats
theorem dX1_markOfGoats_0 : decode cX1_markOfGoats 0 = .ok (.aload_n 0, 1) := by decide +kernel
theorem dX1_markOfGoats_1 : decode cX1_markOfGoats 1 = .ok (.bipush 23, 2) := by decide +kernel
theorem dX1_markOfGoats_3 : decode cX1_markOfGoats 3 = .ok (.invokevirtual 40, 3) := by decide +kernel
theorem dX1_markOfGoats_6 : decode cX1_markOfGoats 6 = .ok (.aload_n 0, 1) := by decide +kernel
theorem dX1_markOfGoats_7 : decode cX1_markOfGoats 7 = .ok (.invokevirtual 72, 3) := by decide +kernel
theorem dX1_markOfGoats_10 : decode cX1_markOfGoats 10 = .ok (.istore_n 1, 1) := by decide +kernel
theorem dX1_markOfGoats_11 : decode cX1_markOfGoats 11 = .ok (.iload_n 1, 1) := by decide +kernel
theorem dX1_markOfGoats_12 : decode cX1_markOfGoats 12 = .ok (.aload_n 0, 1) := by decide +kernel
theorem dX1_markOfGoats_13 : decode cX1_markOfGoats 13 = .ok (.invokevirtual 48, 3) := by decide +kernel
theorem dX1_markOfGoats_16 : decode cX1_markOfGoats 16 = .ok (.isub, 1) := by decide +kernel
theorem dX1_markOfGoats_17 : decode cX1_markOfGoats 17 = .ok (.ireturn, 1) := by decide +kernel
theorem dX1_begin_0 : decode cX1_begin 0 = .ok (.aload_n 0, 1) := by decide +kernel
theorem dX1_begin_1 : decode cX1_begin 1 = .ok (.getfield 13, 3) := by decide +kernel
theorem dX1_begin_4 : decode cX1_begin 4 = .ok (.bipush 16, 2) := by decide +kernel
theorem dX1_begin_6 : decode cX1_begin 6 = .ok (.if_icmp .ge 23, 3) := by decide +kernel
theorem dX1_begin_9 : decode cX1_begin 9 = .ok (.aload_n 0, 1) := by decide +kernel
theorem dX1_begin_10 : decode cX1_begin 10 = .ok (.getfield 9, 3) := by decide +kernel
theorem dX1_begin_13 : decode cX1_begin 13 = .ok (.aload_n 0, 1) := by decide +kernel
theorem dX1_begin_14 : decode cX1_begin 14 = .ok (.getfield 13, 3) := by decide +kernel
theorem dX1_begin_17 : decode cX1_begin 17 = .ok (.iload_n 1, 1) := by decide +kernel
theorem dX1_begin_18 : decode cX1_begin 18 = .ok (.iastore, 1) := by decide +kernel
theorem dX1_begin_19 : decode cX1_begin 19 = .ok (.aload_n 0, 1) := by decide +kernel
theorem dX1_begin_20 : decode cX1_begin 20 = .ok (.dup, 1) := by decide +kernel
theorem dX1_begin_21 : decode cX1_begin 21 = .ok (.getfield 13, 3) := by decide +kernel
theorem dX1_begin_24 : decode cX1_begin 24 = .ok (.iconst 1, 1) := by decide +kernel
theorem dX1_begin_25 : decode cX1_begin 25 = .ok (.iadd, 1) := by decide +kernel
theorem dX1_begin_26 : decode cX1_begin 26 = .ok (.putfield 13, 3) := by decide +kernel
theorem dX1_begin_29 : decode cX1_begin 29 = .ok (.return_, 1) := by decide +kernel
theorem dX2_init_0 : decode cX2_init 0 = .ok (.aload_n 0, 1) := by decide +kernel
theorem dX2_init_1 : decode cX2_init 1 = .ok (.invokespecial 3, 3) := by decide +kernel
theorem dX2_init_4 : decode cX2_init 4 = .ok (.aload_n 0, 1) := by decide +kernel
theorem dX2_init_5 : decode cX2_init 5 = .ok (.bipush 100, 2) := by decide +kernel
theorem dX2_init_7 : decode cX2_init 7 = .ok (.newarray .int, 2) := by decide +kernel
theorem dX2_init_9 : decode cX2_init 9 = .ok (.putfield 9, 3) := by decide +kernel
theorem dX2_init_12 : decode cX2_init 12 = .ok (.aload_n 0, 1) := by decide +kernel
theorem dX2_init_13 : decode cX2_init 13 = .ok (.bipush 100, 2) := by decide +kernel
theorem dX2_init_15 : decode cX2_init 15 = .ok (.newarray .int, 2) := by decide +kernel
theorem dX2_init_17 : decode cX2_init 17 = .ok (.putfield 15, 3) := by decide +kernel
theorem dX2_init_20 : decode cX2_init 20 = .ok (.return_, 1) := by decide +kernel
theorem dX2_heights_0 : decode cX2_heights 0 = .ok (.aload_n 0, 1) := by decide +kernel
theorem dX2_heights_1 : decode cX2_heights 1 = .ok (.getfield 9, 3) := by decide +kernel
theorem dX2_heights_4 : decode cX2_heights 4 = .ok (.aload_n 0, 1) := by decide +kernel
theorem dX2_heights_5 : decode cX2_heights 5 = .ok (.getfield 18, 3) := by decide +kernel
theorem dX2_heights_8 : decode cX2_heights 8 = .ok (.iaload, 1) := by decide +kernel
theorem dX2_heights_9 : decode cX2_heights 9 = .ok (.ireturn, 1) := by decide +kernel
theorem dX2_cells_0 : decode cX2_cells 0 = .ok (.aload_n 0, 1) := by decide +kernel
theorem dX2_cells_1 : decode cX2_cells 1 = .ok (.getfield 15, 3) := by decide +kernel
theorem dX2_cells_4 : decode cX2_cells 4 = .ok (.aload_n 0, 1) := by decide +kernel
theorem dX2_cells_5 : decode cX2_cells 5 = .ok (.getfield 18, 3) := by decide +kernel
theorem dX2_cells_8 : decode cX2_cells 8 = .ok (.iaload, 1) := by decide +kernel
theorem dX2_cells_9 : decode cX2_cells 9 = .ok (.ireturn, 1) := by decide +kernel
set_option maxRecDepth 20000 in
theorem ggX2_fill_X3_purse : GoodIn wsX2_fill wsX3_purse := goodIn_r _ [15, 16, 71, 72, 73, 74, 75, 76, 77, 78, 79, 80, 81] (by decide +kernel) (by decide +kernel)
set_option maxRecDepth 20000 in
theorem gX2_fill_X3_purse : GoodIn wsX2_fill (wsV RX2 22 RX3 yX3_purse wsX3_purse) := goodIn_app (goodIn_of _ (by decide +kernel)) ggX2_fill_X3_purse
set_option maxRecDepth 20000 in
theorem ggX2_fill_X3_freeFor : GoodIn wsX2_fill wsX3_freeFor := goodIn_r _ [20, 21, 22, 23, 14, 24, 25, 26, 27, 28, 29, 30, 31, 32, 33, 34, 35, 36, 37, 38, 39, 40, 41, 42, 43, 44, 45, 46, 71, 72, 73, 74, 75, 76, 77, 78, 79, 80, 81] (by decide +kernel) (by decide +kernel)
set_option maxRecDepth 20000 in
theorem gX2_fill_X3_freeFor : GoodIn wsX2_fill (wsV RX2 37 RX3 yX3_freeFor wsX3_freeFor) := goodIn_app (goodIn_of _ (by decide +kernel)) ggX2_fill_X3_freeFor
set_option maxRecDepth 20000 in
theorem ggX2_fill_X3_costTo : GoodIn wsX2_fill wsX3_costTo := goodIn_r _ [50, 30, 51, 52, 53, 14, 54, 55, 35, 56, 57, 45, 58, 71, 72, 73, 74, 75, 76, 77, 78, 79, 80, 81] (by decide +kernel) (by decide +kernel)
set_option maxRecDepth 20000 in
theorem gX2_fill_X3_costTo : GoodIn wsX2_fill (wsV RX2 40 RX3 yX3_costTo wsX3_costTo) := goodIn_app (goodIn_of _ (by decide +kernel)) ggX2_fill_X3_costTo
set_option maxRecDepth 20000 in
theorem ggX2_fill_X3_height : GoodIn wsX2_fill wsX3_height := goodIn_r _ [62, 35, 71, 72, 73, 74, 75, 76, 77, 78, 79, 80, 81] (by decide +kernel) (by decide +kernel)
set_option maxRecDepth 20000 in
theorem gX2_fill_X3_height : GoodIn wsX2_fill (wsV RX2 43 RX3 yX3_height wsX3_height) := goodIn_app (goodIn_of _ (by decide +kernel)) ggX2_fill_X3_height
set_option maxRecDepth 20000 in
theorem ggX2_fill_X2_offer : GoodIn wsX2_fill wsX2_offer := goodIn_r _ [67, 8, 9, 68, 69, 70] (by decide +kernel) (by decide +kernel)
set_option maxRecDepth 20000 in
theorem gX2_fill_X2_offer : GoodIn wsX2_fill (wsV RX2 46 RX2 yX2_offer wsX2_offer) := goodIn_app (goodIn_of _ (by decide +kernel)) ggX2_fill_X2_offer
theorem dX2_fill_0 : decode cX2_fill 0 = .ok (.iconst 0, 1) := by decide +kernel
theorem dX2_fill_1 : decode cX2_fill 1 = .ok (.bipush 99, 2) := by decide +kernel
theorem dX2_fill_3 : decode cX2_fill 3 = .ok (.aload_n 1, 1) := by decide +kernel
theorem dX2_fill_4 : decode cX2_fill 4 = .ok (.iload_n 2, 1) := by decide +kernel
theorem dX2_fill_5 : decode cX2_fill 5 = .ok (.invokevirtual 22, 3) := by decide +kernel
theorem dX2_fill_8 : decode cX2_fill 8 = .ok (.invokestatic 28, 3) := by decide +kernel
theorem dX2_fill_11 : decode cX2_fill 11 = .ok (.invokestatic 34, 3) := by decide +kernel
theorem dX2_fill_14 : decode cX2_fill 14 = .ok (.istore_n 3, 1) := by decide +kernel
theorem dX2_fill_15 : decode cX2_fill 15 = .ok (.iconst 0, 1) := by decide +kernel
theorem dX2_fill_16 : decode cX2_fill 16 = .ok (.istore 4, 2) := by decide +kernel
theorem dX2_fill_18 : decode cX2_fill 18 = .ok (.iload 4, 2) := by decide +kernel
theorem dX2_fill_20 : decode cX2_fill 20 = .ok (.bipush 99, 2) := by decide +kernel
theorem dX2_fill_22 : decode cX2_fill 22 = .ok (.if_icmp .gt 34, 3) := by decide +kernel
theorem dX2_fill_25 : decode cX2_fill 25 = .ok (.aload_n 0, 1) := by decide +kernel
theorem dX2_fill_26 : decode cX2_fill 26 = .ok (.getfield 9, 3) := by decide +kernel
theorem dX2_fill_29 : decode cX2_fill 29 = .ok (.iload 4, 2) := by decide +kernel
theorem dX2_fill_31 : decode cX2_fill 31 = .ok (.iload 4, 2) := by decide +kernel
theorem dX2_fill_33 : decode cX2_fill 33 = .ok (.ifCond .ne 7, 3) := by decide +kernel
theorem dX2_fill_36 : decode cX2_fill 36 = .ok (.iconst 0, 1) := by decide +kernel
theorem dX2_fill_37 : decode cX2_fill 37 = .ok (.goto 4, 3) := by decide +kernel
theorem dX2_fill_40 : decode cX2_fill 40 = .ok (.iconst (-1), 1) := by decide +kernel
theorem dX2_fill_41 : decode cX2_fill 41 = .ok (.iastore, 1) := by decide +kernel
theorem dX2_fill_42 : decode cX2_fill 42 = .ok (.aload_n 0, 1) := by decide +kernel
theorem dX2_fill_43 : decode cX2_fill 43 = .ok (.getfield 15, 3) := by decide +kernel
theorem dX2_fill_46 : decode cX2_fill 46 = .ok (.iload 4, 2) := by decide +kernel
theorem dX2_fill_48 : decode cX2_fill 48 = .ok (.iconst 0, 1) := by decide +kernel
theorem dX2_fill_49 : decode cX2_fill 49 = .ok (.iastore, 1) := by decide +kernel
theorem dX2_fill_50 : decode cX2_fill 50 = .ok (.iinc 4 1, 3) := by decide +kernel
theorem dX2_fill_53 : decode cX2_fill 53 = .ok (.goto (-35), 3) := by decide +kernel
theorem dX2_fill_56 : decode cX2_fill 56 = .ok (.aload_n 1, 1) := by decide +kernel
theorem dX2_fill_57 : decode cX2_fill 57 = .ok (.iload_n 2, 1) := by decide +kernel
theorem dX2_fill_58 : decode cX2_fill 58 = .ok (.invokevirtual 37, 3) := by decide +kernel
theorem dX2_fill_61 : decode cX2_fill 61 = .ok (.istore 4, 2) := by decide +kernel
theorem dX2_fill_63 : decode cX2_fill 63 = .ok (.iconst 0, 1) := by decide +kernel
theorem dX2_fill_64 : decode cX2_fill 64 = .ok (.istore 5, 2) := by decide +kernel
theorem dX2_fill_66 : decode cX2_fill 66 = .ok (.iconst 0, 1) := by decide +kernel
theorem dX2_fill_67 : decode cX2_fill 67 = .ok (.istore 6, 2) := by decide +kernel
theorem dX2_fill_69 : decode cX2_fill 69 = .ok (.iload 6, 2) := by decide +kernel
theorem dX2_fill_71 : decode cX2_fill 71 = .ok (.bipush 15, 2) := by decide +kernel
theorem dX2_fill_73 : decode cX2_fill 73 = .ok (.if_icmp .ge 57, 3) := by decide +kernel
theorem dX2_fill_76 : decode cX2_fill 76 = .ok (.iload 4, 2) := by decide +kernel
theorem dX2_fill_78 : decode cX2_fill 78 = .ok (.iconst 1, 1) := by decide +kernel
theorem dX2_fill_79 : decode cX2_fill 79 = .ok (.iload 6, 2) := by decide +kernel
theorem dX2_fill_81 : decode cX2_fill 81 = .ok (.ishl, 1) := by decide +kernel
theorem dX2_fill_82 : decode cX2_fill 82 = .ok (.iand, 1) := by decide +kernel
theorem dX2_fill_83 : decode cX2_fill 83 = .ok (.ifCond .eq 41, 3) := by decide +kernel
theorem dX2_fill_86 : decode cX2_fill 86 = .ok (.aload_n 1, 1) := by decide +kernel
theorem dX2_fill_87 : decode cX2_fill 87 = .ok (.iload_n 2, 1) := by decide +kernel
theorem dX2_fill_88 : decode cX2_fill 88 = .ok (.iload 6, 2) := by decide +kernel
theorem dX2_fill_90 : decode cX2_fill 90 = .ok (.invokevirtual 40, 3) := by decide +kernel
theorem dX2_fill_93 : decode cX2_fill 93 = .ok (.istore 7, 2) := by decide +kernel
theorem dX2_fill_95 : decode cX2_fill 95 = .ok (.iload_n 3, 1) := by decide +kernel
theorem dX2_fill_96 : decode cX2_fill 96 = .ok (.iload 5, 2) := by decide +kernel
theorem dX2_fill_98 : decode cX2_fill 98 = .ok (.iload 7, 2) := by decide +kernel
theorem dX2_fill_100 : decode cX2_fill 100 = .ok (.iadd, 1) := by decide +kernel
theorem dX2_fill_101 : decode cX2_fill 101 = .ok (.invokestatic 28, 3) := by decide +kernel
theorem dX2_fill_104 : decode cX2_fill 104 = .ok (.istore 5, 2) := by decide +kernel
theorem dX2_fill_106 : decode cX2_fill 106 = .ok (.aload_n 0, 1) := by decide +kernel
theorem dX2_fill_107 : decode cX2_fill 107 = .ok (.iconst 1, 1) := by decide +kernel
theorem dX2_fill_108 : decode cX2_fill 108 = .ok (.iload 6, 2) := by decide +kernel
theorem dX2_fill_110 : decode cX2_fill 110 = .ok (.ishl, 1) := by decide +kernel
theorem dX2_fill_111 : decode cX2_fill 111 = .ok (.iload 7, 2) := by decide +kernel
theorem dX2_fill_113 : decode cX2_fill 113 = .ok (.aload_n 1, 1) := by decide +kernel
theorem dX2_fill_114 : decode cX2_fill 114 = .ok (.iload 6, 2) := by decide +kernel
theorem dX2_fill_116 : decode cX2_fill 116 = .ok (.invokevirtual 43, 3) := by decide +kernel
theorem dX2_fill_119 : decode cX2_fill 119 = .ok (.iload 5, 2) := by decide +kernel
theorem dX2_fill_121 : decode cX2_fill 121 = .ok (.invokevirtual 46, 3) := by decide +kernel
theorem dX2_fill_124 : decode cX2_fill 124 = .ok (.iinc 6 1, 3) := by decide +kernel
theorem dX2_fill_127 : decode cX2_fill 127 = .ok (.goto (-58), 3) := by decide +kernel
theorem dX2_fill_130 : decode cX2_fill 130 = .ok (.aload_n 0, 1) := by decide +kernel
theorem dX2_fill_131 : decode cX2_fill 131 = .ok (.iconst 0, 1) := by decide +kernel
theorem dX2_fill_132 : decode cX2_fill 132 = .ok (.putfield 18, 3) := by decide +kernel
theorem dX2_fill_135 : decode cX2_fill 135 = .ok (.iconst 1, 1) := by decide +kernel
theorem dX2_fill_136 : decode cX2_fill 136 = .ok (.istore 6, 2) := by decide +kernel
theorem dX2_fill_138 : decode cX2_fill 138 = .ok (.iload 6, 2) := by decide +kernel
theorem dX2_fill_140 : decode cX2_fill 140 = .ok (.iload 5, 2) := by decide +kernel
theorem dX2_fill_142 : decode cX2_fill 142 = .ok (.if_icmp .gt 34, 3) := by decide +kernel
theorem dX2_fill_145 : decode cX2_fill 145 = .ok (.aload_n 0, 1) := by decide +kernel
theorem dX2_fill_146 : decode cX2_fill 146 = .ok (.getfield 9, 3) := by decide +kernel
theorem dX2_fill_149 : decode cX2_fill 149 = .ok (.iload 6, 2) := by decide +kernel
theorem dX2_fill_151 : decode cX2_fill 151 = .ok (.iaload, 1) := by decide +kernel
theorem dX2_fill_152 : decode cX2_fill 152 = .ok (.aload_n 0, 1) := by decide +kernel
theorem dX2_fill_153 : decode cX2_fill 153 = .ok (.getfield 9, 3) := by decide +kernel
theorem dX2_fill_156 : decode cX2_fill 156 = .ok (.aload_n 0, 1) := by decide +kernel
theorem dX2_fill_157 : decode cX2_fill 157 = .ok (.getfield 18, 3) := by decide +kernel
theorem dX2_fill_160 : decode cX2_fill 160 = .ok (.iaload, 1) := by decide +kernel
theorem dX2_fill_161 : decode cX2_fill 161 = .ok (.if_icmp .le 9, 3) := by decide +kernel
theorem dX2_fill_164 : decode cX2_fill 164 = .ok (.aload_n 0, 1) := by decide +kernel
theorem dX2_fill_165 : decode cX2_fill 165 = .ok (.iload 6, 2) := by decide +kernel
theorem dX2_fill_167 : decode cX2_fill 167 = .ok (.putfield 18, 3) := by decide +kernel
theorem dX2_fill_170 : decode cX2_fill 170 = .ok (.iinc 6 1, 3) := by decide +kernel
theorem dX2_fill_173 : decode cX2_fill 173 = .ok (.goto (-35), 3) := by decide +kernel
theorem dX2_fill_176 : decode cX2_fill 176 = .ok (.return_, 1) := by decide +kernel
theorem dX2_offer_0 : decode cX2_offer 0 = .ok (.iload 4, 2) := by decide +kernel
theorem dX2_offer_2 : decode cX2_offer 2 = .ok (.istore 5, 2) := by decide +kernel
theorem dX2_offer_4 : decode cX2_offer 4 = .ok (.iload 5, 2) := by decide +kernel
theorem dX2_offer_6 : decode cX2_offer 6 = .ok (.iload_n 2, 1) := by decide +kernel
theorem dX2_offer_7 : decode cX2_offer 7 = .ok (.if_icmp .lt 80, 3) := by decide +kernel
theorem dX2_offer_10 : decode cX2_offer 10 = .ok (.iload_n 2, 1) := by decide +kernel
theorem dX2_offer_11 : decode cX2_offer 11 = .ok (.ifCond .lt 76, 3) := by decide +kernel
theorem dX2_offer_14 : decode cX2_offer 14 = .ok (.iload 5, 2) := by decide +kernel
theorem dX2_offer_16 : decode cX2_offer 16 = .ok (.iload_n 2, 1) := by decide +kernel
theorem dX2_offer_17 : decode cX2_offer 17 = .ok (.isub, 1) := by decide +kernel
theorem dX2_offer_18 : decode cX2_offer 18 = .ok (.istore 6, 2) := by decide +kernel
theorem dX2_offer_20 : decode cX2_offer 20 = .ok (.aload_n 0, 1) := by decide +kernel
theorem dX2_offer_21 : decode cX2_offer 21 = .ok (.getfield 9, 3) := by decide +kernel
theorem dX2_offer_24 : decode cX2_offer 24 = .ok (.iload 6, 2) := by decide +kernel
theorem dX2_offer_26 : decode cX2_offer 26 = .ok (.iaload, 1) := by decide +kernel
theorem dX2_offer_27 : decode cX2_offer 27 = .ok (.ifCond .lt 54, 3) := by decide +kernel
theorem dX2_offer_30 : decode cX2_offer 30 = .ok (.aload_n 0, 1) := by decide +kernel
theorem dX2_offer_31 : decode cX2_offer 31 = .ok (.getfield 9, 3) := by decide +kernel
theorem dX2_offer_34 : decode cX2_offer 34 = .ok (.iload 6, 2) := by decide +kernel
theorem dX2_offer_36 : decode cX2_offer 36 = .ok (.iaload, 1) := by decide +kernel
theorem dX2_offer_37 : decode cX2_offer 37 = .ok (.iload_n 3, 1) := by decide +kernel
theorem dX2_offer_38 : decode cX2_offer 38 = .ok (.iadd, 1) := by decide +kernel
theorem dX2_offer_39 : decode cX2_offer 39 = .ok (.aload_n 0, 1) := by decide +kernel
theorem dX2_offer_40 : decode cX2_offer 40 = .ok (.getfield 9, 3) := by decide +kernel
theorem dX2_offer_43 : decode cX2_offer 43 = .ok (.iload 5, 2) := by decide +kernel
theorem dX2_offer_45 : decode cX2_offer 45 = .ok (.iaload, 1) := by decide +kernel
theorem dX2_offer_46 : decode cX2_offer 46 = .ok (.if_icmp .le 35, 3) := by decide +kernel
theorem dX2_offer_49 : decode cX2_offer 49 = .ok (.aload_n 0, 1) := by decide +kernel
theorem dX2_offer_50 : decode cX2_offer 50 = .ok (.getfield 9, 3) := by decide +kernel
theorem dX2_offer_53 : decode cX2_offer 53 = .ok (.iload 5, 2) := by decide +kernel
theorem dX2_offer_55 : decode cX2_offer 55 = .ok (.aload_n 0, 1) := by decide +kernel
theorem dX2_offer_56 : decode cX2_offer 56 = .ok (.getfield 9, 3) := by decide +kernel
theorem dX2_offer_59 : decode cX2_offer 59 = .ok (.iload 6, 2) := by decide +kernel
theorem dX2_offer_61 : decode cX2_offer 61 = .ok (.iaload, 1) := by decide +kernel
theorem dX2_offer_62 : decode cX2_offer 62 = .ok (.iload_n 3, 1) := by decide +kernel
theorem dX2_offer_63 : decode cX2_offer 63 = .ok (.iadd, 1) := by decide +kernel
theorem dX2_offer_64 : decode cX2_offer 64 = .ok (.iastore, 1) := by decide +kernel
theorem dX2_offer_65 : decode cX2_offer 65 = .ok (.aload_n 0, 1) := by decide +kernel
theorem dX2_offer_66 : decode cX2_offer 66 = .ok (.getfield 15, 3) := by decide +kernel
theorem dX2_offer_69 : decode cX2_offer 69 = .ok (.iload 5, 2) := by decide +kernel
theorem dX2_offer_71 : decode cX2_offer 71 = .ok (.aload_n 0, 1) := by decide +kernel
theorem dX2_offer_72 : decode cX2_offer 72 = .ok (.getfield 15, 3) := by decide +kernel
theorem dX2_offer_75 : decode cX2_offer 75 = .ok (.iload 6, 2) := by decide +kernel
theorem dX2_offer_77 : decode cX2_offer 77 = .ok (.iaload, 1) := by decide +kernel
theorem dX2_offer_78 : decode cX2_offer 78 = .ok (.iload_n 1, 1) := by decide +kernel
theorem dX2_offer_79 : decode cX2_offer 79 = .ok (.ior, 1) := by decide +kernel
theorem dX2_offer_80 : decode cX2_offer 80 = .ok (.iastore, 1) := by decide +kernel
theorem dX2_offer_81 : decode cX2_offer 81 = .ok (.iinc 5 (-1), 3) := by decide +kernel
theorem dX2_offer_84 : decode cX2_offer 84 = .ok (.goto (-80), 3) := by decide +kernel
theorem dX2_offer_87 : decode cX2_offer 87 = .ok (.return_, 1) := by decide +kernel
set_option maxRecDepth 20000 in
theorem ggX3_init_X3_leaveAll : GoodIn wsX3_init wsX3_leaveAll := goodIn_r _ [14, 6, 15, 16, 17, 18, 19, 20, 21, 22, 23, 24, 25] (by decide +kernel) (by decide +kernel)
set_option maxRecDepth 20000 in
theorem gX3_init_X3_leaveAll : GoodIn wsX3_init (wsV RX3 27 RX3 yX3_leaveAll wsX3_leaveAll) := goodIn_app (goodIn_of _ (by decide +kernel)) ggX3_init_X3_leaveAll
theorem dX3_init_0 : decode cX3_init 0 = .ok (.aload_n 0, 1) := by decide +kernel
theorem dX3_init_1 : decode cX3_init 1 = .ok (.invokespecial 3, 3) := by decide +kernel
theorem dX3_init_4 : decode cX3_init 4 = .ok (.aload_n 0, 1) := by decide +kernel
theorem dX3_init_5 : decode cX3_init 5 = .ok (.bipush 15, 2) := by decide +kernel
theorem dX3_init_7 : decode cX3_init 7 = .ok (.newarray .int, 2) := by decide +kernel
theorem dX3_init_9 : decode cX3_init 9 = .ok (.putfield 9, 3) := by decide +kernel
theorem dX3_init_12 : decode cX3_init 12 = .ok (.aload_n 0, 1) := by decide +kernel
theorem dX3_init_13 : decode cX3_init 13 = .ok (.bipush 15, 2) := by decide +kernel
theorem dX3_init_15 : decode cX3_init 15 = .ok (.newarray .int, 2) := by decide +kernel
theorem dX3_init_17 : decode cX3_init 17 = .ok (.putfield 15, 3) := by decide +kernel
theorem dX3_init_20 : decode cX3_init 20 = .ok (.aload_n 0, 1) := by decide +kernel
theorem dX3_init_21 : decode cX3_init 21 = .ok (.iconst 5, 1) := by decide +kernel
theorem dX3_init_22 : decode cX3_init 22 = .ok (.newarray .int, 2) := by decide +kernel
theorem dX3_init_24 : decode cX3_init 24 = .ok (.putfield 18, 3) := by decide +kernel
theorem dX3_init_27 : decode cX3_init 27 = .ok (.aload_n 0, 1) := by decide +kernel
theorem dX3_init_28 : decode cX3_init 28 = .ok (.iconst 5, 1) := by decide +kernel
theorem dX3_init_29 : decode cX3_init 29 = .ok (.newarray .int, 2) := by decide +kernel
theorem dX3_init_31 : decode cX3_init 31 = .ok (.putfield 21, 3) := by decide +kernel
theorem dX3_init_34 : decode cX3_init 34 = .ok (.aload_n 0, 1) := by decide +kernel
theorem dX3_init_35 : decode cX3_init 35 = .ok (.iconst 5, 1) := by decide +kernel
theorem dX3_init_36 : decode cX3_init 36 = .ok (.newarray .int, 2) := by decide +kernel
theorem dX3_init_38 : decode cX3_init 38 = .ok (.putfield 24, 3) := by decide +kernel
theorem dX3_init_41 : decode cX3_init 41 = .ok (.aload_n 0, 1) := by decide +kernel
theorem dX3_init_42 : decode cX3_init 42 = .ok (.invokevirtual 27, 3) := by decide +kernel
theorem dX3_init_45 : decode cX3_init 45 = .ok (.return_, 1) := by decide +kernel
theorem dX3_leaveAll_0 : decode cX3_leaveAll 0 = .ok (.iconst 0, 1) := by decide +kernel
theorem dX3_leaveAll_1 : decode cX3_leaveAll 1 = .ok (.istore_n 1, 1) := by decide +kernel
theorem dX3_leaveAll_2 : decode cX3_leaveAll 2 = .ok (.iload_n 1, 1) := by decide +kernel
theorem dX3_leaveAll_3 : decode cX3_leaveAll 3 = .ok (.bipush 15, 2) := by decide +kernel
theorem dX3_leaveAll_5 : decode cX3_leaveAll 5 = .ok (.if_icmp .ge 16, 3) := by decide +kernel
theorem dX3_leaveAll_8 : decode cX3_leaveAll 8 = .ok (.aload_n 0, 1) := by decide +kernel
theorem dX3_leaveAll_9 : decode cX3_leaveAll 9 = .ok (.getfield 15, 3) := by decide +kernel
theorem dX3_leaveAll_12 : decode cX3_leaveAll 12 = .ok (.iload_n 1, 1) := by decide +kernel
theorem dX3_leaveAll_13 : decode cX3_leaveAll 13 = .ok (.iconst (-1), 1) := by decide +kernel
theorem dX3_leaveAll_14 : decode cX3_leaveAll 14 = .ok (.iastore, 1) := by decide +kernel
theorem dX3_leaveAll_15 : decode cX3_leaveAll 15 = .ok (.iinc 1 1, 3) := by decide +kernel
theorem dX3_leaveAll_18 : decode cX3_leaveAll 18 = .ok (.goto (-16), 3) := by decide +kernel
theorem dX3_leaveAll_21 : decode cX3_leaveAll 21 = .ok (.return_, 1) := by decide +kernel
set_option maxRecDepth 20000 in
theorem ggX3_begin_X3_leaveAll : GoodIn wsX3_begin wsX3_leaveAll := goodIn_r _ [8, 9, 10, 11, 12, 13, 14, 15, 16, 17, 18, 19, 20] (by decide +kernel) (by decide +kernel)
set_option maxRecDepth 20000 in
theorem gX3_begin_X3_leaveAll : GoodIn wsX3_begin (wsV RX3 27 RX3 yX3_leaveAll wsX3_leaveAll) := goodIn_app (goodIn_of _ (by decide +kernel)) ggX3_begin_X3_leaveAll
theorem dX3_begin_0 : decode cX3_begin 0 = .ok (.aload_n 0, 1) := by decide +kernel
theorem dX3_begin_1 : decode cX3_begin 1 = .ok (.iconst 0, 1) := by decide +kernel
theorem dX3_begin_2 : decode cX3_begin 2 = .ok (.putfield 30, 3) := by decide +kernel
theorem dX3_begin_5 : decode cX3_begin 5 = .ok (.aload_n 0, 1) := by decide +kernel
theorem dX3_begin_6 : decode cX3_begin 6 = .ok (.iconst 0, 1) := by decide +kernel
theorem dX3_begin_7 : decode cX3_begin 7 = .ok (.putfield 34, 3) := by decide +kernel
theorem dX3_begin_10 : decode cX3_begin 10 = .ok (.aload_n 0, 1) := by decide +kernel
theorem dX3_begin_11 : decode cX3_begin 11 = .ok (.iconst 0, 1) := by decide +kernel
theorem dX3_begin_12 : decode cX3_begin 12 = .ok (.putfield 38, 3) := by decide +kernel
theorem dX3_begin_15 : decode cX3_begin 15 = .ok (.aload_n 0, 1) := by decide +kernel
theorem dX3_begin_16 : decode cX3_begin 16 = .ok (.invokevirtual 27, 3) := by decide +kernel
theorem dX3_begin_19 : decode cX3_begin 19 = .ok (.return_, 1) := by decide +kernel
theorem dX3_tellLaw_0 : decode cX3_tellLaw 0 = .ok (.aload_n 0, 1) := by decide +kernel
theorem dX3_tellLaw_1 : decode cX3_tellLaw 1 = .ok (.iload_n 1, 1) := by decide +kernel
theorem dX3_tellLaw_2 : decode cX3_tellLaw 2 = .ok (.putfield 41, 3) := by decide +kernel
theorem dX3_tellLaw_5 : decode cX3_tellLaw 5 = .ok (.aload_n 0, 1) := by decide +kernel
theorem dX3_tellLaw_6 : decode cX3_tellLaw 6 = .ok (.iload_n 2, 1) := by decide +kernel
theorem dX3_tellLaw_7 : decode cX3_tellLaw 7 = .ok (.putfield 44, 3) := by decide +kernel
theorem dX3_tellLaw_10 : decode cX3_tellLaw 10 = .ok (.aload_n 0, 1) := by decide +kernel
theorem dX3_tellLaw_11 : decode cX3_tellLaw 11 = .ok (.iload_n 3, 1) := by decide +kernel
theorem dX3_tellLaw_12 : decode cX3_tellLaw 12 = .ok (.putfield 47, 3) := by decide +kernel
theorem dX3_tellLaw_15 : decode cX3_tellLaw 15 = .ok (.aload_n 0, 1) := by decide +kernel
theorem dX3_tellLaw_16 : decode cX3_tellLaw 16 = .ok (.iconst 1, 1) := by decide +kernel
theorem dX3_tellLaw_17 : decode cX3_tellLaw 17 = .ok (.putfield 30, 3) := by decide +kernel
theorem dX3_tellLaw_20 : decode cX3_tellLaw 20 = .ok (.return_, 1) := by decide +kernel
theorem dX3_tellHeight_0 : decode cX3_tellHeight 0 = .ok (.aload_n 0, 1) := by decide +kernel
theorem dX3_tellHeight_1 : decode cX3_tellHeight 1 = .ok (.getfield 9, 3) := by decide +kernel
theorem dX3_tellHeight_4 : decode cX3_tellHeight 4 = .ok (.iload_n 1, 1) := by decide +kernel
theorem dX3_tellHeight_5 : decode cX3_tellHeight 5 = .ok (.iload_n 2, 1) := by decide +kernel
theorem dX3_tellHeight_6 : decode cX3_tellHeight 6 = .ok (.iastore, 1) := by decide +kernel
theorem dX3_tellHeight_7 : decode cX3_tellHeight 7 = .ok (.return_, 1) := by decide +kernel
theorem dX3_tellBidder_0 : decode cX3_tellBidder 0 = .ok (.aload_n 0, 1) := by decide +kernel
theorem dX3_tellBidder_1 : decode cX3_tellBidder 1 = .ok (.getfield 38, 3) := by decide +kernel
theorem dX3_tellBidder_4 : decode cX3_tellBidder 4 = .ok (.iconst 5, 1) := by decide +kernel
theorem dX3_tellBidder_5 : decode cX3_tellBidder 5 = .ok (.if_icmp .ge 43, 3) := by decide +kernel
theorem dX3_tellBidder_8 : decode cX3_tellBidder 8 = .ok (.aload_n 0, 1) := by decide +kernel
theorem dX3_tellBidder_9 : decode cX3_tellBidder 9 = .ok (.getfield 18, 3) := by decide +kernel
theorem dX3_tellBidder_12 : decode cX3_tellBidder 12 = .ok (.aload_n 0, 1) := by decide +kernel
theorem dX3_tellBidder_13 : decode cX3_tellBidder 13 = .ok (.getfield 38, 3) := by decide +kernel
theorem dX3_tellBidder_16 : decode cX3_tellBidder 16 = .ok (.iload_n 1, 1) := by decide +kernel
theorem dX3_tellBidder_17 : decode cX3_tellBidder 17 = .ok (.iastore, 1) := by decide +kernel
theorem dX3_tellBidder_18 : decode cX3_tellBidder 18 = .ok (.aload_n 0, 1) := by decide +kernel
theorem dX3_tellBidder_19 : decode cX3_tellBidder 19 = .ok (.getfield 21, 3) := by decide +kernel
theorem dX3_tellBidder_22 : decode cX3_tellBidder 22 = .ok (.aload_n 0, 1) := by decide +kernel
theorem dX3_tellBidder_23 : decode cX3_tellBidder 23 = .ok (.getfield 38, 3) := by decide +kernel
theorem dX3_tellBidder_26 : decode cX3_tellBidder 26 = .ok (.iload_n 2, 1) := by decide +kernel
theorem dX3_tellBidder_27 : decode cX3_tellBidder 27 = .ok (.iastore, 1) := by decide +kernel
theorem dX3_tellBidder_28 : decode cX3_tellBidder 28 = .ok (.aload_n 0, 1) := by decide +kernel
theorem dX3_tellBidder_29 : decode cX3_tellBidder 29 = .ok (.getfield 24, 3) := by decide +kernel
theorem dX3_tellBidder_32 : decode cX3_tellBidder 32 = .ok (.aload_n 0, 1) := by decide +kernel
theorem dX3_tellBidder_33 : decode cX3_tellBidder 33 = .ok (.getfield 38, 3) := by decide +kernel
theorem dX3_tellBidder_36 : decode cX3_tellBidder 36 = .ok (.iload_n 3, 1) := by decide +kernel
theorem dX3_tellBidder_37 : decode cX3_tellBidder 37 = .ok (.iastore, 1) := by decide +kernel
theorem dX3_tellBidder_38 : decode cX3_tellBidder 38 = .ok (.aload_n 0, 1) := by decide +kernel
theorem dX3_tellBidder_39 : decode cX3_tellBidder 39 = .ok (.dup, 1) := by decide +kernel
theorem dX3_tellBidder_40 : decode cX3_tellBidder 40 = .ok (.getfield 38, 3) := by decide +kernel
theorem dX3_tellBidder_43 : decode cX3_tellBidder 43 = .ok (.iconst 1, 1) := by decide +kernel
theorem dX3_tellBidder_44 : decode cX3_tellBidder 44 = .ok (.iadd, 1) := by decide +kernel
theorem dX3_tellBidder_45 : decode cX3_tellBidder 45 = .ok (.putfield 38, 3) := by decide +kernel
theorem dX3_tellBidder_48 : decode cX3_tellBidder 48 = .ok (.return_, 1) := by decide +kernel
theorem dX3_become_0 : decode cX3_become 0 = .ok (.aload_n 0, 1) := by decide +kernel
theorem dX3_become_1 : decode cX3_become 1 = .ok (.aload_n 1, 1) := by decide +kernel
theorem dX3_become_2 : decode cX3_become 2 = .ok (.getfield 30, 3) := by decide +kernel
theorem dX3_become_5 : decode cX3_become 5 = .ok (.putfield 30, 3) := by decide +kernel
theorem dX3_become_8 : decode cX3_become 8 = .ok (.aload_n 0, 1) := by decide +kernel
theorem dX3_become_9 : decode cX3_become 9 = .ok (.aload_n 1, 1) := by decide +kernel
theorem dX3_become_10 : decode cX3_become 10 = .ok (.getfield 41, 3) := by decide +kernel
theorem dX3_become_13 : decode cX3_become 13 = .ok (.putfield 41, 3) := by decide +kernel
theorem dX3_become_16 : decode cX3_become 16 = .ok (.aload_n 0, 1) := by decide +kernel
theorem dX3_become_17 : decode cX3_become 17 = .ok (.aload_n 1, 1) := by decide +kernel
theorem dX3_become_18 : decode cX3_become 18 = .ok (.getfield 44, 3) := by decide +kernel
theorem dX3_become_21 : decode cX3_become 21 = .ok (.putfield 44, 3) := by decide +kernel
theorem dX3_become_24 : decode cX3_become 24 = .ok (.aload_n 0, 1) := by decide +kernel
theorem dX3_become_25 : decode cX3_become 25 = .ok (.aload_n 1, 1) := by decide +kernel
theorem dX3_become_26 : decode cX3_become 26 = .ok (.getfield 47, 3) := by decide +kernel
theorem dX3_become_29 : decode cX3_become 29 = .ok (.putfield 47, 3) := by decide +kernel
theorem dX3_become_32 : decode cX3_become 32 = .ok (.aload_n 0, 1) := by decide +kernel
theorem dX3_become_33 : decode cX3_become 33 = .ok (.aload_n 1, 1) := by decide +kernel
theorem dX3_become_34 : decode cX3_become 34 = .ok (.getfield 34, 3) := by decide +kernel
theorem dX3_become_37 : decode cX3_become 37 = .ok (.putfield 34, 3) := by decide +kernel
theorem dX3_become_40 : decode cX3_become 40 = .ok (.aload_n 0, 1) := by decide +kernel
theorem dX3_become_41 : decode cX3_become 41 = .ok (.aload_n 1, 1) := by decide +kernel
theorem dX3_become_42 : decode cX3_become 42 = .ok (.getfield 38, 3) := by decide +kernel
theorem dX3_become_45 : decode cX3_become 45 = .ok (.putfield 38, 3) := by decide +kernel
theorem dX3_become_48 : decode cX3_become 48 = .ok (.aload_n 1, 1) := by decide +kernel
theorem dX3_become_49 : decode cX3_become 49 = .ok (.getfield 9, 3) := by decide +kernel
theorem dX3_become_52 : decode cX3_become 52 = .ok (.iconst 0, 1) := by decide +kernel
theorem dX3_become_53 : decode cX3_become 53 = .ok (.aload_n 0, 1) := by decide +kernel
theorem dX3_become_54 : decode cX3_become 54 = .ok (.getfield 9, 3) := by decide +kernel
theorem dX3_become_57 : decode cX3_become 57 = .ok (.iconst 0, 1) := by decide +kernel
theorem dX3_become_58 : decode cX3_become 58 = .ok (.bipush 15, 2) := by decide +kernel
theorem dX3_become_60 : decode cX3_become 60 = .ok (.invokestatic 50, 3) := by decide +kernel
theorem dX3_become_63 : decode cX3_become 63 = .ok (.aload_n 1, 1) := by decide +kernel
theorem dX3_become_64 : decode cX3_become 64 = .ok (.getfield 15, 3) := by decide +kernel
theorem dX3_become_67 : decode cX3_become 67 = .ok (.iconst 0, 1) := by decide +kernel
theorem dX3_become_68 : decode cX3_become 68 = .ok (.aload_n 0, 1) := by decide +kernel
theorem dX3_become_69 : decode cX3_become 69 = .ok (.getfield 15, 3) := by decide +kernel
theorem dX3_become_72 : decode cX3_become 72 = .ok (.iconst 0, 1) := by decide +kernel
theorem dX3_become_73 : decode cX3_become 73 = .ok (.bipush 15, 2) := by decide +kernel
theorem dX3_become_75 : decode cX3_become 75 = .ok (.invokestatic 50, 3) := by decide +kernel
theorem dX3_become_78 : decode cX3_become 78 = .ok (.aload_n 1, 1) := by decide +kernel
theorem dX3_become_79 : decode cX3_become 79 = .ok (.getfield 18, 3) := by decide +kernel
theorem dX3_become_82 : decode cX3_become 82 = .ok (.iconst 0, 1) := by decide +kernel
theorem dX3_become_83 : decode cX3_become 83 = .ok (.aload_n 0, 1) := by decide +kernel
theorem dX3_become_84 : decode cX3_become 84 = .ok (.getfield 18, 3) := by decide +kernel
theorem dX3_become_87 : decode cX3_become 87 = .ok (.iconst 0, 1) := by decide +kernel
theorem dX3_become_88 : decode cX3_become 88 = .ok (.iconst 5, 1) := by decide +kernel
theorem dX3_become_89 : decode cX3_become 89 = .ok (.invokestatic 50, 3) := by decide +kernel
theorem dX3_become_92 : decode cX3_become 92 = .ok (.aload_n 1, 1) := by decide +kernel
theorem dX3_become_93 : decode cX3_become 93 = .ok (.getfield 21, 3) := by decide +kernel
theorem dX3_become_96 : decode cX3_become 96 = .ok (.iconst 0, 1) := by decide +kernel
theorem dX3_become_97 : decode cX3_become 97 = .ok (.aload_n 0, 1) := by decide +kernel
theorem dX3_become_98 : decode cX3_become 98 = .ok (.getfield 21, 3) := by decide +kernel
theorem dX3_become_101 : decode cX3_become 101 = .ok (.iconst 0, 1) := by decide +kernel
theorem dX3_become_102 : decode cX3_become 102 = .ok (.iconst 5, 1) := by decide +kernel
theorem dX3_become_103 : decode cX3_become 103 = .ok (.invokestatic 50, 3) := by decide +kernel
theorem dX3_become_106 : decode cX3_become 106 = .ok (.aload_n 1, 1) := by decide +kernel
theorem dX3_become_107 : decode cX3_become 107 = .ok (.getfield 24, 3) := by decide +kernel
theorem dX3_become_110 : decode cX3_become 110 = .ok (.iconst 0, 1) := by decide +kernel
theorem dX3_become_111 : decode cX3_become 111 = .ok (.aload_n 0, 1) := by decide +kernel
theorem dX3_become_112 : decode cX3_become 112 = .ok (.getfield 24, 3) := by decide +kernel
theorem dX3_become_115 : decode cX3_become 115 = .ok (.iconst 0, 1) := by decide +kernel
theorem dX3_become_116 : decode cX3_become 116 = .ok (.iconst 5, 1) := by decide +kernel
theorem dX3_become_117 : decode cX3_become 117 = .ok (.invokestatic 50, 3) := by decide +kernel
theorem dX3_become_120 : decode cX3_become 120 = .ok (.return_, 1) := by decide +kernel
theorem dX3_saveTo_0 : decode cX3_saveTo 0 = .ok (.aload_n 1, 1) := by decide +kernel
theorem dX3_saveTo_1 : decode cX3_saveTo 1 = .ok (.iload_n 2, 1) := by decide +kernel
theorem dX3_saveTo_2 : decode cX3_saveTo 2 = .ok (.aload_n 0, 1) := by decide +kernel
theorem dX3_saveTo_3 : decode cX3_saveTo 3 = .ok (.getfield 34, 3) := by decide +kernel
theorem dX3_saveTo_6 : decode cX3_saveTo 6 = .ok (.iastore, 1) := by decide +kernel
theorem dX3_saveTo_7 : decode cX3_saveTo 7 = .ok (.aload_n 0, 1) := by decide +kernel
theorem dX3_saveTo_8 : decode cX3_saveTo 8 = .ok (.getfield 9, 3) := by decide +kernel
theorem dX3_saveTo_11 : decode cX3_saveTo 11 = .ok (.iconst 0, 1) := by decide +kernel
theorem dX3_saveTo_12 : decode cX3_saveTo 12 = .ok (.aload_n 1, 1) := by decide +kernel
theorem dX3_saveTo_13 : decode cX3_saveTo 13 = .ok (.iload_n 2, 1) := by decide +kernel
theorem dX3_saveTo_14 : decode cX3_saveTo 14 = .ok (.iconst 1, 1) := by decide +kernel
theorem dX3_saveTo_15 : decode cX3_saveTo 15 = .ok (.iadd, 1) := by decide +kernel
theorem dX3_saveTo_16 : decode cX3_saveTo 16 = .ok (.bipush 15, 2) := by decide +kernel
theorem dX3_saveTo_18 : decode cX3_saveTo 18 = .ok (.invokestatic 50, 3) := by decide +kernel
theorem dX3_saveTo_21 : decode cX3_saveTo 21 = .ok (.aload_n 0, 1) := by decide +kernel
theorem dX3_saveTo_22 : decode cX3_saveTo 22 = .ok (.getfield 15, 3) := by decide +kernel
theorem dX3_saveTo_25 : decode cX3_saveTo 25 = .ok (.iconst 0, 1) := by decide +kernel
theorem dX3_saveTo_26 : decode cX3_saveTo 26 = .ok (.aload_n 1, 1) := by decide +kernel
theorem dX3_saveTo_27 : decode cX3_saveTo 27 = .ok (.iload_n 2, 1) := by decide +kernel
theorem dX3_saveTo_28 : decode cX3_saveTo 28 = .ok (.iconst 1, 1) := by decide +kernel
theorem dX3_saveTo_29 : decode cX3_saveTo 29 = .ok (.iadd, 1) := by decide +kernel
theorem dX3_saveTo_30 : decode cX3_saveTo 30 = .ok (.bipush 15, 2) := by decide +kernel
theorem dX3_saveTo_32 : decode cX3_saveTo 32 = .ok (.iadd, 1) := by decide +kernel
theorem dX3_saveTo_33 : decode cX3_saveTo 33 = .ok (.bipush 15, 2) := by decide +kernel
theorem dX3_saveTo_35 : decode cX3_saveTo 35 = .ok (.invokestatic 50, 3) := by decide +kernel
theorem dX3_saveTo_38 : decode cX3_saveTo 38 = .ok (.aload_n 0, 1) := by decide +kernel
theorem dX3_saveTo_39 : decode cX3_saveTo 39 = .ok (.getfield 21, 3) := by decide +kernel
theorem dX3_saveTo_42 : decode cX3_saveTo 42 = .ok (.iconst 0, 1) := by decide +kernel
theorem dX3_saveTo_43 : decode cX3_saveTo 43 = .ok (.aload_n 1, 1) := by decide +kernel
theorem dX3_saveTo_44 : decode cX3_saveTo 44 = .ok (.iload_n 2, 1) := by decide +kernel
theorem dX3_saveTo_45 : decode cX3_saveTo 45 = .ok (.iconst 1, 1) := by decide +kernel
theorem dX3_saveTo_46 : decode cX3_saveTo 46 = .ok (.iadd, 1) := by decide +kernel
theorem dX3_saveTo_47 : decode cX3_saveTo 47 = .ok (.bipush 30, 2) := by decide +kernel
theorem dX3_saveTo_49 : decode cX3_saveTo 49 = .ok (.iadd, 1) := by decide +kernel
theorem dX3_saveTo_50 : decode cX3_saveTo 50 = .ok (.iconst 5, 1) := by decide +kernel
theorem dX3_saveTo_51 : decode cX3_saveTo 51 = .ok (.invokestatic 50, 3) := by decide +kernel
theorem dX3_saveTo_54 : decode cX3_saveTo 54 = .ok (.return_, 1) := by decide +kernel
theorem dX3_takeFrom_0 : decode cX3_takeFrom 0 = .ok (.aload_n 0, 1) := by decide +kernel
theorem dX3_takeFrom_1 : decode cX3_takeFrom 1 = .ok (.aload_n 1, 1) := by decide +kernel
theorem dX3_takeFrom_2 : decode cX3_takeFrom 2 = .ok (.iload_n 2, 1) := by decide +kernel
theorem dX3_takeFrom_3 : decode cX3_takeFrom 3 = .ok (.iaload, 1) := by decide +kernel
theorem dX3_takeFrom_4 : decode cX3_takeFrom 4 = .ok (.putfield 34, 3) := by decide +kernel
theorem dX3_takeFrom_7 : decode cX3_takeFrom 7 = .ok (.aload_n 1, 1) := by decide +kernel
theorem dX3_takeFrom_8 : decode cX3_takeFrom 8 = .ok (.iload_n 2, 1) := by decide +kernel
theorem dX3_takeFrom_9 : decode cX3_takeFrom 9 = .ok (.iconst 1, 1) := by decide +kernel
theorem dX3_takeFrom_10 : decode cX3_takeFrom 10 = .ok (.iadd, 1) := by decide +kernel
theorem dX3_takeFrom_11 : decode cX3_takeFrom 11 = .ok (.aload_n 0, 1) := by decide +kernel
theorem dX3_takeFrom_12 : decode cX3_takeFrom 12 = .ok (.getfield 9, 3) := by decide +kernel
theorem dX3_takeFrom_15 : decode cX3_takeFrom 15 = .ok (.iconst 0, 1) := by decide +kernel
theorem dX3_takeFrom_16 : decode cX3_takeFrom 16 = .ok (.bipush 15, 2) := by decide +kernel
theorem dX3_takeFrom_18 : decode cX3_takeFrom 18 = .ok (.invokestatic 50, 3) := by decide +kernel
theorem dX3_takeFrom_21 : decode cX3_takeFrom 21 = .ok (.aload_n 1, 1) := by decide +kernel
theorem dX3_takeFrom_22 : decode cX3_takeFrom 22 = .ok (.iload_n 2, 1) := by decide +kernel
theorem dX3_takeFrom_23 : decode cX3_takeFrom 23 = .ok (.iconst 1, 1) := by decide +kernel
theorem dX3_takeFrom_24 : decode cX3_takeFrom 24 = .ok (.iadd, 1) := by decide +kernel
theorem dX3_takeFrom_25 : decode cX3_takeFrom 25 = .ok (.bipush 15, 2) := by decide +kernel
theorem dX3_takeFrom_27 : decode cX3_takeFrom 27 = .ok (.iadd, 1) := by decide +kernel
theorem dX3_takeFrom_28 : decode cX3_takeFrom 28 = .ok (.aload_n 0, 1) := by decide +kernel
theorem dX3_takeFrom_29 : decode cX3_takeFrom 29 = .ok (.getfield 15, 3) := by decide +kernel
theorem dX3_takeFrom_32 : decode cX3_takeFrom 32 = .ok (.iconst 0, 1) := by decide +kernel
theorem dX3_takeFrom_33 : decode cX3_takeFrom 33 = .ok (.bipush 15, 2) := by decide +kernel
theorem dX3_takeFrom_35 : decode cX3_takeFrom 35 = .ok (.invokestatic 50, 3) := by decide +kernel
theorem dX3_takeFrom_38 : decode cX3_takeFrom 38 = .ok (.aload_n 1, 1) := by decide +kernel
theorem dX3_takeFrom_39 : decode cX3_takeFrom 39 = .ok (.iload_n 2, 1) := by decide +kernel
theorem dX3_takeFrom_40 : decode cX3_takeFrom 40 = .ok (.iconst 1, 1) := by decide +kernel
theorem dX3_takeFrom_41 : decode cX3_takeFrom 41 = .ok (.iadd, 1) := by decide +kernel
theorem dX3_takeFrom_42 : decode cX3_takeFrom 42 = .ok (.bipush 30, 2) := by decide +kernel
theorem dX3_takeFrom_44 : decode cX3_takeFrom 44 = .ok (.iadd, 1) := by decide +kernel
theorem dX3_takeFrom_45 : decode cX3_takeFrom 45 = .ok (.aload_n 0, 1) := by decide +kernel
theorem dX3_takeFrom_46 : decode cX3_takeFrom 46 = .ok (.getfield 21, 3) := by decide +kernel
theorem dX3_takeFrom_49 : decode cX3_takeFrom 49 = .ok (.iconst 0, 1) := by decide +kernel
theorem dX3_takeFrom_50 : decode cX3_takeFrom 50 = .ok (.iconst 5, 1) := by decide +kernel
theorem dX3_takeFrom_51 : decode cX3_takeFrom 51 = .ok (.invokestatic 50, 3) := by decide +kernel
theorem dX3_takeFrom_54 : decode cX3_takeFrom 54 = .ok (.return_, 1) := by decide +kernel
theorem dX3_isTold_0 : decode cX3_isTold 0 = .ok (.aload_n 0, 1) := by decide +kernel
theorem dX3_isTold_1 : decode cX3_isTold 1 = .ok (.getfield 30, 3) := by decide +kernel
theorem dX3_isTold_4 : decode cX3_isTold 4 = .ok (.ireturn, 1) := by decide +kernel
theorem dX3_hour_0 : decode cX3_hour 0 = .ok (.aload_n 0, 1) := by decide +kernel
theorem dX3_hour_1 : decode cX3_hour 1 = .ok (.getfield 34, 3) := by decide +kernel
theorem dX3_hour_4 : decode cX3_hour 4 = .ok (.ireturn, 1) := by decide +kernel
theorem dX3_priceTold_0 : decode cX3_priceTold 0 = .ok (.aload_n 0, 1) := by decide +kernel
theorem dX3_priceTold_1 : decode cX3_priceTold 1 = .ok (.getfield 47, 3) := by decide +kernel
theorem dX3_priceTold_4 : decode cX3_priceTold 4 = .ok (.ireturn, 1) := by decide +kernel
theorem dX3_bidders_0 : decode cX3_bidders 0 = .ok (.aload_n 0, 1) := by decide +kernel
theorem dX3_bidders_1 : decode cX3_bidders 1 = .ok (.getfield 38, 3) := by decide +kernel
theorem dX3_bidders_4 : decode cX3_bidders 4 = .ok (.ireturn, 1) := by decide +kernel
theorem dX3_hasBidder_0 : decode cX3_hasBidder 0 = .ok (.iload_n 1, 1) := by decide +kernel
theorem dX3_hasBidder_1 : decode cX3_hasBidder 1 = .ok (.ifCond .lt 15, 3) := by decide +kernel
theorem dX3_hasBidder_4 : decode cX3_hasBidder 4 = .ok (.iload_n 1, 1) := by decide +kernel
theorem dX3_hasBidder_5 : decode cX3_hasBidder 5 = .ok (.aload_n 0, 1) := by decide +kernel
theorem dX3_hasBidder_6 : decode cX3_hasBidder 6 = .ok (.getfield 38, 3) := by decide +kernel
theorem dX3_hasBidder_9 : decode cX3_hasBidder 9 = .ok (.if_icmp .ge 7, 3) := by decide +kernel
theorem dX3_hasBidder_12 : decode cX3_hasBidder 12 = .ok (.iconst 1, 1) := by decide +kernel
theorem dX3_hasBidder_13 : decode cX3_hasBidder 13 = .ok (.goto 4, 3) := by decide +kernel
theorem dX3_hasBidder_16 : decode cX3_hasBidder 16 = .ok (.iconst 0, 1) := by decide +kernel
theorem dX3_hasBidder_17 : decode cX3_hasBidder 17 = .ok (.ireturn, 1) := by decide +kernel
theorem dX3_kindOf_0 : decode cX3_kindOf 0 = .ok (.aload_n 0, 1) := by decide +kernel
theorem dX3_kindOf_1 : decode cX3_kindOf 1 = .ok (.getfield 18, 3) := by decide +kernel
theorem dX3_kindOf_4 : decode cX3_kindOf 4 = .ok (.iload_n 1, 1) := by decide +kernel
theorem dX3_kindOf_5 : decode cX3_kindOf 5 = .ok (.iaload, 1) := by decide +kernel
theorem dX3_kindOf_6 : decode cX3_kindOf 6 = .ok (.ireturn, 1) := by decide +kernel
theorem dX3_purse_0 : decode cX3_purse 0 = .ok (.aload_n 0, 1) := by decide +kernel
theorem dX3_purse_1 : decode cX3_purse 1 = .ok (.getfield 21, 3) := by decide +kernel
theorem dX3_purse_4 : decode cX3_purse 4 = .ok (.iload_n 1, 1) := by decide +kernel
theorem dX3_purse_5 : decode cX3_purse 5 = .ok (.iaload, 1) := by decide +kernel
theorem dX3_purse_6 : decode cX3_purse 6 = .ok (.ireturn, 1) := by decide +kernel
theorem dX3_homeOf_0 : decode cX3_homeOf 0 = .ok (.aload_n 0, 1) := by decide +kernel
theorem dX3_homeOf_1 : decode cX3_homeOf 1 = .ok (.getfield 24, 3) := by decide +kernel
theorem dX3_homeOf_4 : decode cX3_homeOf 4 = .ok (.iload_n 1, 1) := by decide +kernel
theorem dX3_homeOf_5 : decode cX3_homeOf 5 = .ok (.iaload, 1) := by decide +kernel
theorem dX3_homeOf_6 : decode cX3_homeOf 6 = .ok (.ireturn, 1) := by decide +kernel
theorem dX3_height_0 : decode cX3_height 0 = .ok (.aload_n 0, 1) := by decide +kernel
theorem dX3_height_1 : decode cX3_height 1 = .ok (.getfield 9, 3) := by decide +kernel
theorem dX3_height_4 : decode cX3_height 4 = .ok (.iload_n 1, 1) := by decide +kernel
theorem dX3_height_5 : decode cX3_height 5 = .ok (.iaload, 1) := by decide +kernel
theorem dX3_height_6 : decode cX3_height 6 = .ok (.ireturn, 1) := by decide +kernel
theorem dX3_holder_0 : decode cX3_holder 0 = .ok (.aload_n 0, 1) := by decide +kernel
theorem dX3_holder_1 : decode cX3_holder 1 = .ok (.getfield 15, 3) := by decide +kernel
theorem dX3_holder_4 : decode cX3_holder 4 = .ok (.iload_n 1, 1) := by decide +kernel
theorem dX3_holder_5 : decode cX3_holder 5 = .ok (.iaload, 1) := by decide +kernel
theorem dX3_holder_6 : decode cX3_holder 6 = .ok (.ireturn, 1) := by decide +kernel
theorem dX3_isHeld_0 : decode cX3_isHeld 0 = .ok (.aload_n 0, 1) := by decide +kernel
theorem dX3_isHeld_1 : decode cX3_isHeld 1 = .ok (.getfield 15, 3) := by decide +kernel
theorem dX3_isHeld_4 : decode cX3_isHeld 4 = .ok (.iload_n 1, 1) := by decide +kernel
theorem dX3_isHeld_5 : decode cX3_isHeld 5 = .ok (.iaload, 1) := by decide +kernel
theorem dX3_isHeld_6 : decode cX3_isHeld 6 = .ok (.iconst (-1), 1) := by decide +kernel
theorem dX3_isHeld_7 : decode cX3_isHeld 7 = .ok (.if_icmp .eq 7, 3) := by decide +kernel
theorem dX3_isHeld_10 : decode cX3_isHeld 10 = .ok (.iconst 1, 1) := by decide +kernel
theorem dX3_isHeld_11 : decode cX3_isHeld 11 = .ok (.goto 4, 3) := by decide +kernel
theorem dX3_isHeld_14 : decode cX3_isHeld 14 = .ok (.iconst 0, 1) := by decide +kernel
theorem dX3_isHeld_15 : decode cX3_isHeld 15 = .ok (.ireturn, 1) := by decide +kernel
theorem dX3_cellsOf_0 : decode cX3_cellsOf 0 = .ok (.iconst 0, 1) := by decide +kernel
theorem dX3_cellsOf_1 : decode cX3_cellsOf 1 = .ok (.istore_n 2, 1) := by decide +kernel
theorem dX3_cellsOf_2 : decode cX3_cellsOf 2 = .ok (.iconst 0, 1) := by decide +kernel
theorem dX3_cellsOf_3 : decode cX3_cellsOf 3 = .ok (.istore_n 3, 1) := by decide +kernel
theorem dX3_cellsOf_4 : decode cX3_cellsOf 4 = .ok (.iload_n 3, 1) := by decide +kernel
theorem dX3_cellsOf_5 : decode cX3_cellsOf 5 = .ok (.bipush 15, 2) := by decide +kernel
theorem dX3_cellsOf_7 : decode cX3_cellsOf 7 = .ok (.if_icmp .ge 25, 3) := by decide +kernel
theorem dX3_cellsOf_10 : decode cX3_cellsOf 10 = .ok (.aload_n 0, 1) := by decide +kernel
theorem dX3_cellsOf_11 : decode cX3_cellsOf 11 = .ok (.getfield 15, 3) := by decide +kernel
theorem dX3_cellsOf_14 : decode cX3_cellsOf 14 = .ok (.iload_n 3, 1) := by decide +kernel
theorem dX3_cellsOf_15 : decode cX3_cellsOf 15 = .ok (.iaload, 1) := by decide +kernel
theorem dX3_cellsOf_16 : decode cX3_cellsOf 16 = .ok (.iload_n 1, 1) := by decide +kernel
theorem dX3_cellsOf_17 : decode cX3_cellsOf 17 = .ok (.if_icmp .ne 9, 3) := by decide +kernel
theorem dX3_cellsOf_20 : decode cX3_cellsOf 20 = .ok (.iload_n 2, 1) := by decide +kernel
theorem dX3_cellsOf_21 : decode cX3_cellsOf 21 = .ok (.iconst 1, 1) := by decide +kernel
theorem dX3_cellsOf_22 : decode cX3_cellsOf 22 = .ok (.iload_n 3, 1) := by decide +kernel
theorem dX3_cellsOf_23 : decode cX3_cellsOf 23 = .ok (.ishl, 1) := by decide +kernel
theorem dX3_cellsOf_24 : decode cX3_cellsOf 24 = .ok (.ior, 1) := by decide +kernel
theorem dX3_cellsOf_25 : decode cX3_cellsOf 25 = .ok (.istore_n 2, 1) := by decide +kernel
theorem dX3_cellsOf_26 : decode cX3_cellsOf 26 = .ok (.iinc 3 1, 3) := by decide +kernel
theorem dX3_cellsOf_29 : decode cX3_cellsOf 29 = .ok (.goto (-25), 3) := by decide +kernel
theorem dX3_cellsOf_32 : decode cX3_cellsOf 32 = .ok (.iload_n 2, 1) := by decide +kernel
theorem dX3_cellsOf_33 : decode cX3_cellsOf 33 = .ok (.ireturn, 1) := by decide +kernel
set_option maxRecDepth 20000 in
theorem ggX3_heldCells_X3_cellsOf : GoodIn wsX3_heldCells wsX3_cellsOf := goodIn_r _ [5, 6, 7, 8, 9, 10, 11, 12, 13, 14, 15, 16, 17] (by decide +kernel) (by decide +kernel)
set_option maxRecDepth 20000 in
theorem gX3_heldCells_X3_cellsOf : GoodIn wsX3_heldCells (wsV RX3 56 RX3 yX3_cellsOf wsX3_cellsOf) := goodIn_app (goodIn_of _ (by decide +kernel)) ggX3_heldCells_X3_cellsOf
theorem dX3_heldCells_0 : decode cX3_heldCells 0 = .ok (.sipush 32767, 3) := by decide +kernel
theorem dX3_heldCells_3 : decode cX3_heldCells 3 = .ok (.aload_n 0, 1) := by decide +kernel
theorem dX3_heldCells_4 : decode cX3_heldCells 4 = .ok (.iconst (-1), 1) := by decide +kernel
theorem dX3_heldCells_5 : decode cX3_heldCells 5 = .ok (.invokevirtual 56, 3) := by decide +kernel
theorem dX3_heldCells_8 : decode cX3_heldCells 8 = .ok (.iconst (-1), 1) := by decide +kernel
theorem dX3_heldCells_9 : decode cX3_heldCells 9 = .ok (.ixor, 1) := by decide +kernel
theorem dX3_heldCells_10 : decode cX3_heldCells 10 = .ok (.iand, 1) := by decide +kernel
theorem dX3_heldCells_11 : decode cX3_heldCells 11 = .ok (.ireturn, 1) := by decide +kernel
theorem dX3_allPurses_0 : decode cX3_allPurses 0 = .ok (.iconst 0, 1) := by decide +kernel
theorem dX3_allPurses_1 : decode cX3_allPurses 1 = .ok (.istore_n 1, 1) := by decide +kernel
theorem dX3_allPurses_2 : decode cX3_allPurses 2 = .ok (.iconst 0, 1) := by decide +kernel
theorem dX3_allPurses_3 : decode cX3_allPurses 3 = .ok (.istore_n 2, 1) := by decide +kernel
theorem dX3_allPurses_4 : decode cX3_allPurses 4 = .ok (.iload_n 2, 1) := by decide +kernel
theorem dX3_allPurses_5 : decode cX3_allPurses 5 = .ok (.aload_n 0, 1) := by decide +kernel
theorem dX3_allPurses_6 : decode cX3_allPurses 6 = .ok (.getfield 38, 3) := by decide +kernel
theorem dX3_allPurses_9 : decode cX3_allPurses 9 = .ok (.if_icmp .ge 18, 3) := by decide +kernel
theorem dX3_allPurses_12 : decode cX3_allPurses 12 = .ok (.iload_n 1, 1) := by decide +kernel
theorem dX3_allPurses_13 : decode cX3_allPurses 13 = .ok (.aload_n 0, 1) := by decide +kernel
theorem dX3_allPurses_14 : decode cX3_allPurses 14 = .ok (.getfield 21, 3) := by decide +kernel
theorem dX3_allPurses_17 : decode cX3_allPurses 17 = .ok (.iload_n 2, 1) := by decide +kernel
theorem dX3_allPurses_18 : decode cX3_allPurses 18 = .ok (.iaload, 1) := by decide +kernel
theorem dX3_allPurses_19 : decode cX3_allPurses 19 = .ok (.iadd, 1) := by decide +kernel
theorem dX3_allPurses_20 : decode cX3_allPurses 20 = .ok (.istore_n 1, 1) := by decide +kernel
theorem dX3_allPurses_21 : decode cX3_allPurses 21 = .ok (.iinc 2 1, 3) := by decide +kernel
theorem dX3_allPurses_24 : decode cX3_allPurses 24 = .ok (.goto (-20), 3) := by decide +kernel
theorem dX3_allPurses_27 : decode cX3_allPurses 27 = .ok (.iload_n 1, 1) := by decide +kernel
theorem dX3_allPurses_28 : decode cX3_allPurses 28 = .ok (.ireturn, 1) := by decide +kernel
theorem dX3_levelBehind_0 : decode cX3_levelBehind 0 = .ok (.aload_n 0, 1) := by decide +kernel
theorem dX3_levelBehind_1 : decode cX3_levelBehind 1 = .ok (.getfield 34, 3) := by decide +kernel
theorem dX3_levelBehind_4 : decode cX3_levelBehind 4 = .ok (.iload_n 1, 1) := by decide +kernel
theorem dX3_levelBehind_5 : decode cX3_levelBehind 5 = .ok (.iadd, 1) := by decide +kernel
theorem dX3_levelBehind_6 : decode cX3_levelBehind 6 = .ok (.bipush 12, 2) := by decide +kernel
theorem dX3_levelBehind_8 : decode cX3_levelBehind 8 = .ok (.irem, 1) := by decide +kernel
theorem dX3_levelBehind_9 : decode cX3_levelBehind 9 = .ok (.istore_n 2, 1) := by decide +kernel
theorem dX3_levelBehind_10 : decode cX3_levelBehind 10 = .ok (.iload_n 2, 1) := by decide +kernel
theorem dX3_levelBehind_11 : decode cX3_levelBehind 11 = .ok (.bipush 6, 2) := by decide +kernel
theorem dX3_levelBehind_13 : decode cX3_levelBehind 13 = .ok (.if_icmp .gt 7, 3) := by decide +kernel
theorem dX3_levelBehind_16 : decode cX3_levelBehind 16 = .ok (.iload_n 2, 1) := by decide +kernel
theorem dX3_levelBehind_17 : decode cX3_levelBehind 17 = .ok (.goto 7, 3) := by decide +kernel
theorem dX3_levelBehind_20 : decode cX3_levelBehind 20 = .ok (.bipush 12, 2) := by decide +kernel
theorem dX3_levelBehind_22 : decode cX3_levelBehind 22 = .ok (.iload_n 2, 1) := by decide +kernel
theorem dX3_levelBehind_23 : decode cX3_levelBehind 23 = .ok (.isub, 1) := by decide +kernel
theorem dX3_levelBehind_24 : decode cX3_levelBehind 24 = .ok (.istore_n 3, 1) := by decide +kernel
theorem dX3_levelBehind_25 : decode cX3_levelBehind 25 = .ok (.aload_n 0, 1) := by decide +kernel
theorem dX3_levelBehind_26 : decode cX3_levelBehind 26 = .ok (.getfield 41, 3) := by decide +kernel
theorem dX3_levelBehind_29 : decode cX3_levelBehind 29 = .ok (.aload_n 0, 1) := by decide +kernel
theorem dX3_levelBehind_30 : decode cX3_levelBehind 30 = .ok (.getfield 44, 3) := by decide +kernel
theorem dX3_levelBehind_33 : decode cX3_levelBehind 33 = .ok (.aload_n 0, 1) := by decide +kernel
theorem dX3_levelBehind_34 : decode cX3_levelBehind 34 = .ok (.getfield 41, 3) := by decide +kernel
theorem dX3_levelBehind_37 : decode cX3_levelBehind 37 = .ok (.isub, 1) := by decide +kernel
theorem dX3_levelBehind_38 : decode cX3_levelBehind 38 = .ok (.iload_n 3, 1) := by decide +kernel
theorem dX3_levelBehind_39 : decode cX3_levelBehind 39 = .ok (.imul, 1) := by decide +kernel
theorem dX3_levelBehind_40 : decode cX3_levelBehind 40 = .ok (.bipush 6, 2) := by decide +kernel
theorem dX3_levelBehind_42 : decode cX3_levelBehind 42 = .ok (.idiv, 1) := by decide +kernel
theorem dX3_levelBehind_43 : decode cX3_levelBehind 43 = .ok (.iadd, 1) := by decide +kernel
theorem dX3_levelBehind_44 : decode cX3_levelBehind 44 = .ok (.ireturn, 1) := by decide +kernel
set_option maxRecDepth 20000 in
theorem ggX3_isDryBehind_X3_levelBehind : GoodIn wsX3_isDryBehind wsX3_levelBehind := goodIn_r _ [6, 7, 8, 9, 10, 11, 12, 13, 14, 15, 16, 17, 18, 19, 20] (by decide +kernel) (by decide +kernel)
set_option maxRecDepth 20000 in
theorem gX3_isDryBehind_X3_levelBehind : GoodIn wsX3_isDryBehind (wsV RX3 60 RX3 yX3_levelBehind wsX3_levelBehind) := goodIn_app (goodIn_of _ (by decide +kernel)) ggX3_isDryBehind_X3_levelBehind
theorem dX3_isDryBehind_0 : decode cX3_isDryBehind 0 = .ok (.aload_n 0, 1) := by decide +kernel
theorem dX3_isDryBehind_1 : decode cX3_isDryBehind 1 = .ok (.getfield 9, 3) := by decide +kernel
theorem dX3_isDryBehind_4 : decode cX3_isDryBehind 4 = .ok (.iload_n 2, 1) := by decide +kernel
theorem dX3_isDryBehind_5 : decode cX3_isDryBehind 5 = .ok (.iaload, 1) := by decide +kernel
theorem dX3_isDryBehind_6 : decode cX3_isDryBehind 6 = .ok (.aload_n 0, 1) := by decide +kernel
theorem dX3_isDryBehind_7 : decode cX3_isDryBehind 7 = .ok (.iload_n 1, 1) := by decide +kernel
theorem dX3_isDryBehind_8 : decode cX3_isDryBehind 8 = .ok (.invokevirtual 60, 3) := by decide +kernel
theorem dX3_isDryBehind_11 : decode cX3_isDryBehind 11 = .ok (.if_icmp .le 7, 3) := by decide +kernel
theorem dX3_isDryBehind_14 : decode cX3_isDryBehind 14 = .ok (.iconst 1, 1) := by decide +kernel
theorem dX3_isDryBehind_15 : decode cX3_isDryBehind 15 = .ok (.goto 4, 3) := by decide +kernel
theorem dX3_isDryBehind_18 : decode cX3_isDryBehind 18 = .ok (.iconst 0, 1) := by decide +kernel
theorem dX3_isDryBehind_19 : decode cX3_isDryBehind 19 = .ok (.ireturn, 1) := by decide +kernel
set_option maxRecDepth 20000 in
theorem ggX3_dryBehind_X3_levelBehind : GoodIn wsX3_dryBehind wsX3_levelBehind := goodIn_r _ [5, 6, 7, 8, 14, 15, 16, 17, 18, 19, 20, 21, 22, 23, 24] (by decide +kernel) (by decide +kernel)
set_option maxRecDepth 20000 in
theorem gX3_dryBehind_X3_levelBehind : GoodIn wsX3_dryBehind (wsV RX3 60 RX3 yX3_levelBehind wsX3_levelBehind) := goodIn_app (goodIn_of _ (by decide +kernel)) ggX3_dryBehind_X3_levelBehind
set_option maxRecDepth 20000 in
theorem ggX3_dryBehind_X3_cellsBelow : GoodIn wsX3_dryBehind wsX3_cellsBelow := goodIn_r _ [12, 13, 14, 15, 16, 17, 18, 19, 20, 21, 22, 23, 24] (by decide +kernel) (by decide +kernel)
set_option maxRecDepth 20000 in
theorem gX3_dryBehind_X3_cellsBelow : GoodIn wsX3_dryBehind (wsV RX3 63 RX3 yX3_cellsBelow wsX3_cellsBelow) := goodIn_app (goodIn_of _ (by decide +kernel)) ggX3_dryBehind_X3_cellsBelow
theorem dX3_dryBehind_0 : decode cX3_dryBehind 0 = .ok (.sipush 32767, 3) := by decide +kernel
theorem dX3_dryBehind_3 : decode cX3_dryBehind 3 = .ok (.aload_n 0, 1) := by decide +kernel
theorem dX3_dryBehind_4 : decode cX3_dryBehind 4 = .ok (.aload_n 0, 1) := by decide +kernel
theorem dX3_dryBehind_5 : decode cX3_dryBehind 5 = .ok (.iload_n 1, 1) := by decide +kernel
theorem dX3_dryBehind_6 : decode cX3_dryBehind 6 = .ok (.invokevirtual 60, 3) := by decide +kernel
theorem dX3_dryBehind_9 : decode cX3_dryBehind 9 = .ok (.iconst 1, 1) := by decide +kernel
theorem dX3_dryBehind_10 : decode cX3_dryBehind 10 = .ok (.iadd, 1) := by decide +kernel
theorem dX3_dryBehind_11 : decode cX3_dryBehind 11 = .ok (.invokevirtual 63, 3) := by decide +kernel
theorem dX3_dryBehind_14 : decode cX3_dryBehind 14 = .ok (.iconst (-1), 1) := by decide +kernel
theorem dX3_dryBehind_15 : decode cX3_dryBehind 15 = .ok (.ixor, 1) := by decide +kernel
theorem dX3_dryBehind_16 : decode cX3_dryBehind 16 = .ok (.iand, 1) := by decide +kernel
theorem dX3_dryBehind_17 : decode cX3_dryBehind 17 = .ok (.ireturn, 1) := by decide +kernel
theorem dX3_cellsBelow_0 : decode cX3_cellsBelow 0 = .ok (.iconst 0, 1) := by decide +kernel
theorem dX3_cellsBelow_1 : decode cX3_cellsBelow 1 = .ok (.istore_n 2, 1) := by decide +kernel
theorem dX3_cellsBelow_2 : decode cX3_cellsBelow 2 = .ok (.iconst 0, 1) := by decide +kernel
theorem dX3_cellsBelow_3 : decode cX3_cellsBelow 3 = .ok (.istore_n 3, 1) := by decide +kernel
theorem dX3_cellsBelow_4 : decode cX3_cellsBelow 4 = .ok (.iload_n 3, 1) := by decide +kernel
theorem dX3_cellsBelow_5 : decode cX3_cellsBelow 5 = .ok (.bipush 15, 2) := by decide +kernel
theorem dX3_cellsBelow_7 : decode cX3_cellsBelow 7 = .ok (.if_icmp .ge 25, 3) := by decide +kernel
theorem dX3_cellsBelow_10 : decode cX3_cellsBelow 10 = .ok (.aload_n 0, 1) := by decide +kernel
theorem dX3_cellsBelow_11 : decode cX3_cellsBelow 11 = .ok (.getfield 9, 3) := by decide +kernel
theorem dX3_cellsBelow_14 : decode cX3_cellsBelow 14 = .ok (.iload_n 3, 1) := by decide +kernel
theorem dX3_cellsBelow_15 : decode cX3_cellsBelow 15 = .ok (.iaload, 1) := by decide +kernel
theorem dX3_cellsBelow_16 : decode cX3_cellsBelow 16 = .ok (.iload_n 1, 1) := by decide +kernel
theorem dX3_cellsBelow_17 : decode cX3_cellsBelow 17 = .ok (.if_icmp .ge 9, 3) := by decide +kernel
theorem dX3_cellsBelow_20 : decode cX3_cellsBelow 20 = .ok (.iload_n 2, 1) := by decide +kernel
theorem dX3_cellsBelow_21 : decode cX3_cellsBelow 21 = .ok (.iconst 1, 1) := by decide +kernel
theorem dX3_cellsBelow_22 : decode cX3_cellsBelow 22 = .ok (.iload_n 3, 1) := by decide +kernel
theorem dX3_cellsBelow_23 : decode cX3_cellsBelow 23 = .ok (.ishl, 1) := by decide +kernel
theorem dX3_cellsBelow_24 : decode cX3_cellsBelow 24 = .ok (.ior, 1) := by decide +kernel
theorem dX3_cellsBelow_25 : decode cX3_cellsBelow 25 = .ok (.istore_n 2, 1) := by decide +kernel
theorem dX3_cellsBelow_26 : decode cX3_cellsBelow 26 = .ok (.iinc 3 1, 3) := by decide +kernel
theorem dX3_cellsBelow_29 : decode cX3_cellsBelow 29 = .ok (.goto (-25), 3) := by decide +kernel
theorem dX3_cellsBelow_32 : decode cX3_cellsBelow 32 = .ok (.iload_n 2, 1) := by decide +kernel
theorem dX3_cellsBelow_33 : decode cX3_cellsBelow 33 = .ok (.ireturn, 1) := by decide +kernel
set_option maxRecDepth 20000 in
theorem ggX3_raisedSo_X3_levelBehind : GoodIn wsX3_raisedSo wsX3_levelBehind := goodIn_r _ [6, 7, 8, 9, 18, 19, 20, 21, 22, 23, 24, 25, 26, 27, 28] (by decide +kernel) (by decide +kernel)
set_option maxRecDepth 20000 in
theorem gX3_raisedSo_X3_levelBehind : GoodIn wsX3_raisedSo (wsV RX3 60 RX3 yX3_levelBehind wsX3_levelBehind) := goodIn_app (goodIn_of _ (by decide +kernel)) ggX3_raisedSo_X3_levelBehind
set_option maxRecDepth 20000 in
theorem ggX3_raisedSo_X3_dryBehind : GoodIn wsX3_raisedSo wsX3_dryBehind := goodIn_r _ [13, 2, 3, 4, 5, 6, 7, 8, 9, 14, 15, 16, 17, 1, 18, 19, 20, 21, 22, 23, 24, 25, 26, 27, 28] (by decide +kernel) (by decide +kernel)
set_option maxRecDepth 20000 in
theorem gX3_raisedSo_X3_dryBehind : GoodIn wsX3_raisedSo (wsV RX3 66 RX3 yX3_dryBehind wsX3_dryBehind) := goodIn_app (goodIn_of _ (by decide +kernel)) ggX3_raisedSo_X3_dryBehind
theorem dX3_raisedSo_0 : decode cX3_raisedSo 0 = .ok (.aload_n 0, 1) := by decide +kernel
theorem dX3_raisedSo_1 : decode cX3_raisedSo 1 = .ok (.iload_n 2, 1) := by decide +kernel
theorem dX3_raisedSo_2 : decode cX3_raisedSo 2 = .ok (.invokevirtual 60, 3) := by decide +kernel
theorem dX3_raisedSo_5 : decode cX3_raisedSo 5 = .ok (.istore 4, 2) := by decide +kernel
theorem dX3_raisedSo_7 : decode cX3_raisedSo 7 = .ok (.aload_n 0, 1) := by decide +kernel
theorem dX3_raisedSo_8 : decode cX3_raisedSo 8 = .ok (.iload_n 2, 1) := by decide +kernel
theorem dX3_raisedSo_9 : decode cX3_raisedSo 9 = .ok (.invokevirtual 66, 3) := by decide +kernel
theorem dX3_raisedSo_12 : decode cX3_raisedSo 12 = .ok (.istore 5, 2) := by decide +kernel
theorem dX3_raisedSo_14 : decode cX3_raisedSo 14 = .ok (.iconst 0, 1) := by decide +kernel
theorem dX3_raisedSo_15 : decode cX3_raisedSo 15 = .ok (.istore 6, 2) := by decide +kernel
theorem dX3_raisedSo_17 : decode cX3_raisedSo 17 = .ok (.iconst 0, 1) := by decide +kernel
theorem dX3_raisedSo_18 : decode cX3_raisedSo 18 = .ok (.istore 7, 2) := by decide +kernel
theorem dX3_raisedSo_20 : decode cX3_raisedSo 20 = .ok (.iload 7, 2) := by decide +kernel
theorem dX3_raisedSo_22 : decode cX3_raisedSo 22 = .ok (.bipush 15, 2) := by decide +kernel
theorem dX3_raisedSo_24 : decode cX3_raisedSo 24 = .ok (.if_icmp .ge 66, 3) := by decide +kernel
theorem dX3_raisedSo_27 : decode cX3_raisedSo 27 = .ok (.iconst 1, 1) := by decide +kernel
theorem dX3_raisedSo_28 : decode cX3_raisedSo 28 = .ok (.iload 7, 2) := by decide +kernel
theorem dX3_raisedSo_30 : decode cX3_raisedSo 30 = .ok (.ishl, 1) := by decide +kernel
theorem dX3_raisedSo_31 : decode cX3_raisedSo 31 = .ok (.istore 8, 2) := by decide +kernel
theorem dX3_raisedSo_33 : decode cX3_raisedSo 33 = .ok (.aload_n 0, 1) := by decide +kernel
theorem dX3_raisedSo_34 : decode cX3_raisedSo 34 = .ok (.getfield 9, 3) := by decide +kernel
theorem dX3_raisedSo_37 : decode cX3_raisedSo 37 = .ok (.iload 7, 2) := by decide +kernel
theorem dX3_raisedSo_39 : decode cX3_raisedSo 39 = .ok (.iaload, 1) := by decide +kernel
theorem dX3_raisedSo_40 : decode cX3_raisedSo 40 = .ok (.iconst 1, 1) := by decide +kernel
theorem dX3_raisedSo_41 : decode cX3_raisedSo 41 = .ok (.iadd, 1) := by decide +kernel
theorem dX3_raisedSo_42 : decode cX3_raisedSo 42 = .ok (.iload 4, 2) := by decide +kernel
theorem dX3_raisedSo_44 : decode cX3_raisedSo 44 = .ok (.if_icmp .le 11, 3) := by decide +kernel
theorem dX3_raisedSo_47 : decode cX3_raisedSo 47 = .ok (.iload 5, 2) := by decide +kernel
theorem dX3_raisedSo_49 : decode cX3_raisedSo 49 = .ok (.iload 8, 2) := by decide +kernel
theorem dX3_raisedSo_51 : decode cX3_raisedSo 51 = .ok (.ior, 1) := by decide +kernel
theorem dX3_raisedSo_52 : decode cX3_raisedSo 52 = .ok (.goto 10, 3) := by decide +kernel
theorem dX3_raisedSo_55 : decode cX3_raisedSo 55 = .ok (.iload 5, 2) := by decide +kernel
theorem dX3_raisedSo_57 : decode cX3_raisedSo 57 = .ok (.iload 8, 2) := by decide +kernel
theorem dX3_raisedSo_59 : decode cX3_raisedSo 59 = .ok (.iconst (-1), 1) := by decide +kernel
theorem dX3_raisedSo_60 : decode cX3_raisedSo 60 = .ok (.ixor, 1) := by decide +kernel
theorem dX3_raisedSo_61 : decode cX3_raisedSo 61 = .ok (.iand, 1) := by decide +kernel
theorem dX3_raisedSo_62 : decode cX3_raisedSo 62 = .ok (.istore 9, 2) := by decide +kernel
theorem dX3_raisedSo_64 : decode cX3_raisedSo 64 = .ok (.iload_n 1, 1) := by decide +kernel
theorem dX3_raisedSo_65 : decode cX3_raisedSo 65 = .ok (.iload 8, 2) := by decide +kernel
theorem dX3_raisedSo_67 : decode cX3_raisedSo 67 = .ok (.iand, 1) := by decide +kernel
theorem dX3_raisedSo_68 : decode cX3_raisedSo 68 = .ok (.ifCond .eq 16, 3) := by decide +kernel
theorem dX3_raisedSo_71 : decode cX3_raisedSo 71 = .ok (.iload 9, 2) := by decide +kernel
theorem dX3_raisedSo_73 : decode cX3_raisedSo 73 = .ok (.iload_n 3, 1) := by decide +kernel
theorem dX3_raisedSo_74 : decode cX3_raisedSo 74 = .ok (.if_icmp .ne 10, 3) := by decide +kernel
theorem dX3_raisedSo_77 : decode cX3_raisedSo 77 = .ok (.iload 6, 2) := by decide +kernel
theorem dX3_raisedSo_79 : decode cX3_raisedSo 79 = .ok (.iload 8, 2) := by decide +kernel
theorem dX3_raisedSo_81 : decode cX3_raisedSo 81 = .ok (.ior, 1) := by decide +kernel
theorem dX3_raisedSo_82 : decode cX3_raisedSo 82 = .ok (.istore 6, 2) := by decide +kernel
theorem dX3_raisedSo_84 : decode cX3_raisedSo 84 = .ok (.iinc 7 1, 3) := by decide +kernel
theorem dX3_raisedSo_87 : decode cX3_raisedSo 87 = .ok (.goto (-67), 3) := by decide +kernel
theorem dX3_raisedSo_90 : decode cX3_raisedSo 90 = .ok (.iload 6, 2) := by decide +kernel
theorem dX3_raisedSo_92 : decode cX3_raisedSo 92 = .ok (.ireturn, 1) := by decide +kernel
set_option maxRecDepth 20000 in
theorem ggX3_cost_X4_cost : GoodIn wsX3_cost wsX4_cost := goodIn_r _ [6] (by decide +kernel) (by decide +kernel)
set_option maxRecDepth 20000 in
theorem gX3_cost_X4_cost : GoodIn wsX3_cost (va_wsS RX3 69 yX4_cost wsX4_cost) := goodIn_app (goodIn_of _ (by decide +kernel)) ggX3_cost_X4_cost
theorem dX3_cost_0 : decode cX3_cost 0 = .ok (.iload_n 1, 1) := by decide +kernel
theorem dX3_cost_1 : decode cX3_cost 1 = .ok (.aload_n 0, 1) := by decide +kernel
theorem dX3_cost_2 : decode cX3_cost 2 = .ok (.getfield 47, 3) := by decide +kernel
theorem dX3_cost_5 : decode cX3_cost 5 = .ok (.aload_n 0, 1) := by decide +kernel
theorem dX3_cost_6 : decode cX3_cost 6 = .ok (.getfield 9, 3) := by decide +kernel
theorem dX3_cost_9 : decode cX3_cost 9 = .ok (.iload_n 2, 1) := by decide +kernel
theorem dX3_cost_10 : decode cX3_cost 10 = .ok (.iaload, 1) := by decide +kernel
theorem dX3_cost_11 : decode cX3_cost 11 = .ok (.invokestatic 69, 3) := by decide +kernel
theorem dX3_cost_14 : decode cX3_cost 14 = .ok (.ireturn, 1) := by decide +kernel
set_option maxRecDepth 20000 in
theorem ggX3_costTo_X3_cost : GoodIn wsX3_costTo wsX3_cost := goodIn_r _ [6, 7, 8, 9, 10, 11, 12, 13, 14, 15, 16, 17, 18, 19, 20, 21, 22, 23] (by decide +kernel) (by decide +kernel)
set_option maxRecDepth 20000 in
theorem gX3_costTo_X3_cost : GoodIn wsX3_costTo (wsV RX3 75 RX3 yX3_cost wsX3_cost) := goodIn_app (goodIn_of _ (by decide +kernel)) ggX3_costTo_X3_cost
theorem dX3_costTo_0 : decode cX3_costTo 0 = .ok (.aload_n 0, 1) := by decide +kernel
theorem dX3_costTo_1 : decode cX3_costTo 1 = .ok (.aload_n 0, 1) := by decide +kernel
theorem dX3_costTo_2 : decode cX3_costTo 2 = .ok (.getfield 18, 3) := by decide +kernel
theorem dX3_costTo_5 : decode cX3_costTo 5 = .ok (.iload_n 1, 1) := by decide +kernel
theorem dX3_costTo_6 : decode cX3_costTo 6 = .ok (.iaload, 1) := by decide +kernel
theorem dX3_costTo_7 : decode cX3_costTo 7 = .ok (.iload_n 2, 1) := by decide +kernel
theorem dX3_costTo_8 : decode cX3_costTo 8 = .ok (.invokevirtual 75, 3) := by decide +kernel
theorem dX3_costTo_11 : decode cX3_costTo 11 = .ok (.ireturn, 1) := by decide +kernel
set_option maxRecDepth 20000 in
theorem ggX3_costOf_X3_cost : GoodIn wsX3_costOf wsX3_cost := goodIn_r _ [5, 6, 7, 8, 9, 10, 11, 12, 13, 14, 15, 16, 17, 18, 19, 20, 21, 22] (by decide +kernel) (by decide +kernel)
set_option maxRecDepth 20000 in
theorem gX3_costOf_X3_cost : GoodIn wsX3_costOf (wsV RX3 75 RX3 yX3_cost wsX3_cost) := goodIn_app (goodIn_of _ (by decide +kernel)) ggX3_costOf_X3_cost
theorem dX3_costOf_0 : decode cX3_costOf 0 = .ok (.iconst 0, 1) := by decide +kernel
theorem dX3_costOf_1 : decode cX3_costOf 1 = .ok (.istore_n 3, 1) := by decide +kernel
theorem dX3_costOf_2 : decode cX3_costOf 2 = .ok (.iconst 0, 1) := by decide +kernel
theorem dX3_costOf_3 : decode cX3_costOf 3 = .ok (.istore 4, 2) := by decide +kernel
theorem dX3_costOf_5 : decode cX3_costOf 5 = .ok (.iload 4, 2) := by decide +kernel
theorem dX3_costOf_7 : decode cX3_costOf 7 = .ok (.bipush 15, 2) := by decide +kernel
theorem dX3_costOf_9 : decode cX3_costOf 9 = .ok (.if_icmp .ge 28, 3) := by decide +kernel
theorem dX3_costOf_12 : decode cX3_costOf 12 = .ok (.iload_n 2, 1) := by decide +kernel
theorem dX3_costOf_13 : decode cX3_costOf 13 = .ok (.iconst 1, 1) := by decide +kernel
theorem dX3_costOf_14 : decode cX3_costOf 14 = .ok (.iload 4, 2) := by decide +kernel
theorem dX3_costOf_16 : decode cX3_costOf 16 = .ok (.ishl, 1) := by decide +kernel
theorem dX3_costOf_17 : decode cX3_costOf 17 = .ok (.iand, 1) := by decide +kernel
theorem dX3_costOf_18 : decode cX3_costOf 18 = .ok (.ifCond .eq 13, 3) := by decide +kernel
theorem dX3_costOf_21 : decode cX3_costOf 21 = .ok (.iload_n 3, 1) := by decide +kernel
theorem dX3_costOf_22 : decode cX3_costOf 22 = .ok (.aload_n 0, 1) := by decide +kernel
theorem dX3_costOf_23 : decode cX3_costOf 23 = .ok (.iload_n 1, 1) := by decide +kernel
theorem dX3_costOf_24 : decode cX3_costOf 24 = .ok (.iload 4, 2) := by decide +kernel
theorem dX3_costOf_26 : decode cX3_costOf 26 = .ok (.invokevirtual 75, 3) := by decide +kernel
theorem dX3_costOf_29 : decode cX3_costOf 29 = .ok (.iadd, 1) := by decide +kernel
theorem dX3_costOf_30 : decode cX3_costOf 30 = .ok (.istore_n 3, 1) := by decide +kernel
theorem dX3_costOf_31 : decode cX3_costOf 31 = .ok (.iinc 4 1, 3) := by decide +kernel
theorem dX3_costOf_34 : decode cX3_costOf 34 = .ok (.goto (-29), 3) := by decide +kernel
theorem dX3_costOf_37 : decode cX3_costOf 37 = .ok (.iload_n 3, 1) := by decide +kernel
theorem dX3_costOf_38 : decode cX3_costOf 38 = .ok (.ireturn, 1) := by decide +kernel
set_option maxRecDepth 20000 in
theorem ggX3_canHave_X3_isDryBehind : GoodIn wsX3_canHave wsX3_isDryBehind := goodIn_r _ [6, 7, 8, 9, 10, 5, 11, 12, 13, 14, 19, 20, 21, 22, 23, 24, 25, 26, 27, 28, 29] (by decide +kernel) (by decide +kernel)
set_option maxRecDepth 20000 in
theorem gX3_canHave_X3_isDryBehind : GoodIn wsX3_canHave (wsV RX3 78 RX3 yX3_isDryBehind wsX3_isDryBehind) := goodIn_app (goodIn_of _ (by decide +kernel)) ggX3_canHave_X3_isDryBehind
set_option maxRecDepth 20000 in
theorem ggX3_canHave_X4_takes : GoodIn wsX3_canHave wsX4_takes := goodIn_r _ [18] (by decide +kernel) (by decide +kernel)
set_option maxRecDepth 20000 in
theorem gX3_canHave_X4_takes : GoodIn wsX3_canHave (va_wsS RX3 82 yX4_takes wsX4_takes) := goodIn_app (goodIn_of _ (by decide +kernel)) ggX3_canHave_X4_takes
theorem dX3_canHave_0 : decode cX3_canHave 0 = .ok (.aload_n 0, 1) := by decide +kernel
theorem dX3_canHave_1 : decode cX3_canHave 1 = .ok (.getfield 18, 3) := by decide +kernel
theorem dX3_canHave_4 : decode cX3_canHave 4 = .ok (.iload_n 1, 1) := by decide +kernel
theorem dX3_canHave_5 : decode cX3_canHave 5 = .ok (.iaload, 1) := by decide +kernel
theorem dX3_canHave_6 : decode cX3_canHave 6 = .ok (.aload_n 0, 1) := by decide +kernel
theorem dX3_canHave_7 : decode cX3_canHave 7 = .ok (.iconst 0, 1) := by decide +kernel
theorem dX3_canHave_8 : decode cX3_canHave 8 = .ok (.iload_n 2, 1) := by decide +kernel
theorem dX3_canHave_9 : decode cX3_canHave 9 = .ok (.invokevirtual 78, 3) := by decide +kernel
theorem dX3_canHave_12 : decode cX3_canHave 12 = .ok (.invokestatic 82, 3) := by decide +kernel
theorem dX3_canHave_15 : decode cX3_canHave 15 = .ok (.ireturn, 1) := by decide +kernel
set_option maxRecDepth 20000 in
theorem ggX3_sell_X3_costTo : GoodIn wsX3_sell wsX3_costTo := goodIn_r _ [7, 8, 9, 10, 11, 6, 12, 13, 14, 15, 16, 17, 18, 19, 20, 21, 22, 23, 24, 25, 26, 27, 28, 29] (by decide +kernel) (by decide +kernel)
set_option maxRecDepth 20000 in
theorem gX3_sell_X3_costTo : GoodIn wsX3_sell (wsV RX3 86 RX3 yX3_costTo wsX3_costTo) := goodIn_app (goodIn_of _ (by decide +kernel)) ggX3_sell_X3_costTo
theorem dX3_sell_0 : decode cX3_sell 0 = .ok (.aload_n 0, 1) := by decide +kernel
theorem dX3_sell_1 : decode cX3_sell 1 = .ok (.getfield 21, 3) := by decide +kernel
theorem dX3_sell_4 : decode cX3_sell 4 = .ok (.iload_n 1, 1) := by decide +kernel
theorem dX3_sell_5 : decode cX3_sell 5 = .ok (.dup2, 1) := by decide +kernel
theorem dX3_sell_6 : decode cX3_sell 6 = .ok (.iaload, 1) := by decide +kernel
theorem dX3_sell_7 : decode cX3_sell 7 = .ok (.aload_n 0, 1) := by decide +kernel
theorem dX3_sell_8 : decode cX3_sell 8 = .ok (.iload_n 1, 1) := by decide +kernel
theorem dX3_sell_9 : decode cX3_sell 9 = .ok (.iload_n 2, 1) := by decide +kernel
theorem dX3_sell_10 : decode cX3_sell 10 = .ok (.invokevirtual 86, 3) := by decide +kernel
theorem dX3_sell_13 : decode cX3_sell 13 = .ok (.isub, 1) := by decide +kernel
theorem dX3_sell_14 : decode cX3_sell 14 = .ok (.iastore, 1) := by decide +kernel
theorem dX3_sell_15 : decode cX3_sell 15 = .ok (.aload_n 0, 1) := by decide +kernel
theorem dX3_sell_16 : decode cX3_sell 16 = .ok (.getfield 15, 3) := by decide +kernel
theorem dX3_sell_19 : decode cX3_sell 19 = .ok (.iload_n 2, 1) := by decide +kernel
theorem dX3_sell_20 : decode cX3_sell 20 = .ok (.iload_n 1, 1) := by decide +kernel
theorem dX3_sell_21 : decode cX3_sell 21 = .ok (.iastore, 1) := by decide +kernel
theorem dX3_sell_22 : decode cX3_sell 22 = .ok (.return_, 1) := by decide +kernel
theorem dX3_putStones_0 : decode cX3_putStones 0 = .ok (.aload_n 0, 1) := by decide +kernel
theorem dX3_putStones_1 : decode cX3_putStones 1 = .ok (.getfield 9, 3) := by decide +kernel
theorem dX3_putStones_4 : decode cX3_putStones 4 = .ok (.iload_n 1, 1) := by decide +kernel
theorem dX3_putStones_5 : decode cX3_putStones 5 = .ok (.dup2, 1) := by decide +kernel
theorem dX3_putStones_6 : decode cX3_putStones 6 = .ok (.iaload, 1) := by decide +kernel
theorem dX3_putStones_7 : decode cX3_putStones 7 = .ok (.iconst 1, 1) := by decide +kernel
theorem dX3_putStones_8 : decode cX3_putStones 8 = .ok (.iadd, 1) := by decide +kernel
theorem dX3_putStones_9 : decode cX3_putStones 9 = .ok (.iastore, 1) := by decide +kernel
theorem dX3_putStones_10 : decode cX3_putStones 10 = .ok (.return_, 1) := by decide +kernel
theorem dX3_handOver_0 : decode cX3_handOver 0 = .ok (.aload_n 0, 1) := by decide +kernel
theorem dX3_handOver_1 : decode cX3_handOver 1 = .ok (.getfield 15, 3) := by decide +kernel
theorem dX3_handOver_4 : decode cX3_handOver 4 = .ok (.iload_n 1, 1) := by decide +kernel
theorem dX3_handOver_5 : decode cX3_handOver 5 = .ok (.iload_n 2, 1) := by decide +kernel
theorem dX3_handOver_6 : decode cX3_handOver 6 = .ok (.iastore, 1) := by decide +kernel
theorem dX3_handOver_7 : decode cX3_handOver 7 = .ok (.return_, 1) := by decide +kernel
set_option maxRecDepth 20000 in
theorem ggX3_passHour_X3_levelBehind : GoodIn wsX3_passHour wsX3_levelBehind := goodIn_r _ [9, 1, 10, 11, 20, 21, 22, 23, 24, 25, 26, 27, 28, 29, 30] (by decide +kernel) (by decide +kernel)
set_option maxRecDepth 20000 in
theorem gX3_passHour_X3_levelBehind : GoodIn wsX3_passHour (wsV RX3 60 RX3 yX3_levelBehind wsX3_levelBehind) := goodIn_app (goodIn_of _ (by decide +kernel)) ggX3_passHour_X3_levelBehind
set_option maxRecDepth 20000 in
theorem ggX3_passHour_X3_isHeld : GoodIn wsX3_passHour wsX3_isHeld := goodIn_r _ [15, 3, 20, 21, 22, 23, 24, 25, 26, 27, 28, 29, 30] (by decide +kernel) (by decide +kernel)
set_option maxRecDepth 20000 in
theorem gX3_passHour_X3_isHeld : GoodIn wsX3_passHour (wsV RX3 89 RX3 yX3_isHeld wsX3_isHeld) := goodIn_app (goodIn_of _ (by decide +kernel)) ggX3_passHour_X3_isHeld
set_option maxRecDepth 20000 in
theorem ggX3_passHour_X4_loses : GoodIn wsX3_passHour wsX4_loses := goodIn_r _ [19] (by decide +kernel) (by decide +kernel)
set_option maxRecDepth 20000 in
theorem gX3_passHour_X4_loses : GoodIn wsX3_passHour (va_wsS RX3 93 yX4_loses wsX4_loses) := goodIn_app (goodIn_of _ (by decide +kernel)) ggX3_passHour_X4_loses
theorem dX3_passHour_0 : decode cX3_passHour 0 = .ok (.aload_n 0, 1) := by decide +kernel
theorem dX3_passHour_1 : decode cX3_passHour 1 = .ok (.dup, 1) := by decide +kernel
theorem dX3_passHour_2 : decode cX3_passHour 2 = .ok (.getfield 34, 3) := by decide +kernel
theorem dX3_passHour_5 : decode cX3_passHour 5 = .ok (.iconst 1, 1) := by decide +kernel
theorem dX3_passHour_6 : decode cX3_passHour 6 = .ok (.iadd, 1) := by decide +kernel
theorem dX3_passHour_7 : decode cX3_passHour 7 = .ok (.putfield 34, 3) := by decide +kernel
theorem dX3_passHour_10 : decode cX3_passHour 10 = .ok (.aload_n 0, 1) := by decide +kernel
theorem dX3_passHour_11 : decode cX3_passHour 11 = .ok (.iconst 0, 1) := by decide +kernel
theorem dX3_passHour_12 : decode cX3_passHour 12 = .ok (.invokevirtual 60, 3) := by decide +kernel
theorem dX3_passHour_15 : decode cX3_passHour 15 = .ok (.istore_n 1, 1) := by decide +kernel
theorem dX3_passHour_16 : decode cX3_passHour 16 = .ok (.iconst 0, 1) := by decide +kernel
theorem dX3_passHour_17 : decode cX3_passHour 17 = .ok (.istore_n 2, 1) := by decide +kernel
theorem dX3_passHour_18 : decode cX3_passHour 18 = .ok (.iload_n 2, 1) := by decide +kernel
theorem dX3_passHour_19 : decode cX3_passHour 19 = .ok (.bipush 15, 2) := by decide +kernel
theorem dX3_passHour_21 : decode cX3_passHour 21 = .ok (.if_icmp .ge 48, 3) := by decide +kernel
theorem dX3_passHour_24 : decode cX3_passHour 24 = .ok (.aload_n 0, 1) := by decide +kernel
theorem dX3_passHour_25 : decode cX3_passHour 25 = .ok (.iload_n 2, 1) := by decide +kernel
theorem dX3_passHour_26 : decode cX3_passHour 26 = .ok (.invokevirtual 89, 3) := by decide +kernel
theorem dX3_passHour_29 : decode cX3_passHour 29 = .ok (.ifCond .eq 34, 3) := by decide +kernel
theorem dX3_passHour_32 : decode cX3_passHour 32 = .ok (.aload_n 0, 1) := by decide +kernel
theorem dX3_passHour_33 : decode cX3_passHour 33 = .ok (.getfield 18, 3) := by decide +kernel
theorem dX3_passHour_36 : decode cX3_passHour 36 = .ok (.aload_n 0, 1) := by decide +kernel
theorem dX3_passHour_37 : decode cX3_passHour 37 = .ok (.getfield 15, 3) := by decide +kernel
theorem dX3_passHour_40 : decode cX3_passHour 40 = .ok (.iload_n 2, 1) := by decide +kernel
theorem dX3_passHour_41 : decode cX3_passHour 41 = .ok (.iaload, 1) := by decide +kernel
theorem dX3_passHour_42 : decode cX3_passHour 42 = .ok (.iaload, 1) := by decide +kernel
theorem dX3_passHour_43 : decode cX3_passHour 43 = .ok (.iload_n 1, 1) := by decide +kernel
theorem dX3_passHour_44 : decode cX3_passHour 44 = .ok (.aload_n 0, 1) := by decide +kernel
theorem dX3_passHour_45 : decode cX3_passHour 45 = .ok (.getfield 9, 3) := by decide +kernel
theorem dX3_passHour_48 : decode cX3_passHour 48 = .ok (.iload_n 2, 1) := by decide +kernel
theorem dX3_passHour_49 : decode cX3_passHour 49 = .ok (.iaload, 1) := by decide +kernel
theorem dX3_passHour_50 : decode cX3_passHour 50 = .ok (.invokestatic 93, 3) := by decide +kernel
theorem dX3_passHour_53 : decode cX3_passHour 53 = .ok (.ifCond .eq 10, 3) := by decide +kernel
theorem dX3_passHour_56 : decode cX3_passHour 56 = .ok (.aload_n 0, 1) := by decide +kernel
theorem dX3_passHour_57 : decode cX3_passHour 57 = .ok (.getfield 15, 3) := by decide +kernel
theorem dX3_passHour_60 : decode cX3_passHour 60 = .ok (.iload_n 2, 1) := by decide +kernel
theorem dX3_passHour_61 : decode cX3_passHour 61 = .ok (.iconst (-1), 1) := by decide +kernel
theorem dX3_passHour_62 : decode cX3_passHour 62 = .ok (.iastore, 1) := by decide +kernel
theorem dX3_passHour_63 : decode cX3_passHour 63 = .ok (.iinc 2 1, 3) := by decide +kernel
theorem dX3_passHour_66 : decode cX3_passHour 66 = .ok (.goto (-48), 3) := by decide +kernel
theorem dX3_passHour_69 : decode cX3_passHour 69 = .ok (.return_, 1) := by decide +kernel
set_option maxRecDepth 20000 in
theorem ggX3_passDrawnHours_X3_isHeld : GoodIn wsX3_passDrawnHours wsX3_isHeld := goodIn_r _ [10, 11, 56, 57, 58, 59, 60, 61, 62, 63, 64, 65, 66] (by decide +kernel) (by decide +kernel)
set_option maxRecDepth 20000 in
theorem gX3_passDrawnHours_X3_isHeld : GoodIn wsX3_passDrawnHours (wsV RX3 89 RX3 yX3_isHeld wsX3_isHeld) := goodIn_app (goodIn_of _ (by decide +kernel)) ggX3_passDrawnHours_X3_isHeld
set_option maxRecDepth 20000 in
theorem ggX3_passDrawnHours_X3_canHave : GoodIn wsX3_passDrawnHours wsX3_canHave := goodIn_r _ [15, 16, 17, 18, 19, 9, 20, 21, 22, 23, 24, 25, 26, 27, 28, 29, 30, 31, 32, 56, 57, 58, 59, 60, 61, 62, 63, 64, 65, 66] (by decide +kernel) (by decide +kernel)
set_option maxRecDepth 20000 in
theorem gX3_passDrawnHours_X3_canHave : GoodIn wsX3_passDrawnHours (wsV RX3 103 RX3 yX3_canHave wsX3_canHave) := goodIn_app (goodIn_of _ (by decide +kernel)) ggX3_passDrawnHours_X3_canHave
set_option maxRecDepth 20000 in
theorem ggX3_passDrawnHours_X3_costTo : GoodIn wsX3_passDrawnHours wsX3_costTo := goodIn_r _ [36, 16, 37, 38, 39, 9, 40, 41, 21, 42, 43, 31, 44, 56, 57, 58, 59, 60, 61, 62, 63, 64, 65, 66] (by decide +kernel) (by decide +kernel)
set_option maxRecDepth 20000 in
theorem gX3_passDrawnHours_X3_costTo : GoodIn wsX3_passDrawnHours (wsV RX3 86 RX3 yX3_costTo wsX3_costTo) := goodIn_app (goodIn_of _ (by decide +kernel)) ggX3_passDrawnHours_X3_costTo
set_option maxRecDepth 20000 in
theorem ggX3_passDrawnHours_X3_sell : GoodIn wsX3_passDrawnHours wsX3_sell := goodIn_r _ [48, 5, 11, 33, 34, 35, 9, 36, 16, 37, 38, 39, 40, 41, 21, 42, 43, 31, 44, 56, 57, 58, 59, 60, 61, 62, 63, 64, 65, 66] (by decide +kernel) (by decide +kernel)
set_option maxRecDepth 20000 in
theorem gX3_passDrawnHours_X3_sell : GoodIn wsX3_passDrawnHours (wsV RX3 106 RX3 yX3_sell wsX3_sell) := goodIn_app (goodIn_of _ (by decide +kernel)) ggX3_passDrawnHours_X3_sell
set_option maxRecDepth 20000 in
theorem ggX3_passDrawnHours_X3_passHour : GoodIn wsX3_passDrawnHours wsX3_passHour := goodIn_r _ [52, 26, 16, 11, 21, 22, 23, 24, 9, 25, 27, 28, 6, 7, 8, 10, 53, 54, 31, 55, 56, 57, 58, 59, 60, 61, 62, 63, 64, 65, 66] (by decide +kernel) (by decide +kernel)
set_option maxRecDepth 20000 in
theorem gX3_passDrawnHours_X3_passHour : GoodIn wsX3_passDrawnHours (wsV RX3 110 RX3 yX3_passHour wsX3_passHour) := goodIn_app (goodIn_of _ (by decide +kernel)) ggX3_passDrawnHours_X3_passHour
theorem dX3_passDrawnHours_0 : decode cX3_passDrawnHours 0 = .ok (.iload_n 2, 1) := by decide +kernel
theorem dX3_passDrawnHours_1 : decode cX3_passDrawnHours 1 = .ok (.i2l, 1) := by decide +kernel
theorem dX3_passDrawnHours_2 : decode cX3_passDrawnHours 2 = .ok (.lstore_n 3, 1) := by decide +kernel
theorem dX3_passDrawnHours_3 : decode cX3_passDrawnHours 3 = .ok (.iconst 0, 1) := by decide +kernel
theorem dX3_passDrawnHours_4 : decode cX3_passDrawnHours 4 = .ok (.istore 5, 2) := by decide +kernel
theorem dX3_passDrawnHours_6 : decode cX3_passDrawnHours 6 = .ok (.iload 5, 2) := by decide +kernel
theorem dX3_passDrawnHours_8 : decode cX3_passDrawnHours 8 = .ok (.iload_n 1, 1) := by decide +kernel
theorem dX3_passDrawnHours_9 : decode cX3_passDrawnHours 9 = .ok (.if_icmp .ge 94, 3) := by decide +kernel
theorem dX3_passDrawnHours_12 : decode cX3_passDrawnHours 12 = .ok (.aload_n 0, 1) := by decide +kernel
theorem dX3_passDrawnHours_13 : decode cX3_passDrawnHours 13 = .ok (.getfield 38, 3) := by decide +kernel
theorem dX3_passDrawnHours_16 : decode cX3_passDrawnHours 16 = .ok (.ifCond .le 87, 3) := by decide +kernel
theorem dX3_passDrawnHours_19 : decode cX3_passDrawnHours 19 = .ok (.lload_n 3, 1) := by decide +kernel
theorem dX3_passDrawnHours_20 : decode cX3_passDrawnHours 20 = .ok (.ldc2_w 97, 3) := by decide +kernel
theorem dX3_passDrawnHours_23 : decode cX3_passDrawnHours 23 = .ok (.lmul, 1) := by decide +kernel
theorem dX3_passDrawnHours_24 : decode cX3_passDrawnHours 24 = .ok (.ldc2_w 99, 3) := by decide +kernel
theorem dX3_passDrawnHours_27 : decode cX3_passDrawnHours 27 = .ok (.lrem, 1) := by decide +kernel
theorem dX3_passDrawnHours_28 : decode cX3_passDrawnHours 28 = .ok (.lstore_n 3, 1) := by decide +kernel
theorem dX3_passDrawnHours_29 : decode cX3_passDrawnHours 29 = .ok (.lload_n 3, 1) := by decide +kernel
theorem dX3_passDrawnHours_30 : decode cX3_passDrawnHours 30 = .ok (.aload_n 0, 1) := by decide +kernel
theorem dX3_passDrawnHours_31 : decode cX3_passDrawnHours 31 = .ok (.getfield 38, 3) := by decide +kernel
theorem dX3_passDrawnHours_34 : decode cX3_passDrawnHours 34 = .ok (.i2l, 1) := by decide +kernel
theorem dX3_passDrawnHours_35 : decode cX3_passDrawnHours 35 = .ok (.lrem, 1) := by decide +kernel
theorem dX3_passDrawnHours_36 : decode cX3_passDrawnHours 36 = .ok (.l2i, 1) := by decide +kernel
theorem dX3_passDrawnHours_37 : decode cX3_passDrawnHours 37 = .ok (.istore 6, 2) := by decide +kernel
theorem dX3_passDrawnHours_39 : decode cX3_passDrawnHours 39 = .ok (.lload_n 3, 1) := by decide +kernel
theorem dX3_passDrawnHours_40 : decode cX3_passDrawnHours 40 = .ok (.ldc2_w 101, 3) := by decide +kernel
theorem dX3_passDrawnHours_43 : decode cX3_passDrawnHours 43 = .ok (.lrem, 1) := by decide +kernel
theorem dX3_passDrawnHours_44 : decode cX3_passDrawnHours 44 = .ok (.l2i, 1) := by decide +kernel
theorem dX3_passDrawnHours_45 : decode cX3_passDrawnHours 45 = .ok (.istore 7, 2) := by decide +kernel
theorem dX3_passDrawnHours_47 : decode cX3_passDrawnHours 47 = .ok (.aload_n 0, 1) := by decide +kernel
theorem dX3_passDrawnHours_48 : decode cX3_passDrawnHours 48 = .ok (.iload 7, 2) := by decide +kernel
theorem dX3_passDrawnHours_50 : decode cX3_passDrawnHours 50 = .ok (.invokevirtual 89, 3) := by decide +kernel
theorem dX3_passDrawnHours_53 : decode cX3_passDrawnHours 53 = .ok (.ifCond .ne 40, 3) := by decide +kernel
theorem dX3_passDrawnHours_56 : decode cX3_passDrawnHours 56 = .ok (.aload_n 0, 1) := by decide +kernel
theorem dX3_passDrawnHours_57 : decode cX3_passDrawnHours 57 = .ok (.iload 6, 2) := by decide +kernel
theorem dX3_passDrawnHours_59 : decode cX3_passDrawnHours 59 = .ok (.iload 7, 2) := by decide +kernel
theorem dX3_passDrawnHours_61 : decode cX3_passDrawnHours 61 = .ok (.invokevirtual 103, 3) := by decide +kernel
theorem dX3_passDrawnHours_64 : decode cX3_passDrawnHours 64 = .ok (.ifCond .eq 29, 3) := by decide +kernel
theorem dX3_passDrawnHours_67 : decode cX3_passDrawnHours 67 = .ok (.aload_n 0, 1) := by decide +kernel
theorem dX3_passDrawnHours_68 : decode cX3_passDrawnHours 68 = .ok (.iload 6, 2) := by decide +kernel
theorem dX3_passDrawnHours_70 : decode cX3_passDrawnHours 70 = .ok (.iload 7, 2) := by decide +kernel
theorem dX3_passDrawnHours_72 : decode cX3_passDrawnHours 72 = .ok (.invokevirtual 86, 3) := by decide +kernel
theorem dX3_passDrawnHours_75 : decode cX3_passDrawnHours 75 = .ok (.aload_n 0, 1) := by decide +kernel
theorem dX3_passDrawnHours_76 : decode cX3_passDrawnHours 76 = .ok (.getfield 21, 3) := by decide +kernel
theorem dX3_passDrawnHours_79 : decode cX3_passDrawnHours 79 = .ok (.iload 6, 2) := by decide +kernel
theorem dX3_passDrawnHours_81 : decode cX3_passDrawnHours 81 = .ok (.iaload, 1) := by decide +kernel
theorem dX3_passDrawnHours_82 : decode cX3_passDrawnHours 82 = .ok (.if_icmp .gt 11, 3) := by decide +kernel
theorem dX3_passDrawnHours_85 : decode cX3_passDrawnHours 85 = .ok (.aload_n 0, 1) := by decide +kernel
theorem dX3_passDrawnHours_86 : decode cX3_passDrawnHours 86 = .ok (.iload 6, 2) := by decide +kernel
theorem dX3_passDrawnHours_88 : decode cX3_passDrawnHours 88 = .ok (.iload 7, 2) := by decide +kernel
theorem dX3_passDrawnHours_90 : decode cX3_passDrawnHours 90 = .ok (.invokevirtual 106, 3) := by decide +kernel
theorem dX3_passDrawnHours_93 : decode cX3_passDrawnHours 93 = .ok (.aload_n 0, 1) := by decide +kernel
theorem dX3_passDrawnHours_94 : decode cX3_passDrawnHours 94 = .ok (.invokevirtual 110, 3) := by decide +kernel
theorem dX3_passDrawnHours_97 : decode cX3_passDrawnHours 97 = .ok (.iinc 5 1, 3) := by decide +kernel
theorem dX3_passDrawnHours_100 : decode cX3_passDrawnHours 100 = .ok (.goto (-94), 3) := by decide +kernel
theorem dX3_passDrawnHours_103 : decode cX3_passDrawnHours 103 = .ok (.return_, 1) := by decide +kernel
set_option maxRecDepth 20000 in
theorem ggX3_hoursTillLost_X3_levelBehind : GoodIn wsX3_hoursTillLost wsX3_levelBehind := goodIn_r _ [7, 8, 9, 10, 15, 16, 17, 18, 19, 20, 21, 22, 23, 24, 25] (by decide +kernel) (by decide +kernel)
set_option maxRecDepth 20000 in
theorem gX3_hoursTillLost_X3_levelBehind : GoodIn wsX3_hoursTillLost (wsV RX3 60 RX3 yX3_levelBehind wsX3_levelBehind) := goodIn_app (goodIn_of _ (by decide +kernel)) ggX3_hoursTillLost_X3_levelBehind
set_option maxRecDepth 20000 in
theorem ggX3_hoursTillLost_X4_loses : GoodIn wsX3_hoursTillLost wsX4_loses := goodIn_r _ [14] (by decide +kernel) (by decide +kernel)
set_option maxRecDepth 20000 in
theorem gX3_hoursTillLost_X4_loses : GoodIn wsX3_hoursTillLost (va_wsS RX3 93 yX4_loses wsX4_loses) := goodIn_app (goodIn_of _ (by decide +kernel)) ggX3_hoursTillLost_X4_loses
theorem dX3_hoursTillLost_0 : decode cX3_hoursTillLost 0 = .ok (.iconst 1, 1) := by decide +kernel
theorem dX3_hoursTillLost_1 : decode cX3_hoursTillLost 1 = .ok (.istore 4, 2) := by decide +kernel
theorem dX3_hoursTillLost_3 : decode cX3_hoursTillLost 3 = .ok (.iload 4, 2) := by decide +kernel
theorem dX3_hoursTillLost_5 : decode cX3_hoursTillLost 5 = .ok (.iload_n 3, 1) := by decide +kernel
theorem dX3_hoursTillLost_6 : decode cX3_hoursTillLost 6 = .ok (.if_icmp .gt 36, 3) := by decide +kernel
theorem dX3_hoursTillLost_9 : decode cX3_hoursTillLost 9 = .ok (.aload_n 0, 1) := by decide +kernel
theorem dX3_hoursTillLost_10 : decode cX3_hoursTillLost 10 = .ok (.getfield 18, 3) := by decide +kernel
theorem dX3_hoursTillLost_13 : decode cX3_hoursTillLost 13 = .ok (.iload_n 1, 1) := by decide +kernel
theorem dX3_hoursTillLost_14 : decode cX3_hoursTillLost 14 = .ok (.iaload, 1) := by decide +kernel
theorem dX3_hoursTillLost_15 : decode cX3_hoursTillLost 15 = .ok (.aload_n 0, 1) := by decide +kernel
theorem dX3_hoursTillLost_16 : decode cX3_hoursTillLost 16 = .ok (.iload 4, 2) := by decide +kernel
theorem dX3_hoursTillLost_18 : decode cX3_hoursTillLost 18 = .ok (.invokevirtual 60, 3) := by decide +kernel
theorem dX3_hoursTillLost_21 : decode cX3_hoursTillLost 21 = .ok (.aload_n 0, 1) := by decide +kernel
theorem dX3_hoursTillLost_22 : decode cX3_hoursTillLost 22 = .ok (.getfield 9, 3) := by decide +kernel
theorem dX3_hoursTillLost_25 : decode cX3_hoursTillLost 25 = .ok (.iload_n 2, 1) := by decide +kernel
theorem dX3_hoursTillLost_26 : decode cX3_hoursTillLost 26 = .ok (.iaload, 1) := by decide +kernel
theorem dX3_hoursTillLost_27 : decode cX3_hoursTillLost 27 = .ok (.invokestatic 93, 3) := by decide +kernel
theorem dX3_hoursTillLost_30 : decode cX3_hoursTillLost 30 = .ok (.ifCond .eq 6, 3) := by decide +kernel
theorem dX3_hoursTillLost_33 : decode cX3_hoursTillLost 33 = .ok (.iload 4, 2) := by decide +kernel
theorem dX3_hoursTillLost_35 : decode cX3_hoursTillLost 35 = .ok (.ireturn, 1) := by decide +kernel
theorem dX3_hoursTillLost_36 : decode cX3_hoursTillLost 36 = .ok (.iinc 4 1, 3) := by decide +kernel
theorem dX3_hoursTillLost_39 : decode cX3_hoursTillLost 39 = .ok (.goto (-36), 3) := by decide +kernel
theorem dX3_hoursTillLost_42 : decode cX3_hoursTillLost 42 = .ok (.iload_n 3, 1) := by decide +kernel
theorem dX3_hoursTillLost_43 : decode cX3_hoursTillLost 43 = .ok (.iconst 1, 1) := by decide +kernel
theorem dX3_hoursTillLost_44 : decode cX3_hoursTillLost 44 = .ok (.iadd, 1) := by decide +kernel
theorem dX3_hoursTillLost_45 : decode cX3_hoursTillLost 45 = .ok (.ireturn, 1) := by decide +kernel
set_option maxRecDepth 20000 in
theorem ggX3_freeFor_X3_isHeld : GoodIn wsX3_freeFor wsX3_isHeld := goodIn_r _ [5, 6, 28, 29, 30, 31, 32, 33, 34, 35, 36, 37, 38] (by decide +kernel) (by decide +kernel)
set_option maxRecDepth 20000 in
theorem gX3_freeFor_X3_isHeld : GoodIn wsX3_freeFor (wsV RX3 89 RX3 yX3_isHeld wsX3_isHeld) := goodIn_app (goodIn_of _ (by decide +kernel)) ggX3_freeFor_X3_isHeld
set_option maxRecDepth 20000 in
theorem ggX3_freeFor_X3_canHave : GoodIn wsX3_freeFor wsX3_canHave := goodIn_r _ [10, 11, 12, 13, 14, 4, 15, 16, 17, 18, 19, 20, 21, 22, 23, 24, 25, 26, 27, 28, 29, 30, 31, 32, 33, 34, 35, 36, 37, 38] (by decide +kernel) (by decide +kernel)
set_option maxRecDepth 20000 in
theorem gX3_freeFor_X3_canHave : GoodIn wsX3_freeFor (wsV RX3 103 RX3 yX3_canHave wsX3_canHave) := goodIn_app (goodIn_of _ (by decide +kernel)) ggX3_freeFor_X3_canHave
theorem dX3_freeFor_0 : decode cX3_freeFor 0 = .ok (.iconst 0, 1) := by decide +kernel
theorem dX3_freeFor_1 : decode cX3_freeFor 1 = .ok (.istore_n 2, 1) := by decide +kernel
theorem dX3_freeFor_2 : decode cX3_freeFor 2 = .ok (.iconst 0, 1) := by decide +kernel
theorem dX3_freeFor_3 : decode cX3_freeFor 3 = .ok (.istore_n 3, 1) := by decide +kernel
theorem dX3_freeFor_4 : decode cX3_freeFor 4 = .ok (.iload_n 3, 1) := by decide +kernel
theorem dX3_freeFor_5 : decode cX3_freeFor 5 = .ok (.bipush 15, 2) := by decide +kernel
theorem dX3_freeFor_7 : decode cX3_freeFor 7 = .ok (.if_icmp .ge 32, 3) := by decide +kernel
theorem dX3_freeFor_10 : decode cX3_freeFor 10 = .ok (.aload_n 0, 1) := by decide +kernel
theorem dX3_freeFor_11 : decode cX3_freeFor 11 = .ok (.iload_n 3, 1) := by decide +kernel
theorem dX3_freeFor_12 : decode cX3_freeFor 12 = .ok (.invokevirtual 89, 3) := by decide +kernel
theorem dX3_freeFor_15 : decode cX3_freeFor 15 = .ok (.ifCond .ne 18, 3) := by decide +kernel
theorem dX3_freeFor_18 : decode cX3_freeFor 18 = .ok (.aload_n 0, 1) := by decide +kernel
theorem dX3_freeFor_19 : decode cX3_freeFor 19 = .ok (.iload_n 1, 1) := by decide +kernel
theorem dX3_freeFor_20 : decode cX3_freeFor 20 = .ok (.iload_n 3, 1) := by decide +kernel
theorem dX3_freeFor_21 : decode cX3_freeFor 21 = .ok (.invokevirtual 103, 3) := by decide +kernel
theorem dX3_freeFor_24 : decode cX3_freeFor 24 = .ok (.ifCond .eq 9, 3) := by decide +kernel
theorem dX3_freeFor_27 : decode cX3_freeFor 27 = .ok (.iload_n 2, 1) := by decide +kernel
theorem dX3_freeFor_28 : decode cX3_freeFor 28 = .ok (.iconst 1, 1) := by decide +kernel
theorem dX3_freeFor_29 : decode cX3_freeFor 29 = .ok (.iload_n 3, 1) := by decide +kernel
theorem dX3_freeFor_30 : decode cX3_freeFor 30 = .ok (.ishl, 1) := by decide +kernel
theorem dX3_freeFor_31 : decode cX3_freeFor 31 = .ok (.ior, 1) := by decide +kernel
theorem dX3_freeFor_32 : decode cX3_freeFor 32 = .ok (.istore_n 2, 1) := by decide +kernel
theorem dX3_freeFor_33 : decode cX3_freeFor 33 = .ok (.iinc 3 1, 3) := by decide +kernel
theorem dX3_freeFor_36 : decode cX3_freeFor 36 = .ok (.goto (-32), 3) := by decide +kernel
theorem dX3_freeFor_39 : decode cX3_freeFor 39 = .ok (.iload_n 2, 1) := by decide +kernel
theorem dX3_freeFor_40 : decode cX3_freeFor 40 = .ok (.ireturn, 1) := by decide +kernel
set_option maxRecDepth 20000 in
theorem ggX3_keptFor_X3_freeFor : GoodIn wsX3_keptFor wsX3_freeFor := goodIn_r _ [5, 6, 7, 8, 4, 9, 10, 11, 12, 13, 14, 15, 16, 17, 18, 19, 20, 21, 22, 23, 24, 25, 26, 27, 28, 29, 30, 31, 39, 40, 41, 42, 43, 44, 45, 46, 47, 48, 49] (by decide +kernel) (by decide +kernel)
set_option maxRecDepth 20000 in
theorem gX3_keptFor_X3_freeFor : GoodIn wsX3_keptFor (wsV RX3 113 RX3 yX3_freeFor wsX3_freeFor) := goodIn_app (goodIn_of _ (by decide +kernel)) ggX3_keptFor_X3_freeFor
set_option maxRecDepth 20000 in
theorem ggX3_keptFor_X3_hoursTillLost : GoodIn wsX3_keptFor wsX3_hoursTillLost := goodIn_r _ [35, 15, 20, 21, 22, 23, 4, 24, 25, 26, 27, 36, 37, 30, 38, 39, 40, 41, 42, 43, 44, 45, 46, 47, 48, 49] (by decide +kernel) (by decide +kernel)
set_option maxRecDepth 20000 in
theorem gX3_keptFor_X3_hoursTillLost : GoodIn wsX3_keptFor (wsV RX3 116 RX3 yX3_hoursTillLost wsX3_hoursTillLost) := goodIn_app (goodIn_of _ (by decide +kernel)) ggX3_keptFor_X3_hoursTillLost
theorem dX3_keptFor_0 : decode cX3_keptFor 0 = .ok (.aload_n 0, 1) := by decide +kernel
theorem dX3_keptFor_1 : decode cX3_keptFor 1 = .ok (.iload_n 1, 1) := by decide +kernel
theorem dX3_keptFor_2 : decode cX3_keptFor 2 = .ok (.invokevirtual 113, 3) := by decide +kernel
theorem dX3_keptFor_5 : decode cX3_keptFor 5 = .ok (.istore_n 3, 1) := by decide +kernel
theorem dX3_keptFor_6 : decode cX3_keptFor 6 = .ok (.iconst 0, 1) := by decide +kernel
theorem dX3_keptFor_7 : decode cX3_keptFor 7 = .ok (.istore 4, 2) := by decide +kernel
theorem dX3_keptFor_9 : decode cX3_keptFor 9 = .ok (.iload 4, 2) := by decide +kernel
theorem dX3_keptFor_11 : decode cX3_keptFor 11 = .ok (.bipush 15, 2) := by decide +kernel
theorem dX3_keptFor_13 : decode cX3_keptFor 13 = .ok (.if_icmp .ge 30, 3) := by decide +kernel
theorem dX3_keptFor_16 : decode cX3_keptFor 16 = .ok (.aload_n 0, 1) := by decide +kernel
theorem dX3_keptFor_17 : decode cX3_keptFor 17 = .ok (.iload_n 1, 1) := by decide +kernel
theorem dX3_keptFor_18 : decode cX3_keptFor 18 = .ok (.iload 4, 2) := by decide +kernel
theorem dX3_keptFor_20 : decode cX3_keptFor 20 = .ok (.iload_n 2, 1) := by decide +kernel
theorem dX3_keptFor_21 : decode cX3_keptFor 21 = .ok (.invokevirtual 116, 3) := by decide +kernel
theorem dX3_keptFor_24 : decode cX3_keptFor 24 = .ok (.iload_n 2, 1) := by decide +kernel
theorem dX3_keptFor_25 : decode cX3_keptFor 25 = .ok (.if_icmp .gt 12, 3) := by decide +kernel
theorem dX3_keptFor_28 : decode cX3_keptFor 28 = .ok (.iload_n 3, 1) := by decide +kernel
theorem dX3_keptFor_29 : decode cX3_keptFor 29 = .ok (.iconst 1, 1) := by decide +kernel
theorem dX3_keptFor_30 : decode cX3_keptFor 30 = .ok (.iload 4, 2) := by decide +kernel
theorem dX3_keptFor_32 : decode cX3_keptFor 32 = .ok (.ishl, 1) := by decide +kernel
theorem dX3_keptFor_33 : decode cX3_keptFor 33 = .ok (.iconst (-1), 1) := by decide +kernel
theorem dX3_keptFor_34 : decode cX3_keptFor 34 = .ok (.ixor, 1) := by decide +kernel
theorem dX3_keptFor_35 : decode cX3_keptFor 35 = .ok (.iand, 1) := by decide +kernel
theorem dX3_keptFor_36 : decode cX3_keptFor 36 = .ok (.istore_n 3, 1) := by decide +kernel
theorem dX3_keptFor_37 : decode cX3_keptFor 37 = .ok (.iinc 4 1, 3) := by decide +kernel
theorem dX3_keptFor_40 : decode cX3_keptFor 40 = .ok (.goto (-31), 3) := by decide +kernel
theorem dX3_keptFor_43 : decode cX3_keptFor 43 = .ok (.iload_n 3, 1) := by decide +kernel
theorem dX3_keptFor_44 : decode cX3_keptFor 44 = .ok (.ireturn, 1) := by decide +kernel
set_option maxRecDepth 20000 in
theorem ggX3_leastPrices_X3_cheapestOf : GoodIn wsX3_leastPrices wsX3_cheapestOf := goodIn_r _ [5, 6, 7, 8, 4, 9, 10, 11, 12, 13, 14, 15, 16, 17, 18, 19, 20, 21, 22, 23, 24, 25, 26, 27, 28, 29, 30, 31] (by decide +kernel) (by decide +kernel)
set_option maxRecDepth 20000 in
theorem gX3_leastPrices_X3_cheapestOf : GoodIn wsX3_leastPrices (wsV RX3 119 RX3 yX3_cheapestOf wsX3_cheapestOf) := goodIn_app (goodIn_of _ (by decide +kernel)) ggX3_leastPrices_X3_cheapestOf
set_option maxRecDepth 20000 in
theorem ggX3_leastPrices_X3_costTo : GoodIn wsX3_leastPrices wsX3_costTo := goodIn_r _ [9, 10, 11, 12, 13, 4, 14, 15, 16, 17, 18, 19, 20, 21, 22, 23, 24, 25, 26, 27, 28, 29, 30, 31] (by decide +kernel) (by decide +kernel)
set_option maxRecDepth 20000 in
theorem gX3_leastPrices_X3_costTo : GoodIn wsX3_leastPrices (wsV RX3 86 RX3 yX3_costTo wsX3_costTo) := goodIn_app (goodIn_of _ (by decide +kernel)) ggX3_leastPrices_X3_costTo
theorem dX3_leastPrices_0 : decode cX3_leastPrices 0 = .ok (.iload_n 2, 1) := by decide +kernel
theorem dX3_leastPrices_1 : decode cX3_leastPrices 1 = .ok (.istore 4, 2) := by decide +kernel
theorem dX3_leastPrices_3 : decode cX3_leastPrices 3 = .ok (.iconst 0, 1) := by decide +kernel
theorem dX3_leastPrices_4 : decode cX3_leastPrices 4 = .ok (.istore 5, 2) := by decide +kernel
theorem dX3_leastPrices_6 : decode cX3_leastPrices 6 = .ok (.iconst 0, 1) := by decide +kernel
theorem dX3_leastPrices_7 : decode cX3_leastPrices 7 = .ok (.istore 6, 2) := by decide +kernel
theorem dX3_leastPrices_9 : decode cX3_leastPrices 9 = .ok (.iload 6, 2) := by decide +kernel
theorem dX3_leastPrices_11 : decode cX3_leastPrices 11 = .ok (.iload_n 3, 1) := by decide +kernel
theorem dX3_leastPrices_12 : decode cX3_leastPrices 12 = .ok (.if_icmp .ge 46, 3) := by decide +kernel
theorem dX3_leastPrices_15 : decode cX3_leastPrices 15 = .ok (.iload 4, 2) := by decide +kernel
theorem dX3_leastPrices_17 : decode cX3_leastPrices 17 = .ok (.ifCond .eq 41, 3) := by decide +kernel
theorem dX3_leastPrices_20 : decode cX3_leastPrices 20 = .ok (.aload_n 0, 1) := by decide +kernel
theorem dX3_leastPrices_21 : decode cX3_leastPrices 21 = .ok (.iload_n 1, 1) := by decide +kernel
theorem dX3_leastPrices_22 : decode cX3_leastPrices 22 = .ok (.iload 4, 2) := by decide +kernel
theorem dX3_leastPrices_24 : decode cX3_leastPrices 24 = .ok (.invokevirtual 119, 3) := by decide +kernel
theorem dX3_leastPrices_27 : decode cX3_leastPrices 27 = .ok (.istore 7, 2) := by decide +kernel
theorem dX3_leastPrices_29 : decode cX3_leastPrices 29 = .ok (.iload 5, 2) := by decide +kernel
theorem dX3_leastPrices_31 : decode cX3_leastPrices 31 = .ok (.aload_n 0, 1) := by decide +kernel
theorem dX3_leastPrices_32 : decode cX3_leastPrices 32 = .ok (.iload_n 1, 1) := by decide +kernel
theorem dX3_leastPrices_33 : decode cX3_leastPrices 33 = .ok (.iload 7, 2) := by decide +kernel
theorem dX3_leastPrices_35 : decode cX3_leastPrices 35 = .ok (.invokevirtual 86, 3) := by decide +kernel
theorem dX3_leastPrices_38 : decode cX3_leastPrices 38 = .ok (.iadd, 1) := by decide +kernel
theorem dX3_leastPrices_39 : decode cX3_leastPrices 39 = .ok (.istore 5, 2) := by decide +kernel
theorem dX3_leastPrices_41 : decode cX3_leastPrices 41 = .ok (.iload 4, 2) := by decide +kernel
theorem dX3_leastPrices_43 : decode cX3_leastPrices 43 = .ok (.iconst 1, 1) := by decide +kernel
theorem dX3_leastPrices_44 : decode cX3_leastPrices 44 = .ok (.iload 7, 2) := by decide +kernel
theorem dX3_leastPrices_46 : decode cX3_leastPrices 46 = .ok (.ishl, 1) := by decide +kernel
theorem dX3_leastPrices_47 : decode cX3_leastPrices 47 = .ok (.iconst (-1), 1) := by decide +kernel
theorem dX3_leastPrices_48 : decode cX3_leastPrices 48 = .ok (.ixor, 1) := by decide +kernel
theorem dX3_leastPrices_49 : decode cX3_leastPrices 49 = .ok (.iand, 1) := by decide +kernel
theorem dX3_leastPrices_50 : decode cX3_leastPrices 50 = .ok (.istore 4, 2) := by decide +kernel
theorem dX3_leastPrices_52 : decode cX3_leastPrices 52 = .ok (.iinc 6 1, 3) := by decide +kernel
theorem dX3_leastPrices_55 : decode cX3_leastPrices 55 = .ok (.goto (-46), 3) := by decide +kernel
theorem dX3_leastPrices_58 : decode cX3_leastPrices 58 = .ok (.iload 5, 2) := by decide +kernel
theorem dX3_leastPrices_60 : decode cX3_leastPrices 60 = .ok (.ireturn, 1) := by decide +kernel
set_option maxRecDepth 20000 in
theorem ggX3_cheapestOf_X3_costTo : GoodIn wsX3_cheapestOf wsX3_costTo := goodIn_r _ [5, 6, 7, 8, 9, 4, 10, 11, 12, 13, 14, 15, 16, 17, 18, 19, 20, 21, 22, 23, 24, 25, 26, 27] (by decide +kernel) (by decide +kernel)
set_option maxRecDepth 20000 in
theorem gX3_cheapestOf_X3_costTo : GoodIn wsX3_cheapestOf (wsV RX3 86 RX3 yX3_costTo wsX3_costTo) := goodIn_app (goodIn_of _ (by decide +kernel)) ggX3_cheapestOf_X3_costTo
theorem dX3_cheapestOf_0 : decode cX3_cheapestOf 0 = .ok (.iconst 0, 1) := by decide +kernel
theorem dX3_cheapestOf_1 : decode cX3_cheapestOf 1 = .ok (.istore_n 3, 1) := by decide +kernel
theorem dX3_cheapestOf_2 : decode cX3_cheapestOf 2 = .ok (.iconst 0, 1) := by decide +kernel
theorem dX3_cheapestOf_3 : decode cX3_cheapestOf 3 = .ok (.istore 4, 2) := by decide +kernel
theorem dX3_cheapestOf_5 : decode cX3_cheapestOf 5 = .ok (.iload 4, 2) := by decide +kernel
theorem dX3_cheapestOf_7 : decode cX3_cheapestOf 7 = .ok (.bipush 15, 2) := by decide +kernel
theorem dX3_cheapestOf_9 : decode cX3_cheapestOf 9 = .ok (.if_icmp .ge 57, 3) := by decide +kernel
theorem dX3_cheapestOf_12 : decode cX3_cheapestOf 12 = .ok (.iload_n 2, 1) := by decide +kernel
theorem dX3_cheapestOf_13 : decode cX3_cheapestOf 13 = .ok (.iconst 1, 1) := by decide +kernel
theorem dX3_cheapestOf_14 : decode cX3_cheapestOf 14 = .ok (.iload_n 3, 1) := by decide +kernel
theorem dX3_cheapestOf_15 : decode cX3_cheapestOf 15 = .ok (.ishl, 1) := by decide +kernel
theorem dX3_cheapestOf_16 : decode cX3_cheapestOf 16 = .ok (.iand, 1) := by decide +kernel
theorem dX3_cheapestOf_17 : decode cX3_cheapestOf 17 = .ok (.ifCond .ne 7, 3) := by decide +kernel
theorem dX3_cheapestOf_20 : decode cX3_cheapestOf 20 = .ok (.iconst 1, 1) := by decide +kernel
theorem dX3_cheapestOf_21 : decode cX3_cheapestOf 21 = .ok (.goto 4, 3) := by decide +kernel
theorem dX3_cheapestOf_24 : decode cX3_cheapestOf 24 = .ok (.iconst 0, 1) := by decide +kernel
theorem dX3_cheapestOf_25 : decode cX3_cheapestOf 25 = .ok (.istore 5, 2) := by decide +kernel
theorem dX3_cheapestOf_27 : decode cX3_cheapestOf 27 = .ok (.iload_n 2, 1) := by decide +kernel
theorem dX3_cheapestOf_28 : decode cX3_cheapestOf 28 = .ok (.iconst 1, 1) := by decide +kernel
theorem dX3_cheapestOf_29 : decode cX3_cheapestOf 29 = .ok (.iload 4, 2) := by decide +kernel
theorem dX3_cheapestOf_31 : decode cX3_cheapestOf 31 = .ok (.ishl, 1) := by decide +kernel
theorem dX3_cheapestOf_32 : decode cX3_cheapestOf 32 = .ok (.iand, 1) := by decide +kernel
theorem dX3_cheapestOf_33 : decode cX3_cheapestOf 33 = .ok (.ifCond .eq 27, 3) := by decide +kernel
theorem dX3_cheapestOf_36 : decode cX3_cheapestOf 36 = .ok (.iload 5, 2) := by decide +kernel
theorem dX3_cheapestOf_38 : decode cX3_cheapestOf 38 = .ok (.ifCond .ne 19, 3) := by decide +kernel
theorem dX3_cheapestOf_41 : decode cX3_cheapestOf 41 = .ok (.aload_n 0, 1) := by decide +kernel
theorem dX3_cheapestOf_42 : decode cX3_cheapestOf 42 = .ok (.iload_n 1, 1) := by decide +kernel
theorem dX3_cheapestOf_43 : decode cX3_cheapestOf 43 = .ok (.iload 4, 2) := by decide +kernel
theorem dX3_cheapestOf_45 : decode cX3_cheapestOf 45 = .ok (.invokevirtual 86, 3) := by decide +kernel
theorem dX3_cheapestOf_48 : decode cX3_cheapestOf 48 = .ok (.aload_n 0, 1) := by decide +kernel
theorem dX3_cheapestOf_49 : decode cX3_cheapestOf 49 = .ok (.iload_n 1, 1) := by decide +kernel
theorem dX3_cheapestOf_50 : decode cX3_cheapestOf 50 = .ok (.iload_n 3, 1) := by decide +kernel
theorem dX3_cheapestOf_51 : decode cX3_cheapestOf 51 = .ok (.invokevirtual 86, 3) := by decide +kernel
theorem dX3_cheapestOf_54 : decode cX3_cheapestOf 54 = .ok (.if_icmp .ge 6, 3) := by decide +kernel
theorem dX3_cheapestOf_57 : decode cX3_cheapestOf 57 = .ok (.iload 4, 2) := by decide +kernel
theorem dX3_cheapestOf_59 : decode cX3_cheapestOf 59 = .ok (.istore_n 3, 1) := by decide +kernel
theorem dX3_cheapestOf_60 : decode cX3_cheapestOf 60 = .ok (.iinc 4 1, 3) := by decide +kernel
theorem dX3_cheapestOf_63 : decode cX3_cheapestOf 63 = .ok (.goto (-58), 3) := by decide +kernel
theorem dX3_cheapestOf_66 : decode cX3_cheapestOf 66 = .ok (.iload_n 3, 1) := by decide +kernel
theorem dX3_cheapestOf_67 : decode cX3_cheapestOf 67 = .ok (.ireturn, 1) := by decide +kernel
set_option maxRecDepth 20000 in
theorem ggX3_hoursToHome_X3_heldCells : GoodIn wsX3_hoursToHome wsX3_heldCells := goodIn_r _ [6, 7, 8, 9, 5, 10, 11, 32, 33, 34, 35, 36, 37, 38, 39, 40, 41, 42] (by decide +kernel) (by decide +kernel)
set_option maxRecDepth 20000 in
theorem gX3_hoursToHome_X3_heldCells : GoodIn wsX3_hoursToHome (wsV RX3 122 RX3 yX3_heldCells wsX3_heldCells) := goodIn_app (goodIn_of _ (by decide +kernel)) ggX3_hoursToHome_X3_heldCells
set_option maxRecDepth 20000 in
theorem ggX3_hoursToHome_X3_cellsOf : GoodIn wsX3_hoursToHome wsX3_cellsOf := goodIn_r _ [10, 11, 32, 33, 34, 35, 36, 37, 38, 39, 40, 41, 42] (by decide +kernel) (by decide +kernel)
set_option maxRecDepth 20000 in
theorem gX3_hoursToHome_X3_cellsOf : GoodIn wsX3_hoursToHome (wsV RX3 56 RX3 yX3_cellsOf wsX3_cellsOf) := goodIn_app (goodIn_of _ (by decide +kernel)) ggX3_hoursToHome_X3_cellsOf
set_option maxRecDepth 20000 in
theorem ggX3_hoursToHome_X6_beside : GoodIn wsX3_hoursToHome wsX6_beside := goodIn_r _ [15] (by decide +kernel) (by decide +kernel)
set_option maxRecDepth 20000 in
theorem gX3_hoursToHome_X6_beside : GoodIn wsX3_hoursToHome (va_wsS RX3 126 yX6_beside wsX6_beside) := goodIn_app (goodIn_of _ (by decide +kernel)) ggX3_hoursToHome_X6_beside
set_option maxRecDepth 20000 in
theorem ggX3_hoursToHome_X3_dryBehind : GoodIn wsX3_hoursToHome wsX3_dryBehind := goodIn_r _ [19, 20, 21, 22, 5, 23, 24, 25, 26, 27, 28, 29, 30, 31, 32, 33, 34, 35, 36, 37, 38, 39, 40, 41, 42] (by decide +kernel) (by decide +kernel)
set_option maxRecDepth 20000 in
theorem gX3_hoursToHome_X3_dryBehind : GoodIn wsX3_hoursToHome (wsV RX3 66 RX3 yX3_dryBehind wsX3_dryBehind) := goodIn_app (goodIn_of _ (by decide +kernel)) ggX3_hoursToHome_X3_dryBehind
theorem dX3_hoursToHome_0 : decode cX3_hoursToHome 0 = .ok (.iconst 1, 1) := by decide +kernel
theorem dX3_hoursToHome_1 : decode cX3_hoursToHome 1 = .ok (.aload_n 0, 1) := by decide +kernel
theorem dX3_hoursToHome_2 : decode cX3_hoursToHome 2 = .ok (.getfield 24, 3) := by decide +kernel
theorem dX3_hoursToHome_5 : decode cX3_hoursToHome 5 = .ok (.iload_n 1, 1) := by decide +kernel
theorem dX3_hoursToHome_6 : decode cX3_hoursToHome 6 = .ok (.iaload, 1) := by decide +kernel
theorem dX3_hoursToHome_7 : decode cX3_hoursToHome 7 = .ok (.ishl, 1) := by decide +kernel
theorem dX3_hoursToHome_8 : decode cX3_hoursToHome 8 = .ok (.istore_n 3, 1) := by decide +kernel
theorem dX3_hoursToHome_9 : decode cX3_hoursToHome 9 = .ok (.sipush 32767, 3) := by decide +kernel
theorem dX3_hoursToHome_12 : decode cX3_hoursToHome 12 = .ok (.aload_n 0, 1) := by decide +kernel
theorem dX3_hoursToHome_13 : decode cX3_hoursToHome 13 = .ok (.invokevirtual 122, 3) := by decide +kernel
theorem dX3_hoursToHome_16 : decode cX3_hoursToHome 16 = .ok (.iconst (-1), 1) := by decide +kernel
theorem dX3_hoursToHome_17 : decode cX3_hoursToHome 17 = .ok (.ixor, 1) := by decide +kernel
theorem dX3_hoursToHome_18 : decode cX3_hoursToHome 18 = .ok (.iand, 1) := by decide +kernel
theorem dX3_hoursToHome_19 : decode cX3_hoursToHome 19 = .ok (.aload_n 0, 1) := by decide +kernel
theorem dX3_hoursToHome_20 : decode cX3_hoursToHome 20 = .ok (.iload_n 1, 1) := by decide +kernel
theorem dX3_hoursToHome_21 : decode cX3_hoursToHome 21 = .ok (.invokevirtual 56, 3) := by decide +kernel
theorem dX3_hoursToHome_24 : decode cX3_hoursToHome 24 = .ok (.ior, 1) := by decide +kernel
theorem dX3_hoursToHome_25 : decode cX3_hoursToHome 25 = .ok (.istore 4, 2) := by decide +kernel
theorem dX3_hoursToHome_27 : decode cX3_hoursToHome 27 = .ok (.iconst 1, 1) := by decide +kernel
theorem dX3_hoursToHome_28 : decode cX3_hoursToHome 28 = .ok (.iload_n 2, 1) := by decide +kernel
theorem dX3_hoursToHome_29 : decode cX3_hoursToHome 29 = .ok (.ishl, 1) := by decide +kernel
theorem dX3_hoursToHome_30 : decode cX3_hoursToHome 30 = .ok (.istore 5, 2) := by decide +kernel
theorem dX3_hoursToHome_32 : decode cX3_hoursToHome 32 = .ok (.iconst 0, 1) := by decide +kernel
theorem dX3_hoursToHome_33 : decode cX3_hoursToHome 33 = .ok (.istore 6, 2) := by decide +kernel
theorem dX3_hoursToHome_35 : decode cX3_hoursToHome 35 = .ok (.iload 6, 2) := by decide +kernel
theorem dX3_hoursToHome_37 : decode cX3_hoursToHome 37 = .ok (.bipush 24, 2) := by decide +kernel
theorem dX3_hoursToHome_39 : decode cX3_hoursToHome 39 = .ok (.if_icmp .gt 41, 3) := by decide +kernel
theorem dX3_hoursToHome_42 : decode cX3_hoursToHome 42 = .ok (.iload 5, 2) := by decide +kernel
theorem dX3_hoursToHome_44 : decode cX3_hoursToHome 44 = .ok (.iload_n 3, 1) := by decide +kernel
theorem dX3_hoursToHome_45 : decode cX3_hoursToHome 45 = .ok (.iand, 1) := by decide +kernel
theorem dX3_hoursToHome_46 : decode cX3_hoursToHome 46 = .ok (.ifCond .eq 6, 3) := by decide +kernel
theorem dX3_hoursToHome_49 : decode cX3_hoursToHome 49 = .ok (.iload 6, 2) := by decide +kernel
theorem dX3_hoursToHome_51 : decode cX3_hoursToHome 51 = .ok (.ireturn, 1) := by decide +kernel
theorem dX3_hoursToHome_52 : decode cX3_hoursToHome 52 = .ok (.iload 5, 2) := by decide +kernel
theorem dX3_hoursToHome_54 : decode cX3_hoursToHome 54 = .ok (.iload 5, 2) := by decide +kernel
theorem dX3_hoursToHome_56 : decode cX3_hoursToHome 56 = .ok (.invokestatic 126, 3) := by decide +kernel
theorem dX3_hoursToHome_59 : decode cX3_hoursToHome 59 = .ok (.ior, 1) := by decide +kernel
theorem dX3_hoursToHome_60 : decode cX3_hoursToHome 60 = .ok (.iload 4, 2) := by decide +kernel
theorem dX3_hoursToHome_62 : decode cX3_hoursToHome 62 = .ok (.iand, 1) := by decide +kernel
theorem dX3_hoursToHome_63 : decode cX3_hoursToHome 63 = .ok (.aload_n 0, 1) := by decide +kernel
theorem dX3_hoursToHome_64 : decode cX3_hoursToHome 64 = .ok (.iload 6, 2) := by decide +kernel
theorem dX3_hoursToHome_66 : decode cX3_hoursToHome 66 = .ok (.iconst 1, 1) := by decide +kernel
theorem dX3_hoursToHome_67 : decode cX3_hoursToHome 67 = .ok (.iadd, 1) := by decide +kernel
theorem dX3_hoursToHome_68 : decode cX3_hoursToHome 68 = .ok (.invokevirtual 66, 3) := by decide +kernel
theorem dX3_hoursToHome_71 : decode cX3_hoursToHome 71 = .ok (.iand, 1) := by decide +kernel
theorem dX3_hoursToHome_72 : decode cX3_hoursToHome 72 = .ok (.istore 5, 2) := by decide +kernel
theorem dX3_hoursToHome_74 : decode cX3_hoursToHome 74 = .ok (.iinc 6 1, 3) := by decide +kernel
theorem dX3_hoursToHome_77 : decode cX3_hoursToHome 77 = .ok (.goto (-42), 3) := by decide +kernel
theorem dX3_hoursToHome_80 : decode cX3_hoursToHome 80 = .ok (.iconst (-1), 1) := by decide +kernel
theorem dX3_hoursToHome_81 : decode cX3_hoursToHome 81 = .ok (.ireturn, 1) := by decide +kernel
theorem dX4_told_0 : decode cX4_told 0 = .ok (.iload_n 0, 1) := by decide +kernel
theorem dX4_told_1 : decode cX4_told 1 = .ok (.lookupswitch 61 #[(97, 53), (98, 51), (103, 57), (108, 59), (122, 55)], 51) := by decide +kernel
theorem dX4_told_52 : decode cX4_told 52 = .ok (.iconst 1, 1) := by decide +kernel
theorem dX4_told_53 : decode cX4_told 53 = .ok (.ireturn, 1) := by decide +kernel
theorem dX4_told_54 : decode cX4_told 54 = .ok (.iconst 2, 1) := by decide +kernel
theorem dX4_told_55 : decode cX4_told 55 = .ok (.ireturn, 1) := by decide +kernel
theorem dX4_told_56 : decode cX4_told 56 = .ok (.iconst 3, 1) := by decide +kernel
theorem dX4_told_57 : decode cX4_told 57 = .ok (.ireturn, 1) := by decide +kernel
theorem dX4_told_58 : decode cX4_told 58 = .ok (.iconst 4, 1) := by decide +kernel
theorem dX4_told_59 : decode cX4_told 59 = .ok (.ireturn, 1) := by decide +kernel
theorem dX4_told_60 : decode cX4_told 60 = .ok (.iconst 5, 1) := by decide +kernel
theorem dX4_told_61 : decode cX4_told 61 = .ok (.ireturn, 1) := by decide +kernel
theorem dX4_told_62 : decode cX4_told 62 = .ok (.iconst (-1), 1) := by decide +kernel
theorem dX4_told_63 : decode cX4_told 63 = .ok (.ireturn, 1) := by decide +kernel
theorem dX4_nextAbove_0 : decode cX4_nextAbove 0 = .ok (.iload_n 0, 1) := by decide +kernel
theorem dX4_nextAbove_1 : decode cX4_nextAbove 1 = .ok (.tableswitch 45 1 5 #[35, 37, 39, 41, 43], 35) := by decide +kernel
theorem dX4_nextAbove_36 : decode cX4_nextAbove 36 = .ok (.iconst 0, 1) := by decide +kernel
theorem dX4_nextAbove_37 : decode cX4_nextAbove 37 = .ok (.ireturn, 1) := by decide +kernel
theorem dX4_nextAbove_38 : decode cX4_nextAbove 38 = .ok (.iconst 1, 1) := by decide +kernel
theorem dX4_nextAbove_39 : decode cX4_nextAbove 39 = .ok (.ireturn, 1) := by decide +kernel
theorem dX4_nextAbove_40 : decode cX4_nextAbove 40 = .ok (.iconst 1, 1) := by decide +kernel
theorem dX4_nextAbove_41 : decode cX4_nextAbove 41 = .ok (.ireturn, 1) := by decide +kernel
theorem dX4_nextAbove_42 : decode cX4_nextAbove 42 = .ok (.iconst 0, 1) := by decide +kernel
theorem dX4_nextAbove_43 : decode cX4_nextAbove 43 = .ok (.ireturn, 1) := by decide +kernel
theorem dX4_nextAbove_44 : decode cX4_nextAbove 44 = .ok (.iconst 4, 1) := by decide +kernel
theorem dX4_nextAbove_45 : decode cX4_nextAbove 45 = .ok (.ireturn, 1) := by decide +kernel
theorem dX4_nextAbove_46 : decode cX4_nextAbove 46 = .ok (.iconst (-1), 1) := by decide +kernel
theorem dX4_nextAbove_47 : decode cX4_nextAbove 47 = .ok (.ireturn, 1) := by decide +kernel
set_option maxRecDepth 20000 in
theorem ggX4_isA_X4_nextAbove : GoodIn wsX4_isA wsX4_nextAbove := goodIn_r _ [4] (by decide +kernel) (by decide +kernel)
set_option maxRecDepth 20000 in
theorem gX4_isA_X4_nextAbove : GoodIn wsX4_isA (va_wsS RX4 9 yX4_nextAbove wsX4_nextAbove) := goodIn_app (goodIn_of _ (by decide +kernel)) ggX4_isA_X4_nextAbove
theorem dX4_isA_0 : decode cX4_isA 0 = .ok (.iload_n 0, 1) := by decide +kernel
theorem dX4_isA_1 : decode cX4_isA 1 = .ok (.istore_n 2, 1) := by decide +kernel
theorem dX4_isA_2 : decode cX4_isA 2 = .ok (.iconst 0, 1) := by decide +kernel
theorem dX4_isA_3 : decode cX4_isA 3 = .ok (.istore_n 3, 1) := by decide +kernel
theorem dX4_isA_4 : decode cX4_isA 4 = .ok (.iload_n 3, 1) := by decide +kernel
theorem dX4_isA_5 : decode cX4_isA 5 = .ok (.iconst 5, 1) := by decide +kernel
theorem dX4_isA_6 : decode cX4_isA 6 = .ok (.if_icmp .gt 26, 3) := by decide +kernel
theorem dX4_isA_9 : decode cX4_isA 9 = .ok (.iload_n 2, 1) := by decide +kernel
theorem dX4_isA_10 : decode cX4_isA 10 = .ok (.iconst (-1), 1) := by decide +kernel
theorem dX4_isA_11 : decode cX4_isA 11 = .ok (.if_icmp .eq 21, 3) := by decide +kernel
theorem dX4_isA_14 : decode cX4_isA 14 = .ok (.iload_n 2, 1) := by decide +kernel
theorem dX4_isA_15 : decode cX4_isA 15 = .ok (.iload_n 1, 1) := by decide +kernel
theorem dX4_isA_16 : decode cX4_isA 16 = .ok (.if_icmp .ne 5, 3) := by decide +kernel
theorem dX4_isA_19 : decode cX4_isA 19 = .ok (.iconst 1, 1) := by decide +kernel
theorem dX4_isA_20 : decode cX4_isA 20 = .ok (.ireturn, 1) := by decide +kernel
theorem dX4_isA_21 : decode cX4_isA 21 = .ok (.iload_n 2, 1) := by decide +kernel
theorem dX4_isA_22 : decode cX4_isA 22 = .ok (.invokestatic 9, 3) := by decide +kernel
theorem dX4_isA_25 : decode cX4_isA 25 = .ok (.istore_n 2, 1) := by decide +kernel
theorem dX4_isA_26 : decode cX4_isA 26 = .ok (.iinc 3 1, 3) := by decide +kernel
theorem dX4_isA_29 : decode cX4_isA 29 = .ok (.goto (-25), 3) := by decide +kernel
theorem dX4_isA_32 : decode cX4_isA 32 = .ok (.iconst 0, 1) := by decide +kernel
theorem dX4_isA_33 : decode cX4_isA 33 = .ok (.ireturn, 1) := by decide +kernel
theorem dX4_cost_0 : decode cX4_cost 0 = .ok (.iload_n 0, 1) := by decide +kernel
theorem dX4_cost_1 : decode cX4_cost 1 = .ok (.tableswitch 47 2 5 #[31, 37, 43, 45], 31) := by decide +kernel
theorem dX4_cost_32 : decode cX4_cost 32 = .ok (.iload_n 1, 1) := by decide +kernel
theorem dX4_cost_33 : decode cX4_cost 33 = .ok (.iload_n 2, 1) := by decide +kernel
theorem dX4_cost_34 : decode cX4_cost 34 = .ok (.imul, 1) := by decide +kernel
theorem dX4_cost_35 : decode cX4_cost 35 = .ok (.iconst 2, 1) := by decide +kernel
theorem dX4_cost_36 : decode cX4_cost 36 = .ok (.idiv, 1) := by decide +kernel
theorem dX4_cost_37 : decode cX4_cost 37 = .ok (.ireturn, 1) := by decide +kernel
theorem dX4_cost_38 : decode cX4_cost 38 = .ok (.iload_n 1, 1) := by decide +kernel
theorem dX4_cost_39 : decode cX4_cost 39 = .ok (.iload_n 2, 1) := by decide +kernel
theorem dX4_cost_40 : decode cX4_cost 40 = .ok (.imul, 1) := by decide +kernel
theorem dX4_cost_41 : decode cX4_cost 41 = .ok (.iconst 1, 1) := by decide +kernel
theorem dX4_cost_42 : decode cX4_cost 42 = .ok (.iadd, 1) := by decide +kernel
theorem dX4_cost_43 : decode cX4_cost 43 = .ok (.ireturn, 1) := by decide +kernel
theorem dX4_cost_44 : decode cX4_cost 44 = .ok (.iload_n 1, 1) := by decide +kernel
theorem dX4_cost_45 : decode cX4_cost 45 = .ok (.ireturn, 1) := by decide +kernel
theorem dX4_cost_46 : decode cX4_cost 46 = .ok (.iconst 0, 1) := by decide +kernel
theorem dX4_cost_47 : decode cX4_cost 47 = .ok (.ireturn, 1) := by decide +kernel
theorem dX4_cost_48 : decode cX4_cost 48 = .ok (.iload_n 1, 1) := by decide +kernel
theorem dX4_cost_49 : decode cX4_cost 49 = .ok (.iload_n 2, 1) := by decide +kernel
theorem dX4_cost_50 : decode cX4_cost 50 = .ok (.imul, 1) := by decide +kernel
theorem dX4_cost_51 : decode cX4_cost 51 = .ok (.ireturn, 1) := by decide +kernel
