theorem dX12_aheadOf_1 : decode cX12_aheadOf 1 = .ok (.istore_n 2, 1) := by decide +kernel
theorem dX12_aheadOf_2 : decode cX12_aheadOf 2 = .ok (.iconst 0, 1) := by decide +kernel
theorem dX12_aheadOf_3 : decode cX12_aheadOf 3 = .ok (.istore_n 3, 1) := by decide +kernel
theorem dX12_aheadOf_4 : decode cX12_aheadOf 4 = .ok (.iload_n 3, 1) := by decide +kernel
theorem dX12_aheadOf_5 : decode cX12_aheadOf 5 = .ok (.aload_n 0, 1) := by decide +kernel
theorem dX12_aheadOf_6 : decode cX12_aheadOf 6 = .ok (.getfield 103, 3) := by decide +kernel
theorem dX12_aheadOf_9 : decode cX12_aheadOf 9 = .ok (.if_icmp .ge 33, 3) := by decide +kernel
theorem dX12_aheadOf_12 : decode cX12_aheadOf 12 = .ok (.iload_n 2, 1) := by decide +kernel
theorem dX12_aheadOf_13 : decode cX12_aheadOf 13 = .ok (.iload_n 3, 1) := by decide +kernel
theorem dX12_aheadOf_14 : decode cX12_aheadOf 14 = .ok (.iload_n 1, 1) := by decide +kernel
theorem dX12_aheadOf_15 : decode cX12_aheadOf 15 = .ok (.if_icmp .eq 18, 3) := by decide +kernel
theorem dX12_aheadOf_18 : decode cX12_aheadOf 18 = .ok (.aload_n 0, 1) := by decide +kernel
theorem dX12_aheadOf_19 : decode cX12_aheadOf 19 = .ok (.iload_n 1, 1) := by decide +kernel
theorem dX12_aheadOf_20 : decode cX12_aheadOf 20 = .ok (.iload_n 3, 1) := by decide +kernel
theorem dX12_aheadOf_21 : decode cX12_aheadOf 21 = .ok (.invokevirtual 134, 3) := by decide +kernel
theorem dX12_aheadOf_24 : decode cX12_aheadOf 24 = .ok (.ifCond .eq 9, 3) := by decide +kernel
theorem dX12_aheadOf_27 : decode cX12_aheadOf 27 = .ok (.iconst 1, 1) := by decide +kernel
theorem dX12_aheadOf_28 : decode cX12_aheadOf 28 = .ok (.iload_n 3, 1) := by decide +kernel
theorem dX12_aheadOf_29 : decode cX12_aheadOf 29 = .ok (.ishl, 1) := by decide +kernel
theorem dX12_aheadOf_30 : decode cX12_aheadOf 30 = .ok (.goto 4, 3) := by decide +kernel
theorem dX12_aheadOf_33 : decode cX12_aheadOf 33 = .ok (.iconst 0, 1) := by decide +kernel
theorem dX12_aheadOf_34 : decode cX12_aheadOf 34 = .ok (.ior, 1) := by decide +kernel
theorem dX12_aheadOf_35 : decode cX12_aheadOf 35 = .ok (.istore_n 2, 1) := by decide +kernel
theorem dX12_aheadOf_36 : decode cX12_aheadOf 36 = .ok (.iinc 3 1, 3) := by decide +kernel
theorem dX12_aheadOf_39 : decode cX12_aheadOf 39 = .ok (.goto (-35), 3) := by decide +kernel
theorem dX12_aheadOf_42 : decode cX12_aheadOf 42 = .ok (.iload_n 2, 1) := by decide +kernel
theorem dX12_aheadOf_43 : decode cX12_aheadOf 43 = .ok (.ireturn, 1) := by decide +kernel
set_option maxRecDepth 20000 in
theorem ggX12_told_X12_isShape : GoodIn wsX12_told wsX12_isShape := goodIn_r _ [9, 10, 11, 12, 8, 13, 27, 28, 29, 30, 31, 32, 33, 34, 35, 36, 37, 38, 39, 40, 41, 42, 43, 44, 45, 46, 47, 48, 49, 50, 51, 52, 53] (by decide +kernel) (by decide +kernel)
set_option maxRecDepth 20000 in
theorem gX12_told_X12_isShape : GoodIn wsX12_told (wsV RX12 137 RX12 yX12_isShape wsX12_isShape) := goodIn_app (goodIn_of _ (by decide +kernel)) ggX12_told_X12_isShape
set_option maxRecDepth 20000 in
theorem ggX12_told_X12_aheadOf : GoodIn wsX12_told wsX12_aheadOf := goodIn_r _ [17, 10, 18, 19, 20, 8, 21, 22, 23, 27, 28, 29, 30, 31, 32, 33, 34, 35, 36, 37, 38, 39, 40, 41, 42, 43, 44, 45, 46, 47, 48, 49, 50, 51, 52, 53] (by decide +kernel) (by decide +kernel)
set_option maxRecDepth 20000 in
theorem gX12_told_X12_aheadOf : GoodIn wsX12_told (wsV RX12 140 RX12 yX12_aheadOf wsX12_aheadOf) := goodIn_app (goodIn_of _ (by decide +kernel)) ggX12_told_X12_aheadOf
set_option maxRecDepth 20000 in
theorem ggX12_told_X12_ones : GoodIn wsX12_told wsX12_ones := goodIn_r _ [26] (by decide +kernel) (by decide +kernel)
set_option maxRecDepth 20000 in
theorem gX12_told_X12_ones : GoodIn wsX12_told (va_wsS RX12 143 yX12_ones wsX12_ones) := goodIn_app (goodIn_of _ (by decide +kernel)) ggX12_told_X12_ones
theorem dX12_told_0 : decode cX12_told 0 = .ok (.aload_n 0, 1) := by decide +kernel
theorem dX12_told_1 : decode cX12_told 1 = .ok (.iload_n 1, 1) := by decide +kernel
theorem dX12_told_2 : decode cX12_told 2 = .ok (.invokevirtual 137, 3) := by decide +kernel
theorem dX12_told_5 : decode cX12_told 5 = .ok (.ifCond .ne 5, 3) := by decide +kernel
theorem dX12_told_8 : decode cX12_told 8 = .ok (.iconst (-1), 1) := by decide +kernel
theorem dX12_told_9 : decode cX12_told 9 = .ok (.ireturn, 1) := by decide +kernel
theorem dX12_told_10 : decode cX12_told 10 = .ok (.iload_n 2, 1) := by decide +kernel
theorem dX12_told_11 : decode cX12_told 11 = .ok (.tableswitch 70 0 4 #[33, 40, 47, 54, 61], 33) := by decide +kernel
theorem dX12_told_44 : decode cX12_told 44 = .ok (.aload_n 0, 1) := by decide +kernel
theorem dX12_told_45 : decode cX12_told 45 = .ok (.getfield 7, 3) := by decide +kernel
theorem dX12_told_48 : decode cX12_told 48 = .ok (.iload_n 1, 1) := by decide +kernel
theorem dX12_told_49 : decode cX12_told 49 = .ok (.iaload, 1) := by decide +kernel
theorem dX12_told_50 : decode cX12_told 50 = .ok (.ireturn, 1) := by decide +kernel
theorem dX12_told_51 : decode cX12_told 51 = .ok (.aload_n 0, 1) := by decide +kernel
theorem dX12_told_52 : decode cX12_told 52 = .ok (.getfield 13, 3) := by decide +kernel
theorem dX12_told_55 : decode cX12_told 55 = .ok (.iload_n 1, 1) := by decide +kernel
theorem dX12_told_56 : decode cX12_told 56 = .ok (.iaload, 1) := by decide +kernel
theorem dX12_told_57 : decode cX12_told 57 = .ok (.ireturn, 1) := by decide +kernel
theorem dX12_told_58 : decode cX12_told 58 = .ok (.aload_n 0, 1) := by decide +kernel
theorem dX12_told_59 : decode cX12_told 59 = .ok (.getfield 35, 3) := by decide +kernel
theorem dX12_told_62 : decode cX12_told 62 = .ok (.iload_n 1, 1) := by decide +kernel
theorem dX12_told_63 : decode cX12_told 63 = .ok (.iaload, 1) := by decide +kernel
theorem dX12_told_64 : decode cX12_told 64 = .ok (.ireturn, 1) := by decide +kernel
theorem dX12_told_65 : decode cX12_told 65 = .ok (.aload_n 0, 1) := by decide +kernel
theorem dX12_told_66 : decode cX12_told 66 = .ok (.getfield 38, 3) := by decide +kernel
theorem dX12_told_69 : decode cX12_told 69 = .ok (.iload_n 1, 1) := by decide +kernel
theorem dX12_told_70 : decode cX12_told 70 = .ok (.iaload, 1) := by decide +kernel
theorem dX12_told_71 : decode cX12_told 71 = .ok (.ireturn, 1) := by decide +kernel
theorem dX12_told_72 : decode cX12_told 72 = .ok (.aload_n 0, 1) := by decide +kernel
theorem dX12_told_73 : decode cX12_told 73 = .ok (.iload_n 1, 1) := by decide +kernel
theorem dX12_told_74 : decode cX12_told 74 = .ok (.invokevirtual 140, 3) := by decide +kernel
theorem dX12_told_77 : decode cX12_told 77 = .ok (.invokestatic 143, 3) := by decide +kernel
theorem dX12_told_80 : decode cX12_told 80 = .ok (.ireturn, 1) := by decide +kernel
theorem dX12_told_81 : decode cX12_told 81 = .ok (.iconst (-1), 1) := by decide +kernel
theorem dX12_told_82 : decode cX12_told 82 = .ok (.ireturn, 1) := by decide +kernel
set_option maxRecDepth 20000 in
theorem ggX12_step_X12_isShape : GoodIn wsX12_step wsX12_isShape := goodIn_r _ [7, 8, 9, 10, 6, 11, 12, 13, 14, 15, 16, 17, 18, 19, 20, 21, 22, 23, 24, 25, 26, 27, 28, 29, 30, 31, 32, 33, 34, 35, 36, 37, 38] (by decide +kernel) (by decide +kernel)
set_option maxRecDepth 20000 in
theorem gX12_step_X12_isShape : GoodIn wsX12_step (wsV RX12 137 RX12 yX12_isShape wsX12_isShape) := goodIn_app (goodIn_of _ (by decide +kernel)) ggX12_step_X12_isShape
theorem dX12_step_0 : decode cX12_step 0 = .ok (.aload_n 0, 1) := by decide +kernel
theorem dX12_step_1 : decode cX12_step 1 = .ok (.iload_n 1, 1) := by decide +kernel
theorem dX12_step_2 : decode cX12_step 2 = .ok (.invokevirtual 137, 3) := by decide +kernel
theorem dX12_step_5 : decode cX12_step 5 = .ok (.ifCond .ne 7, 3) := by decide +kernel
theorem dX12_step_8 : decode cX12_step 8 = .ok (.iconst (-1), 1) := by decide +kernel
theorem dX12_step_9 : decode cX12_step 9 = .ok (.goto 24, 3) := by decide +kernel
theorem dX12_step_12 : decode cX12_step 12 = .ok (.aload_n 0, 1) := by decide +kernel
theorem dX12_step_13 : decode cX12_step 13 = .ok (.getfield 7, 3) := by decide +kernel
theorem dX12_step_16 : decode cX12_step 16 = .ok (.iload_n 1, 1) := by decide +kernel
theorem dX12_step_17 : decode cX12_step 17 = .ok (.iaload, 1) := by decide +kernel
theorem dX12_step_18 : decode cX12_step 18 = .ok (.iconst 4, 1) := by decide +kernel
theorem dX12_step_19 : decode cX12_step 19 = .ok (.if_icmp .eq 8, 3) := by decide +kernel
theorem dX12_step_22 : decode cX12_step 22 = .ok (.bipush (-12), 2) := by decide +kernel
theorem dX12_step_24 : decode cX12_step 24 = .ok (.goto 9, 3) := by decide +kernel
theorem dX12_step_27 : decode cX12_step 27 = .ok (.aload_n 0, 1) := by decide +kernel
theorem dX12_step_28 : decode cX12_step 28 = .ok (.getfield 28, 3) := by decide +kernel
theorem dX12_step_31 : decode cX12_step 31 = .ok (.iload_n 1, 1) := by decide +kernel
theorem dX12_step_32 : decode cX12_step 32 = .ok (.iaload, 1) := by decide +kernel
theorem dX12_step_33 : decode cX12_step 33 = .ok (.ireturn, 1) := by decide +kernel
set_option maxRecDepth 20000 in
theorem ggX12_quarter_X12_isShape : GoodIn wsX12_quarter wsX12_isShape := goodIn_r _ [7, 8, 9, 10, 6, 11, 12, 13, 14, 15, 16, 17, 18, 19, 20, 21, 22, 23, 24, 25, 26, 27, 28, 29, 30, 31, 32, 33, 34, 35, 36, 37, 38] (by decide +kernel) (by decide +kernel)
set_option maxRecDepth 20000 in
theorem gX12_quarter_X12_isShape : GoodIn wsX12_quarter (wsV RX12 137 RX12 yX12_isShape wsX12_isShape) := goodIn_app (goodIn_of _ (by decide +kernel)) ggX12_quarter_X12_isShape
theorem dX12_quarter_0 : decode cX12_quarter 0 = .ok (.aload_n 0, 1) := by decide +kernel
theorem dX12_quarter_1 : decode cX12_quarter 1 = .ok (.iload_n 1, 1) := by decide +kernel
theorem dX12_quarter_2 : decode cX12_quarter 2 = .ok (.invokevirtual 137, 3) := by decide +kernel
theorem dX12_quarter_5 : decode cX12_quarter 5 = .ok (.ifCond .ne 7, 3) := by decide +kernel
theorem dX12_quarter_8 : decode cX12_quarter 8 = .ok (.iconst (-1), 1) := by decide +kernel
theorem dX12_quarter_9 : decode cX12_quarter 9 = .ok (.goto 26, 3) := by decide +kernel
theorem dX12_quarter_12 : decode cX12_quarter 12 = .ok (.aload_n 0, 1) := by decide +kernel
theorem dX12_quarter_13 : decode cX12_quarter 13 = .ok (.getfield 7, 3) := by decide +kernel
theorem dX12_quarter_16 : decode cX12_quarter 16 = .ok (.iload_n 1, 1) := by decide +kernel
theorem dX12_quarter_17 : decode cX12_quarter 17 = .ok (.iaload, 1) := by decide +kernel
theorem dX12_quarter_18 : decode cX12_quarter 18 = .ok (.iconst 3, 1) := by decide +kernel
theorem dX12_quarter_19 : decode cX12_quarter 19 = .ok (.if_icmp .ge 8, 3) := by decide +kernel
theorem dX12_quarter_22 : decode cX12_quarter 22 = .ok (.bipush (-12), 2) := by decide +kernel
theorem dX12_quarter_24 : decode cX12_quarter 24 = .ok (.goto 11, 3) := by decide +kernel
theorem dX12_quarter_27 : decode cX12_quarter 27 = .ok (.aload_n 0, 1) := by decide +kernel
theorem dX12_quarter_28 : decode cX12_quarter 28 = .ok (.getfield 35, 3) := by decide +kernel
theorem dX12_quarter_31 : decode cX12_quarter 31 = .ok (.iload_n 1, 1) := by decide +kernel
theorem dX12_quarter_32 : decode cX12_quarter 32 = .ok (.iaload, 1) := by decide +kernel
theorem dX12_quarter_33 : decode cX12_quarter 33 = .ok (.iconst 4, 1) := by decide +kernel
theorem dX12_quarter_34 : decode cX12_quarter 34 = .ok (.idiv, 1) := by decide +kernel
theorem dX12_quarter_35 : decode cX12_quarter 35 = .ok (.ireturn, 1) := by decide +kernel
set_option maxRecDepth 20000 in
theorem ggX12_colourAt_X12_quarterOf : GoodIn wsX12_colourAt wsX12_quarterOf := goodIn_r _ [7] (by decide +kernel) (by decide +kernel)
set_option maxRecDepth 20000 in
theorem gX12_colourAt_X12_quarterOf : GoodIn wsX12_colourAt (va_wsS RX12 78 yX12_quarterOf wsX12_quarterOf) := goodIn_app (goodIn_of _ (by decide +kernel)) ggX12_colourAt_X12_quarterOf
theorem dX12_colourAt_0 : decode cX12_colourAt 0 = .ok (.aload_n 0, 1) := by decide +kernel
theorem dX12_colourAt_1 : decode cX12_colourAt 1 = .ok (.getfield 13, 3) := by decide +kernel
theorem dX12_colourAt_4 : decode cX12_colourAt 4 = .ok (.iload_n 1, 1) := by decide +kernel
theorem dX12_colourAt_5 : decode cX12_colourAt 5 = .ok (.iaload, 1) := by decide +kernel
theorem dX12_colourAt_6 : decode cX12_colourAt 6 = .ok (.istore_n 3, 1) := by decide +kernel
theorem dX12_colourAt_7 : decode cX12_colourAt 7 = .ok (.aload_n 0, 1) := by decide +kernel
theorem dX12_colourAt_8 : decode cX12_colourAt 8 = .ok (.getfield 7, 3) := by decide +kernel
theorem dX12_colourAt_11 : decode cX12_colourAt 11 = .ok (.iload_n 1, 1) := by decide +kernel
theorem dX12_colourAt_12 : decode cX12_colourAt 12 = .ok (.iaload, 1) := by decide +kernel
theorem dX12_colourAt_13 : decode cX12_colourAt 13 = .ok (.iconst 4, 1) := by decide +kernel
theorem dX12_colourAt_14 : decode cX12_colourAt 14 = .ok (.if_icmp .ne 36, 3) := by decide +kernel
theorem dX12_colourAt_17 : decode cX12_colourAt 17 = .ok (.iload_n 3, 1) := by decide +kernel
theorem dX12_colourAt_18 : decode cX12_colourAt 18 = .ok (.iload_n 2, 1) := by decide +kernel
theorem dX12_colourAt_19 : decode cX12_colourAt 19 = .ok (.bipush 16, 2) := by decide +kernel
theorem dX12_colourAt_21 : decode cX12_colourAt 21 = .ok (.irem, 1) := by decide +kernel
theorem dX12_colourAt_22 : decode cX12_colourAt 22 = .ok (.iload_n 2, 1) := by decide +kernel
theorem dX12_colourAt_23 : decode cX12_colourAt 23 = .ok (.bipush 16, 2) := by decide +kernel
theorem dX12_colourAt_25 : decode cX12_colourAt 25 = .ok (.idiv, 1) := by decide +kernel
theorem dX12_colourAt_26 : decode cX12_colourAt 26 = .ok (.invokestatic 78, 3) := by decide +kernel
theorem dX12_colourAt_29 : decode cX12_colourAt 29 = .ok (.aload_n 0, 1) := by decide +kernel
theorem dX12_colourAt_30 : decode cX12_colourAt 30 = .ok (.getfield 28, 3) := by decide +kernel
theorem dX12_colourAt_33 : decode cX12_colourAt 33 = .ok (.iload_n 1, 1) := by decide +kernel
theorem dX12_colourAt_34 : decode cX12_colourAt 34 = .ok (.iaload, 1) := by decide +kernel
theorem dX12_colourAt_35 : decode cX12_colourAt 35 = .ok (.imul, 1) := by decide +kernel
theorem dX12_colourAt_36 : decode cX12_colourAt 36 = .ok (.iadd, 1) := by decide +kernel
theorem dX12_colourAt_37 : decode cX12_colourAt 37 = .ok (.istore_n 3, 1) := by decide +kernel
theorem dX12_colourAt_38 : decode cX12_colourAt 38 = .ok (.iload_n 3, 1) := by decide +kernel
theorem dX12_colourAt_39 : decode cX12_colourAt 39 = .ok (.bipush 9, 2) := by decide +kernel
theorem dX12_colourAt_41 : decode cX12_colourAt 41 = .ok (.if_icmp .le 9, 3) := by decide +kernel
theorem dX12_colourAt_44 : decode cX12_colourAt 44 = .ok (.iinc 3 (-9), 3) := by decide +kernel
theorem dX12_colourAt_47 : decode cX12_colourAt 47 = .ok (.goto (-9), 3) := by decide +kernel
theorem dX12_colourAt_50 : decode cX12_colourAt 50 = .ok (.iload_n 3, 1) := by decide +kernel
theorem dX12_colourAt_51 : decode cX12_colourAt 51 = .ok (.ireturn, 1) := by decide +kernel
set_option maxRecDepth 20000 in
theorem ggX12_lookOf_X12_colourAt : GoodIn wsX12_lookOf wsX12_colourAt := goodIn_r _ [7, 8, 9, 10, 11, 12, 6, 13, 14, 15, 16, 17, 18, 19, 20, 21, 22, 23, 24, 25, 26, 27, 28, 29, 30, 31, 32, 33, 34, 35, 36, 37, 38, 39, 40] (by decide +kernel) (by decide +kernel)
set_option maxRecDepth 20000 in
theorem gX12_lookOf_X12_colourAt : GoodIn wsX12_lookOf (wsV RX12 146 RX12 yX12_colourAt wsX12_colourAt) := goodIn_app (goodIn_of _ (by decide +kernel)) ggX12_lookOf_X12_colourAt
theorem dX12_lookOf_0 : decode cX12_lookOf 0 = .ok (.iconst 0, 1) := by decide +kernel
theorem dX12_lookOf_1 : decode cX12_lookOf 1 = .ok (.istore_n 2, 1) := by decide +kernel
theorem dX12_lookOf_2 : decode cX12_lookOf 2 = .ok (.iconst 0, 1) := by decide +kernel
theorem dX12_lookOf_3 : decode cX12_lookOf 3 = .ok (.istore_n 3, 1) := by decide +kernel
theorem dX12_lookOf_4 : decode cX12_lookOf 4 = .ok (.iload_n 3, 1) := by decide +kernel
theorem dX12_lookOf_5 : decode cX12_lookOf 5 = .ok (.aload_n 0, 1) := by decide +kernel
theorem dX12_lookOf_6 : decode cX12_lookOf 6 = .ok (.getfield 103, 3) := by decide +kernel
theorem dX12_lookOf_9 : decode cX12_lookOf 9 = .ok (.if_icmp .ge 35, 3) := by decide +kernel
theorem dX12_lookOf_12 : decode cX12_lookOf 12 = .ok (.aload_n 0, 1) := by decide +kernel
theorem dX12_lookOf_13 : decode cX12_lookOf 13 = .ok (.getfield 31, 3) := by decide +kernel
theorem dX12_lookOf_16 : decode cX12_lookOf 16 = .ok (.sipush 256, 3) := by decide +kernel
theorem dX12_lookOf_19 : decode cX12_lookOf 19 = .ok (.iload_n 3, 1) := by decide +kernel
theorem dX12_lookOf_20 : decode cX12_lookOf 20 = .ok (.imul, 1) := by decide +kernel
theorem dX12_lookOf_21 : decode cX12_lookOf 21 = .ok (.iload_n 1, 1) := by decide +kernel
theorem dX12_lookOf_22 : decode cX12_lookOf 22 = .ok (.iadd, 1) := by decide +kernel
theorem dX12_lookOf_23 : decode cX12_lookOf 23 = .ok (.baload, 1) := by decide +kernel
theorem dX12_lookOf_24 : decode cX12_lookOf 24 = .ok (.ifCond .eq 12, 3) := by decide +kernel
theorem dX12_lookOf_27 : decode cX12_lookOf 27 = .ok (.aload_n 0, 1) := by decide +kernel
theorem dX12_lookOf_28 : decode cX12_lookOf 28 = .ok (.iload_n 3, 1) := by decide +kernel
theorem dX12_lookOf_29 : decode cX12_lookOf 29 = .ok (.iload_n 1, 1) := by decide +kernel
theorem dX12_lookOf_30 : decode cX12_lookOf 30 = .ok (.invokevirtual 146, 3) := by decide +kernel
theorem dX12_lookOf_33 : decode cX12_lookOf 33 = .ok (.goto 4, 3) := by decide +kernel
theorem dX12_lookOf_36 : decode cX12_lookOf 36 = .ok (.iload_n 2, 1) := by decide +kernel
theorem dX12_lookOf_37 : decode cX12_lookOf 37 = .ok (.istore_n 2, 1) := by decide +kernel
theorem dX12_lookOf_38 : decode cX12_lookOf 38 = .ok (.iinc 3 1, 3) := by decide +kernel
theorem dX12_lookOf_41 : decode cX12_lookOf 41 = .ok (.goto (-37), 3) := by decide +kernel
theorem dX12_lookOf_44 : decode cX12_lookOf 44 = .ok (.iload_n 2, 1) := by decide +kernel
theorem dX12_lookOf_45 : decode cX12_lookOf 45 = .ok (.ireturn, 1) := by decide +kernel
theorem dX12_layersOf_0 : decode cX12_layersOf 0 = .ok (.iconst 0, 1) := by decide +kernel
theorem dX12_layersOf_1 : decode cX12_layersOf 1 = .ok (.istore_n 2, 1) := by decide +kernel
theorem dX12_layersOf_2 : decode cX12_layersOf 2 = .ok (.iconst 0, 1) := by decide +kernel
theorem dX12_layersOf_3 : decode cX12_layersOf 3 = .ok (.istore_n 3, 1) := by decide +kernel
theorem dX12_layersOf_4 : decode cX12_layersOf 4 = .ok (.iload_n 3, 1) := by decide +kernel
theorem dX12_layersOf_5 : decode cX12_layersOf 5 = .ok (.aload_n 0, 1) := by decide +kernel
theorem dX12_layersOf_6 : decode cX12_layersOf 6 = .ok (.getfield 103, 3) := by decide +kernel
theorem dX12_layersOf_9 : decode cX12_layersOf 9 = .ok (.if_icmp .ge 34, 3) := by decide +kernel
theorem dX12_layersOf_12 : decode cX12_layersOf 12 = .ok (.iload_n 2, 1) := by decide +kernel
theorem dX12_layersOf_13 : decode cX12_layersOf 13 = .ok (.aload_n 0, 1) := by decide +kernel
theorem dX12_layersOf_14 : decode cX12_layersOf 14 = .ok (.getfield 31, 3) := by decide +kernel
theorem dX12_layersOf_17 : decode cX12_layersOf 17 = .ok (.sipush 256, 3) := by decide +kernel
theorem dX12_layersOf_20 : decode cX12_layersOf 20 = .ok (.iload_n 3, 1) := by decide +kernel
theorem dX12_layersOf_21 : decode cX12_layersOf 21 = .ok (.imul, 1) := by decide +kernel
theorem dX12_layersOf_22 : decode cX12_layersOf 22 = .ok (.iload_n 1, 1) := by decide +kernel
theorem dX12_layersOf_23 : decode cX12_layersOf 23 = .ok (.iadd, 1) := by decide +kernel
theorem dX12_layersOf_24 : decode cX12_layersOf 24 = .ok (.baload, 1) := by decide +kernel
theorem dX12_layersOf_25 : decode cX12_layersOf 25 = .ok (.ifCond .eq 9, 3) := by decide +kernel
theorem dX12_layersOf_28 : decode cX12_layersOf 28 = .ok (.iconst 1, 1) := by decide +kernel
theorem dX12_layersOf_29 : decode cX12_layersOf 29 = .ok (.iload_n 3, 1) := by decide +kernel
theorem dX12_layersOf_30 : decode cX12_layersOf 30 = .ok (.ishl, 1) := by decide +kernel
theorem dX12_layersOf_31 : decode cX12_layersOf 31 = .ok (.goto 4, 3) := by decide +kernel
theorem dX12_layersOf_34 : decode cX12_layersOf 34 = .ok (.iconst 0, 1) := by decide +kernel
theorem dX12_layersOf_35 : decode cX12_layersOf 35 = .ok (.ior, 1) := by decide +kernel
theorem dX12_layersOf_36 : decode cX12_layersOf 36 = .ok (.istore_n 2, 1) := by decide +kernel
theorem dX12_layersOf_37 : decode cX12_layersOf 37 = .ok (.iinc 3 1, 3) := by decide +kernel
theorem dX12_layersOf_40 : decode cX12_layersOf 40 = .ok (.goto (-36), 3) := by decide +kernel
theorem dX12_layersOf_43 : decode cX12_layersOf 43 = .ok (.iload_n 2, 1) := by decide +kernel
theorem dX12_layersOf_44 : decode cX12_layersOf 44 = .ok (.ireturn, 1) := by decide +kernel
set_option maxRecDepth 20000 in
theorem ggX12_isCell_X12_in : GoodIn wsX12_isCell wsX12_in := goodIn_r _ [5] (by decide +kernel) (by decide +kernel)
set_option maxRecDepth 20000 in
theorem gX12_isCell_X12_in : GoodIn wsX12_isCell (va_wsS RX12 89 yX12_in wsX12_in) := goodIn_app (goodIn_of _ (by decide +kernel)) ggX12_isCell_X12_in
theorem dX12_isCell_0 : decode cX12_isCell 0 = .ok (.iload_n 0, 1) := by decide +kernel
theorem dX12_isCell_1 : decode cX12_isCell 1 = .ok (.i2l, 1) := by decide +kernel
theorem dX12_isCell_2 : decode cX12_isCell 2 = .ok (.lconst 0, 1) := by decide +kernel
theorem dX12_isCell_3 : decode cX12_isCell 3 = .ok (.ldc2_w 149, 3) := by decide +kernel
theorem dX12_isCell_6 : decode cX12_isCell 6 = .ok (.invokestatic 89, 3) := by decide +kernel
theorem dX12_isCell_9 : decode cX12_isCell 9 = .ok (.ifCond .eq 19, 3) := by decide +kernel
theorem dX12_isCell_12 : decode cX12_isCell 12 = .ok (.iload_n 1, 1) := by decide +kernel
theorem dX12_isCell_13 : decode cX12_isCell 13 = .ok (.i2l, 1) := by decide +kernel
theorem dX12_isCell_14 : decode cX12_isCell 14 = .ok (.lconst 0, 1) := by decide +kernel
theorem dX12_isCell_15 : decode cX12_isCell 15 = .ok (.ldc2_w 149, 3) := by decide +kernel
theorem dX12_isCell_18 : decode cX12_isCell 18 = .ok (.invokestatic 89, 3) := by decide +kernel
theorem dX12_isCell_21 : decode cX12_isCell 21 = .ok (.ifCond .eq 7, 3) := by decide +kernel
theorem dX12_isCell_24 : decode cX12_isCell 24 = .ok (.iconst 1, 1) := by decide +kernel
theorem dX12_isCell_25 : decode cX12_isCell 25 = .ok (.goto 4, 3) := by decide +kernel
theorem dX12_isCell_28 : decode cX12_isCell 28 = .ok (.iconst 0, 1) := by decide +kernel
theorem dX12_isCell_29 : decode cX12_isCell 29 = .ok (.ireturn, 1) := by decide +kernel
set_option maxRecDepth 20000 in
theorem ggX12_cell_X12_isCell : GoodIn wsX12_cell wsX12_isCell := goodIn_r _ [5, 6, 7, 8, 4, 9] (by decide +kernel) (by decide +kernel)
set_option maxRecDepth 20000 in
theorem gX12_cell_X12_isCell : GoodIn wsX12_cell (va_wsS RX12 151 yX12_isCell wsX12_isCell) := goodIn_app (goodIn_of _ (by decide +kernel)) ggX12_cell_X12_isCell
set_option maxRecDepth 20000 in
theorem ggX12_cell_X12_in : GoodIn wsX12_cell wsX12_in := goodIn_r _ [9] (by decide +kernel) (by decide +kernel)
set_option maxRecDepth 20000 in
theorem gX12_cell_X12_in : GoodIn wsX12_cell (va_wsS RX12 89 yX12_in wsX12_in) := goodIn_app (goodIn_of _ (by decide +kernel)) ggX12_cell_X12_in
set_option maxRecDepth 20000 in
theorem ggX12_cell_X12_lookOf : GoodIn wsX12_cell wsX12_lookOf := goodIn_r _ [13, 14, 15, 16, 17, 18, 4, 19, 20, 21, 22, 23, 24, 25, 33, 34, 35, 36, 37, 38, 39, 40, 41, 42, 43, 44, 45, 46, 47, 48, 49, 50, 51, 52, 53, 54, 55, 56, 57, 58, 59] (by decide +kernel) (by decide +kernel)
set_option maxRecDepth 20000 in
theorem gX12_cell_X12_lookOf : GoodIn wsX12_cell (wsV RX12 156 RX12 yX12_lookOf wsX12_lookOf) := goodIn_app (goodIn_of _ (by decide +kernel)) ggX12_cell_X12_lookOf
set_option maxRecDepth 20000 in
theorem ggX12_cell_X12_layersOf : GoodIn wsX12_cell wsX12_layersOf := goodIn_r _ [29, 14, 15, 33, 34, 35, 36, 37, 38, 39, 40, 41, 42, 43, 44, 45, 46, 47, 48, 49, 50, 51, 52, 53, 54, 55, 56, 57, 58, 59] (by decide +kernel) (by decide +kernel)
set_option maxRecDepth 20000 in
theorem gX12_cell_X12_layersOf : GoodIn wsX12_cell (wsV RX12 159 RX12 yX12_layersOf wsX12_layersOf) := goodIn_app (goodIn_of _ (by decide +kernel)) ggX12_cell_X12_layersOf
set_option maxRecDepth 20000 in
theorem ggX12_cell_X12_ones : GoodIn wsX12_cell wsX12_ones := goodIn_r _ [32] (by decide +kernel) (by decide +kernel)
set_option maxRecDepth 20000 in
theorem gX12_cell_X12_ones : GoodIn wsX12_cell (va_wsS RX12 143 yX12_ones wsX12_ones) := goodIn_app (goodIn_of _ (by decide +kernel)) ggX12_cell_X12_ones
theorem dX12_cell_0 : decode cX12_cell 0 = .ok (.iload_n 1, 1) := by decide +kernel
theorem dX12_cell_1 : decode cX12_cell 1 = .ok (.iload_n 2, 1) := by decide +kernel
theorem dX12_cell_2 : decode cX12_cell 2 = .ok (.invokestatic 151, 3) := by decide +kernel
theorem dX12_cell_5 : decode cX12_cell 5 = .ok (.ifCond .eq 15, 3) := by decide +kernel
theorem dX12_cell_8 : decode cX12_cell 8 = .ok (.iload_n 3, 1) := by decide +kernel
theorem dX12_cell_9 : decode cX12_cell 9 = .ok (.i2l, 1) := by decide +kernel
theorem dX12_cell_10 : decode cX12_cell 10 = .ok (.lconst 0, 1) := by decide +kernel
theorem dX12_cell_11 : decode cX12_cell 11 = .ok (.ldc2_w 154, 3) := by decide +kernel
theorem dX12_cell_14 : decode cX12_cell 14 = .ok (.invokestatic 89, 3) := by decide +kernel
theorem dX12_cell_17 : decode cX12_cell 17 = .ok (.ifCond .ne 5, 3) := by decide +kernel
theorem dX12_cell_20 : decode cX12_cell 20 = .ok (.iconst (-1), 1) := by decide +kernel
theorem dX12_cell_21 : decode cX12_cell 21 = .ok (.ireturn, 1) := by decide +kernel
theorem dX12_cell_22 : decode cX12_cell 22 = .ok (.bipush 16, 2) := by decide +kernel
theorem dX12_cell_24 : decode cX12_cell 24 = .ok (.iload_n 2, 1) := by decide +kernel
theorem dX12_cell_25 : decode cX12_cell 25 = .ok (.imul, 1) := by decide +kernel
theorem dX12_cell_26 : decode cX12_cell 26 = .ok (.iload_n 1, 1) := by decide +kernel
theorem dX12_cell_27 : decode cX12_cell 27 = .ok (.iadd, 1) := by decide +kernel
theorem dX12_cell_28 : decode cX12_cell 28 = .ok (.istore 4, 2) := by decide +kernel
theorem dX12_cell_30 : decode cX12_cell 30 = .ok (.iload_n 3, 1) := by decide +kernel
theorem dX12_cell_31 : decode cX12_cell 31 = .ok (.ifCond .ne 12, 3) := by decide +kernel
theorem dX12_cell_34 : decode cX12_cell 34 = .ok (.aload_n 0, 1) := by decide +kernel
theorem dX12_cell_35 : decode cX12_cell 35 = .ok (.iload 4, 2) := by decide +kernel
theorem dX12_cell_37 : decode cX12_cell 37 = .ok (.invokevirtual 156, 3) := by decide +kernel
theorem dX12_cell_40 : decode cX12_cell 40 = .ok (.goto 26, 3) := by decide +kernel
theorem dX12_cell_43 : decode cX12_cell 43 = .ok (.iload_n 3, 1) := by decide +kernel
theorem dX12_cell_44 : decode cX12_cell 44 = .ok (.iconst 1, 1) := by decide +kernel
theorem dX12_cell_45 : decode cX12_cell 45 = .ok (.if_icmp .ne 15, 3) := by decide +kernel
theorem dX12_cell_48 : decode cX12_cell 48 = .ok (.aload_n 0, 1) := by decide +kernel
theorem dX12_cell_49 : decode cX12_cell 49 = .ok (.iload 4, 2) := by decide +kernel
theorem dX12_cell_51 : decode cX12_cell 51 = .ok (.invokevirtual 159, 3) := by decide +kernel
theorem dX12_cell_54 : decode cX12_cell 54 = .ok (.invokestatic 143, 3) := by decide +kernel
theorem dX12_cell_57 : decode cX12_cell 57 = .ok (.goto 9, 3) := by decide +kernel
theorem dX12_cell_60 : decode cX12_cell 60 = .ok (.aload_n 0, 1) := by decide +kernel
theorem dX12_cell_61 : decode cX12_cell 61 = .ok (.iload 4, 2) := by decide +kernel
theorem dX12_cell_63 : decode cX12_cell 63 = .ok (.invokevirtual 159, 3) := by decide +kernel
theorem dX12_cell_66 : decode cX12_cell 66 = .ok (.ireturn, 1) := by decide +kernel
set_option maxRecDepth 20000 in
theorem ggX12_count_X12_in : GoodIn wsX12_count wsX12_in := goodIn_r _ [5] (by decide +kernel) (by decide +kernel)
set_option maxRecDepth 20000 in
theorem gX12_count_X12_in : GoodIn wsX12_count (va_wsS RX12 89 yX12_in wsX12_in) := goodIn_app (goodIn_of _ (by decide +kernel)) ggX12_count_X12_in
set_option maxRecDepth 20000 in
theorem ggX12_count_X12_lookOf : GoodIn wsX12_count wsX12_lookOf := goodIn_r _ [9, 10, 11, 12, 13, 14, 4, 15, 16, 17, 18, 19, 20, 21, 22, 23, 24, 25, 26, 27, 28, 29, 30, 31, 32, 33, 34, 35, 36, 37, 38, 39, 40, 41, 42, 43, 44, 45, 46, 47, 48] (by decide +kernel) (by decide +kernel)
set_option maxRecDepth 20000 in
theorem gX12_count_X12_lookOf : GoodIn wsX12_count (wsV RX12 156 RX12 yX12_lookOf wsX12_lookOf) := goodIn_app (goodIn_of _ (by decide +kernel)) ggX12_count_X12_lookOf
theorem dX12_count_0 : decode cX12_count 0 = .ok (.iload_n 1, 1) := by decide +kernel
theorem dX12_count_1 : decode cX12_count 1 = .ok (.i2l, 1) := by decide +kernel
theorem dX12_count_2 : decode cX12_count 2 = .ok (.lconst 0, 1) := by decide +kernel
theorem dX12_count_3 : decode cX12_count 3 = .ok (.ldc2_w 114, 3) := by decide +kernel
theorem dX12_count_6 : decode cX12_count 6 = .ok (.invokestatic 89, 3) := by decide +kernel
theorem dX12_count_9 : decode cX12_count 9 = .ok (.ifCond .ne 5, 3) := by decide +kernel
theorem dX12_count_12 : decode cX12_count 12 = .ok (.iconst (-1), 1) := by decide +kernel
theorem dX12_count_13 : decode cX12_count 13 = .ok (.ireturn, 1) := by decide +kernel
theorem dX12_count_14 : decode cX12_count 14 = .ok (.iconst 0, 1) := by decide +kernel
theorem dX12_count_15 : decode cX12_count 15 = .ok (.istore_n 2, 1) := by decide +kernel
theorem dX12_count_16 : decode cX12_count 16 = .ok (.iconst 0, 1) := by decide +kernel
theorem dX12_count_17 : decode cX12_count 17 = .ok (.istore_n 3, 1) := by decide +kernel
theorem dX12_count_18 : decode cX12_count 18 = .ok (.iload_n 3, 1) := by decide +kernel
theorem dX12_count_19 : decode cX12_count 19 = .ok (.sipush 256, 3) := by decide +kernel
theorem dX12_count_22 : decode cX12_count 22 = .ok (.if_icmp .ge 26, 3) := by decide +kernel
theorem dX12_count_25 : decode cX12_count 25 = .ok (.iload_n 2, 1) := by decide +kernel
theorem dX12_count_26 : decode cX12_count 26 = .ok (.aload_n 0, 1) := by decide +kernel
theorem dX12_count_27 : decode cX12_count 27 = .ok (.iload_n 3, 1) := by decide +kernel
theorem dX12_count_28 : decode cX12_count 28 = .ok (.invokevirtual 156, 3) := by decide +kernel
theorem dX12_count_31 : decode cX12_count 31 = .ok (.iload_n 1, 1) := by decide +kernel
theorem dX12_count_32 : decode cX12_count 32 = .ok (.if_icmp .ne 7, 3) := by decide +kernel
theorem dX12_count_35 : decode cX12_count 35 = .ok (.iconst 1, 1) := by decide +kernel
theorem dX12_count_36 : decode cX12_count 36 = .ok (.goto 4, 3) := by decide +kernel
theorem dX12_count_39 : decode cX12_count 39 = .ok (.iconst 0, 1) := by decide +kernel
theorem dX12_count_40 : decode cX12_count 40 = .ok (.iadd, 1) := by decide +kernel
theorem dX12_count_41 : decode cX12_count 41 = .ok (.istore_n 2, 1) := by decide +kernel
theorem dX12_count_42 : decode cX12_count 42 = .ok (.iinc 3 1, 3) := by decide +kernel
theorem dX12_count_45 : decode cX12_count 45 = .ok (.goto (-27), 3) := by decide +kernel
theorem dX12_count_48 : decode cX12_count 48 = .ok (.iload_n 2, 1) := by decide +kernel
theorem dX12_count_49 : decode cX12_count 49 = .ok (.ireturn, 1) := by decide +kernel
set_option maxRecDepth 20000 in
theorem ggX12_unlike_X12_lookOf : GoodIn wsX12_unlike wsX12_lookOf := goodIn_r _ [5, 6, 7, 8, 9, 10, 4, 11, 12, 13, 14, 15, 16, 17, 24, 25, 26, 27, 28, 29, 30, 31, 32, 33, 34, 35, 36, 37, 38, 39, 40, 41, 42, 43, 44, 45, 46, 47, 48, 49, 50] (by decide +kernel) (by decide +kernel)
set_option maxRecDepth 20000 in
theorem gX12_unlike_X12_lookOf : GoodIn wsX12_unlike (wsV RX12 156 RX12 yX12_lookOf wsX12_lookOf) := goodIn_app (goodIn_of _ (by decide +kernel)) ggX12_unlike_X12_lookOf
set_option maxRecDepth 20000 in
theorem ggX12_unlike_X12_placeOf : GoodIn wsX12_unlike wsX12_placeOf := goodIn_r _ [20, 15, 16, 4, 17, 21, 22, 23] (by decide +kernel) (by decide +kernel)
set_option maxRecDepth 20000 in
theorem gX12_unlike_X12_placeOf : GoodIn wsX12_unlike (va_wsS RX12 96 yX12_placeOf wsX12_placeOf) := goodIn_app (goodIn_of _ (by decide +kernel)) ggX12_unlike_X12_placeOf
theorem dX12_unlike_0 : decode cX12_unlike 0 = .ok (.iconst 0, 1) := by decide +kernel
theorem dX12_unlike_1 : decode cX12_unlike 1 = .ok (.istore_n 1, 1) := by decide +kernel
theorem dX12_unlike_2 : decode cX12_unlike 2 = .ok (.iconst 0, 1) := by decide +kernel
theorem dX12_unlike_3 : decode cX12_unlike 3 = .ok (.istore_n 2, 1) := by decide +kernel
theorem dX12_unlike_4 : decode cX12_unlike 4 = .ok (.iload_n 2, 1) := by decide +kernel
theorem dX12_unlike_5 : decode cX12_unlike 5 = .ok (.sipush 256, 3) := by decide +kernel
theorem dX12_unlike_8 : decode cX12_unlike 8 = .ok (.if_icmp .ge 33, 3) := by decide +kernel
theorem dX12_unlike_11 : decode cX12_unlike 11 = .ok (.iload_n 1, 1) := by decide +kernel
theorem dX12_unlike_12 : decode cX12_unlike 12 = .ok (.aload_n 0, 1) := by decide +kernel
theorem dX12_unlike_13 : decode cX12_unlike 13 = .ok (.iload_n 2, 1) := by decide +kernel
theorem dX12_unlike_14 : decode cX12_unlike 14 = .ok (.invokevirtual 156, 3) := by decide +kernel
theorem dX12_unlike_17 : decode cX12_unlike 17 = .ok (.aload_n 0, 1) := by decide +kernel
theorem dX12_unlike_18 : decode cX12_unlike 18 = .ok (.iload_n 2, 1) := by decide +kernel
theorem dX12_unlike_19 : decode cX12_unlike 19 = .ok (.invokestatic 96, 3) := by decide +kernel
theorem dX12_unlike_22 : decode cX12_unlike 22 = .ok (.invokevirtual 156, 3) := by decide +kernel
theorem dX12_unlike_25 : decode cX12_unlike 25 = .ok (.if_icmp .ne 7, 3) := by decide +kernel
theorem dX12_unlike_28 : decode cX12_unlike 28 = .ok (.iconst 0, 1) := by decide +kernel
theorem dX12_unlike_29 : decode cX12_unlike 29 = .ok (.goto 4, 3) := by decide +kernel
theorem dX12_unlike_32 : decode cX12_unlike 32 = .ok (.iconst 1, 1) := by decide +kernel
theorem dX12_unlike_33 : decode cX12_unlike 33 = .ok (.iadd, 1) := by decide +kernel
theorem dX12_unlike_34 : decode cX12_unlike 34 = .ok (.istore_n 1, 1) := by decide +kernel
theorem dX12_unlike_35 : decode cX12_unlike 35 = .ok (.iinc 2 1, 3) := by decide +kernel
theorem dX12_unlike_38 : decode cX12_unlike 38 = .ok (.goto (-34), 3) := by decide +kernel
theorem dX12_unlike_41 : decode cX12_unlike 41 = .ok (.iload_n 1, 1) := by decide +kernel
theorem dX12_unlike_42 : decode cX12_unlike 42 = .ok (.ireturn, 1) := by decide +kernel
set_option maxRecDepth 20000 in
theorem ggX12_hem_X12_isShape : GoodIn wsX12_hem wsX12_isShape := goodIn_r _ [7, 8, 9, 10, 6, 11, 12, 13, 14, 15, 16, 17, 18, 19, 20, 21, 22, 23, 24, 25, 26, 27, 28, 29, 30, 31, 32, 33, 34, 35, 36, 37, 38] (by decide +kernel) (by decide +kernel)
set_option maxRecDepth 20000 in
theorem gX12_hem_X12_isShape : GoodIn wsX12_hem (wsV RX12 137 RX12 yX12_isShape wsX12_isShape) := goodIn_app (goodIn_of _ (by decide +kernel)) ggX12_hem_X12_isShape
theorem dX12_hem_0 : decode cX12_hem 0 = .ok (.aload_n 0, 1) := by decide +kernel
theorem dX12_hem_1 : decode cX12_hem 1 = .ok (.iload_n 1, 1) := by decide +kernel
theorem dX12_hem_2 : decode cX12_hem 2 = .ok (.invokevirtual 137, 3) := by decide +kernel
theorem dX12_hem_5 : decode cX12_hem 5 = .ok (.ifCond .eq 16, 3) := by decide +kernel
theorem dX12_hem_8 : decode cX12_hem 8 = .ok (.aload_n 0, 1) := by decide +kernel
theorem dX12_hem_9 : decode cX12_hem 9 = .ok (.iload_n 2, 1) := by decide +kernel
theorem dX12_hem_10 : decode cX12_hem 10 = .ok (.invokevirtual 137, 3) := by decide +kernel
theorem dX12_hem_13 : decode cX12_hem 13 = .ok (.ifCond .eq 8, 3) := by decide +kernel
theorem dX12_hem_16 : decode cX12_hem 16 = .ok (.iload_n 1, 1) := by decide +kernel
theorem dX12_hem_17 : decode cX12_hem 17 = .ok (.iload_n 2, 1) := by decide +kernel
theorem dX12_hem_18 : decode cX12_hem 18 = .ok (.if_icmp .ne 5, 3) := by decide +kernel
theorem dX12_hem_21 : decode cX12_hem 21 = .ok (.iconst (-1), 1) := by decide +kernel
theorem dX12_hem_22 : decode cX12_hem 22 = .ok (.ireturn, 1) := by decide +kernel
theorem dX12_hem_23 : decode cX12_hem 23 = .ok (.aload_n 0, 1) := by decide +kernel
theorem dX12_hem_24 : decode cX12_hem 24 = .ok (.getfield 41, 3) := by decide +kernel
theorem dX12_hem_27 : decode cX12_hem 27 = .ok (.iload_n 1, 1) := by decide +kernel
theorem dX12_hem_28 : decode cX12_hem 28 = .ok (.iaload, 1) := by decide +kernel
theorem dX12_hem_29 : decode cX12_hem 29 = .ok (.iload_n 2, 1) := by decide +kernel
theorem dX12_hem_30 : decode cX12_hem 30 = .ok (.ishr, 1) := by decide +kernel
theorem dX12_hem_31 : decode cX12_hem 31 = .ok (.iconst 1, 1) := by decide +kernel
theorem dX12_hem_32 : decode cX12_hem 32 = .ok (.iand, 1) := by decide +kernel
theorem dX12_hem_33 : decode cX12_hem 33 = .ok (.istore 4, 2) := by decide +kernel
theorem dX12_hem_35 : decode cX12_hem 35 = .ok (.aload_n 0, 1) := by decide +kernel
theorem dX12_hem_36 : decode cX12_hem 36 = .ok (.getfield 41, 3) := by decide +kernel
theorem dX12_hem_39 : decode cX12_hem 39 = .ok (.iload_n 1, 1) := by decide +kernel
theorem dX12_hem_40 : decode cX12_hem 40 = .ok (.iload_n 3, 1) := by decide +kernel
theorem dX12_hem_41 : decode cX12_hem 41 = .ok (.ifCond .eq 16, 3) := by decide +kernel
theorem dX12_hem_44 : decode cX12_hem 44 = .ok (.aload_n 0, 1) := by decide +kernel
theorem dX12_hem_45 : decode cX12_hem 45 = .ok (.getfield 41, 3) := by decide +kernel
theorem dX12_hem_48 : decode cX12_hem 48 = .ok (.iload_n 1, 1) := by decide +kernel
theorem dX12_hem_49 : decode cX12_hem 49 = .ok (.iaload, 1) := by decide +kernel
theorem dX12_hem_50 : decode cX12_hem 50 = .ok (.iconst 1, 1) := by decide +kernel
theorem dX12_hem_51 : decode cX12_hem 51 = .ok (.iload_n 2, 1) := by decide +kernel
theorem dX12_hem_52 : decode cX12_hem 52 = .ok (.ishl, 1) := by decide +kernel
theorem dX12_hem_53 : decode cX12_hem 53 = .ok (.ior, 1) := by decide +kernel
theorem dX12_hem_54 : decode cX12_hem 54 = .ok (.goto 15, 3) := by decide +kernel
theorem dX12_hem_57 : decode cX12_hem 57 = .ok (.aload_n 0, 1) := by decide +kernel
theorem dX12_hem_58 : decode cX12_hem 58 = .ok (.getfield 41, 3) := by decide +kernel
theorem dX12_hem_61 : decode cX12_hem 61 = .ok (.iload_n 1, 1) := by decide +kernel
theorem dX12_hem_62 : decode cX12_hem 62 = .ok (.iaload, 1) := by decide +kernel
theorem dX12_hem_63 : decode cX12_hem 63 = .ok (.iconst 1, 1) := by decide +kernel
theorem dX12_hem_64 : decode cX12_hem 64 = .ok (.iload_n 2, 1) := by decide +kernel
theorem dX12_hem_65 : decode cX12_hem 65 = .ok (.ishl, 1) := by decide +kernel
theorem dX12_hem_66 : decode cX12_hem 66 = .ok (.iconst (-1), 1) := by decide +kernel
theorem dX12_hem_67 : decode cX12_hem 67 = .ok (.ixor, 1) := by decide +kernel
theorem dX12_hem_68 : decode cX12_hem 68 = .ok (.iand, 1) := by decide +kernel
theorem dX12_hem_69 : decode cX12_hem 69 = .ok (.iastore, 1) := by decide +kernel
theorem dX12_hem_70 : decode cX12_hem 70 = .ok (.aload_n 0, 1) := by decide +kernel
theorem dX12_hem_71 : decode cX12_hem 71 = .ok (.iconst 0, 1) := by decide +kernel
theorem dX12_hem_72 : decode cX12_hem 72 = .ok (.putfield 110, 3) := by decide +kernel
theorem dX12_hem_75 : decode cX12_hem 75 = .ok (.iload 4, 2) := by decide +kernel
theorem dX12_hem_77 : decode cX12_hem 77 = .ok (.ireturn, 1) := by decide +kernel
set_option maxRecDepth 20000 in
theorem ggX12_after_X12_isShape : GoodIn wsX12_after wsX12_isShape := goodIn_r _ [5, 6, 7, 8, 4, 9, 16, 17, 18, 19, 20, 21, 22, 23, 24, 25, 26, 27, 28, 29, 30, 31, 32, 33, 34, 35, 36, 37, 38, 39, 40, 41, 42] (by decide +kernel) (by decide +kernel)
set_option maxRecDepth 20000 in
theorem gX12_after_X12_isShape : GoodIn wsX12_after (wsV RX12 137 RX12 yX12_isShape wsX12_isShape) := goodIn_app (goodIn_of _ (by decide +kernel)) ggX12_after_X12_isShape
set_option maxRecDepth 20000 in
theorem ggX12_after_X12_comesAfter : GoodIn wsX12_after wsX12_comesAfter := goodIn_r _ [13, 14, 15, 16, 17, 18, 19, 20, 21, 22, 23, 24, 25, 26, 27, 28, 29, 30, 31, 32, 33, 34, 35, 36, 37, 38, 39, 40, 41, 42] (by decide +kernel) (by decide +kernel)
set_option maxRecDepth 20000 in
theorem gX12_after_X12_comesAfter : GoodIn wsX12_after (wsV RX12 134 RX12 yX12_comesAfter wsX12_comesAfter) := goodIn_app (goodIn_of _ (by decide +kernel)) ggX12_after_X12_comesAfter
theorem dX12_after_0 : decode cX12_after 0 = .ok (.aload_n 0, 1) := by decide +kernel
theorem dX12_after_1 : decode cX12_after 1 = .ok (.iload_n 1, 1) := by decide +kernel
theorem dX12_after_2 : decode cX12_after 2 = .ok (.invokevirtual 137, 3) := by decide +kernel
theorem dX12_after_5 : decode cX12_after 5 = .ok (.ifCond .eq 16, 3) := by decide +kernel
theorem dX12_after_8 : decode cX12_after 8 = .ok (.aload_n 0, 1) := by decide +kernel
theorem dX12_after_9 : decode cX12_after 9 = .ok (.iload_n 2, 1) := by decide +kernel
theorem dX12_after_10 : decode cX12_after 10 = .ok (.invokevirtual 137, 3) := by decide +kernel
theorem dX12_after_13 : decode cX12_after 13 = .ok (.ifCond .eq 8, 3) := by decide +kernel
theorem dX12_after_16 : decode cX12_after 16 = .ok (.iload_n 1, 1) := by decide +kernel
theorem dX12_after_17 : decode cX12_after 17 = .ok (.iload_n 2, 1) := by decide +kernel
theorem dX12_after_18 : decode cX12_after 18 = .ok (.if_icmp .ne 7, 3) := by decide +kernel
theorem dX12_after_21 : decode cX12_after 21 = .ok (.iconst (-1), 1) := by decide +kernel
theorem dX12_after_22 : decode cX12_after 22 = .ok (.goto 17, 3) := by decide +kernel
theorem dX12_after_25 : decode cX12_after 25 = .ok (.aload_n 0, 1) := by decide +kernel
theorem dX12_after_26 : decode cX12_after 26 = .ok (.iload_n 1, 1) := by decide +kernel
theorem dX12_after_27 : decode cX12_after 27 = .ok (.iload_n 2, 1) := by decide +kernel
theorem dX12_after_28 : decode cX12_after 28 = .ok (.invokevirtual 134, 3) := by decide +kernel
theorem dX12_after_31 : decode cX12_after 31 = .ok (.ifCond .eq 7, 3) := by decide +kernel
theorem dX12_after_34 : decode cX12_after 34 = .ok (.iconst 1, 1) := by decide +kernel
theorem dX12_after_35 : decode cX12_after 35 = .ok (.goto 4, 3) := by decide +kernel
theorem dX12_after_38 : decode cX12_after 38 = .ok (.iconst 0, 1) := by decide +kernel
theorem dX12_after_39 : decode cX12_after 39 = .ok (.ireturn, 1) := by decide +kernel
set_option maxRecDepth 20000 in
theorem ggX12_sand_X12_in : GoodIn wsX12_sand wsX12_in := goodIn_r _ [7] (by decide +kernel) (by decide +kernel)
set_option maxRecDepth 20000 in
theorem gX12_sand_X12_in : GoodIn wsX12_sand (va_wsS RX12 89 yX12_in wsX12_in) := goodIn_app (goodIn_of _ (by decide +kernel)) ggX12_sand_X12_in
theorem dX12_sand_0 : decode cX12_sand 0 = .ok (.iload_n 1, 1) := by decide +kernel
theorem dX12_sand_1 : decode cX12_sand 1 = .ok (.i2l, 1) := by decide +kernel
theorem dX12_sand_2 : decode cX12_sand 2 = .ok (.lconst 1, 1) := by decide +kernel
theorem dX12_sand_3 : decode cX12_sand 3 = .ok (.ldc2_w 162, 3) := by decide +kernel
theorem dX12_sand_6 : decode cX12_sand 6 = .ok (.invokestatic 89, 3) := by decide +kernel
theorem dX12_sand_9 : decode cX12_sand 9 = .ok (.ifCond .ne 5, 3) := by decide +kernel
theorem dX12_sand_12 : decode cX12_sand 12 = .ok (.iconst (-1), 1) := by decide +kernel
theorem dX12_sand_13 : decode cX12_sand 13 = .ok (.ireturn, 1) := by decide +kernel
theorem dX12_sand_14 : decode cX12_sand 14 = .ok (.aload_n 0, 1) := by decide +kernel
theorem dX12_sand_15 : decode cX12_sand 15 = .ok (.getfield 44, 3) := by decide +kernel
theorem dX12_sand_18 : decode cX12_sand 18 = .ok (.istore_n 2, 1) := by decide +kernel
theorem dX12_sand_19 : decode cX12_sand 19 = .ok (.aload_n 0, 1) := by decide +kernel
theorem dX12_sand_20 : decode cX12_sand 20 = .ok (.iload_n 1, 1) := by decide +kernel
theorem dX12_sand_21 : decode cX12_sand 21 = .ok (.putfield 44, 3) := by decide +kernel
theorem dX12_sand_24 : decode cX12_sand 24 = .ok (.aload_n 0, 1) := by decide +kernel
theorem dX12_sand_25 : decode cX12_sand 25 = .ok (.iconst 0, 1) := by decide +kernel
theorem dX12_sand_26 : decode cX12_sand 26 = .ok (.putfield 110, 3) := by decide +kernel
theorem dX12_sand_29 : decode cX12_sand 29 = .ok (.iload_n 2, 1) := by decide +kernel
theorem dX12_sand_30 : decode cX12_sand 30 = .ok (.ireturn, 1) := by decide +kernel
theorem dX12_nextOf_0 : decode cX12_nextOf 0 = .ok (.iconst (-1), 1) := by decide +kernel
theorem dX12_nextOf_1 : decode cX12_nextOf 1 = .ok (.istore_n 3, 1) := by decide +kernel
theorem dX12_nextOf_2 : decode cX12_nextOf 2 = .ok (.iconst 0, 1) := by decide +kernel
theorem dX12_nextOf_3 : decode cX12_nextOf 3 = .ok (.istore 4, 2) := by decide +kernel
theorem dX12_nextOf_5 : decode cX12_nextOf 5 = .ok (.iload 4, 2) := by decide +kernel
theorem dX12_nextOf_7 : decode cX12_nextOf 7 = .ok (.aload_n 0, 1) := by decide +kernel
theorem dX12_nextOf_8 : decode cX12_nextOf 8 = .ok (.getfield 103, 3) := by decide +kernel
theorem dX12_nextOf_11 : decode cX12_nextOf 11 = .ok (.if_icmp .ge 46, 3) := by decide +kernel
theorem dX12_nextOf_14 : decode cX12_nextOf 14 = .ok (.iload_n 1, 1) := by decide +kernel
theorem dX12_nextOf_15 : decode cX12_nextOf 15 = .ok (.iload 4, 2) := by decide +kernel
theorem dX12_nextOf_17 : decode cX12_nextOf 17 = .ok (.ishr, 1) := by decide +kernel
theorem dX12_nextOf_18 : decode cX12_nextOf 18 = .ok (.iconst 1, 1) := by decide +kernel
theorem dX12_nextOf_19 : decode cX12_nextOf 19 = .ok (.iand, 1) := by decide +kernel
theorem dX12_nextOf_20 : decode cX12_nextOf 20 = .ok (.iconst 1, 1) := by decide +kernel
theorem dX12_nextOf_21 : decode cX12_nextOf 21 = .ok (.if_icmp .ne 28, 3) := by decide +kernel
theorem dX12_nextOf_24 : decode cX12_nextOf 24 = .ok (.iload_n 3, 1) := by decide +kernel
theorem dX12_nextOf_25 : decode cX12_nextOf 25 = .ok (.ifCond .lt 14, 3) := by decide +kernel
theorem dX12_nextOf_28 : decode cX12_nextOf 28 = .ok (.aload_n 0, 1) := by decide +kernel
theorem dX12_nextOf_29 : decode cX12_nextOf 29 = .ok (.getfield 38, 3) := by decide +kernel
theorem dX12_nextOf_32 : decode cX12_nextOf 32 = .ok (.iload 4, 2) := by decide +kernel
theorem dX12_nextOf_34 : decode cX12_nextOf 34 = .ok (.iaload, 1) := by decide +kernel
theorem dX12_nextOf_35 : decode cX12_nextOf 35 = .ok (.iload_n 3, 1) := by decide +kernel
theorem dX12_nextOf_36 : decode cX12_nextOf 36 = .ok (.if_icmp .ge 13, 3) := by decide +kernel
theorem dX12_nextOf_39 : decode cX12_nextOf 39 = .ok (.aload_n 0, 1) := by decide +kernel
theorem dX12_nextOf_40 : decode cX12_nextOf 40 = .ok (.getfield 38, 3) := by decide +kernel
theorem dX12_nextOf_43 : decode cX12_nextOf 43 = .ok (.iload 4, 2) := by decide +kernel
theorem dX12_nextOf_45 : decode cX12_nextOf 45 = .ok (.iaload, 1) := by decide +kernel
theorem dX12_nextOf_46 : decode cX12_nextOf 46 = .ok (.goto 4, 3) := by decide +kernel
theorem dX12_nextOf_49 : decode cX12_nextOf 49 = .ok (.iload_n 3, 1) := by decide +kernel
theorem dX12_nextOf_50 : decode cX12_nextOf 50 = .ok (.istore_n 3, 1) := by decide +kernel
theorem dX12_nextOf_51 : decode cX12_nextOf 51 = .ok (.iinc 4 1, 3) := by decide +kernel
theorem dX12_nextOf_54 : decode cX12_nextOf 54 = .ok (.goto (-49), 3) := by decide +kernel
theorem dX12_nextOf_57 : decode cX12_nextOf 57 = .ok (.iconst 0, 1) := by decide +kernel
theorem dX12_nextOf_58 : decode cX12_nextOf 58 = .ok (.istore 4, 2) := by decide +kernel
theorem dX12_nextOf_60 : decode cX12_nextOf 60 = .ok (.iload 4, 2) := by decide +kernel
theorem dX12_nextOf_62 : decode cX12_nextOf 62 = .ok (.aload_n 0, 1) := by decide +kernel
theorem dX12_nextOf_63 : decode cX12_nextOf 63 = .ok (.getfield 103, 3) := by decide +kernel
theorem dX12_nextOf_66 : decode cX12_nextOf 66 = .ok (.if_icmp .ge 47, 3) := by decide +kernel
theorem dX12_nextOf_69 : decode cX12_nextOf 69 = .ok (.iload_n 1, 1) := by decide +kernel
theorem dX12_nextOf_70 : decode cX12_nextOf 70 = .ok (.iload 4, 2) := by decide +kernel
theorem dX12_nextOf_72 : decode cX12_nextOf 72 = .ok (.ishr, 1) := by decide +kernel
theorem dX12_nextOf_73 : decode cX12_nextOf 73 = .ok (.iconst 1, 1) := by decide +kernel
theorem dX12_nextOf_74 : decode cX12_nextOf 74 = .ok (.iand, 1) := by decide +kernel
theorem dX12_nextOf_75 : decode cX12_nextOf 75 = .ok (.iconst 1, 1) := by decide +kernel
theorem dX12_nextOf_76 : decode cX12_nextOf 76 = .ok (.if_icmp .ne 31, 3) := by decide +kernel
theorem dX12_nextOf_79 : decode cX12_nextOf 79 = .ok (.aload_n 0, 1) := by decide +kernel
theorem dX12_nextOf_80 : decode cX12_nextOf 80 = .ok (.getfield 38, 3) := by decide +kernel
theorem dX12_nextOf_83 : decode cX12_nextOf 83 = .ok (.iload 4, 2) := by decide +kernel
theorem dX12_nextOf_85 : decode cX12_nextOf 85 = .ok (.iaload, 1) := by decide +kernel
theorem dX12_nextOf_86 : decode cX12_nextOf 86 = .ok (.iload_n 3, 1) := by decide +kernel
theorem dX12_nextOf_87 : decode cX12_nextOf 87 = .ok (.if_icmp .ne 20, 3) := by decide +kernel
theorem dX12_nextOf_90 : decode cX12_nextOf 90 = .ok (.aload_n 0, 1) := by decide +kernel
theorem dX12_nextOf_91 : decode cX12_nextOf 91 = .ok (.getfield 48, 3) := by decide +kernel
theorem dX12_nextOf_94 : decode cX12_nextOf 94 = .ok (.iload 4, 2) := by decide +kernel
theorem dX12_nextOf_96 : decode cX12_nextOf 96 = .ok (.iaload, 1) := by decide +kernel
theorem dX12_nextOf_97 : decode cX12_nextOf 97 = .ok (.iload_n 2, 1) := by decide +kernel
theorem dX12_nextOf_98 : decode cX12_nextOf 98 = .ok (.iconst (-1), 1) := by decide +kernel
theorem dX12_nextOf_99 : decode cX12_nextOf 99 = .ok (.ixor, 1) := by decide +kernel
theorem dX12_nextOf_100 : decode cX12_nextOf 100 = .ok (.iand, 1) := by decide +kernel
theorem dX12_nextOf_101 : decode cX12_nextOf 101 = .ok (.ifCond .ne 6, 3) := by decide +kernel
theorem dX12_nextOf_104 : decode cX12_nextOf 104 = .ok (.iload 4, 2) := by decide +kernel
theorem dX12_nextOf_106 : decode cX12_nextOf 106 = .ok (.ireturn, 1) := by decide +kernel
theorem dX12_nextOf_107 : decode cX12_nextOf 107 = .ok (.iinc 4 1, 3) := by decide +kernel
theorem dX12_nextOf_110 : decode cX12_nextOf 110 = .ok (.goto (-50), 3) := by decide +kernel
theorem dX12_nextOf_113 : decode cX12_nextOf 113 = .ok (.iconst (-1), 1) := by decide +kernel
theorem dX12_nextOf_114 : decode cX12_nextOf 114 = .ok (.ireturn, 1) := by decide +kernel
set_option maxRecDepth 20000 in
theorem ggX12_canBeDay_X12_nextOf : GoodIn wsX12_canBeDay wsX12_nextOf := goodIn_r _ [9, 1, 10, 11, 12, 13, 14, 15, 16, 17, 18, 19, 20, 21, 22, 23, 24, 25, 26, 27, 28, 29, 30, 31, 32, 33, 34, 35, 36, 37, 38] (by decide +kernel) (by decide +kernel)
set_option maxRecDepth 20000 in
theorem gX12_canBeDay_X12_nextOf : GoodIn wsX12_canBeDay (wsV RX12 164 RX12 yX12_nextOf wsX12_nextOf) := goodIn_app (goodIn_of _ (by decide +kernel)) ggX12_canBeDay_X12_nextOf
theorem dX12_canBeDay_0 : decode cX12_canBeDay 0 = .ok (.iconst 0, 1) := by decide +kernel
theorem dX12_canBeDay_1 : decode cX12_canBeDay 1 = .ok (.istore_n 3, 1) := by decide +kernel
theorem dX12_canBeDay_2 : decode cX12_canBeDay 2 = .ok (.iconst 0, 1) := by decide +kernel
theorem dX12_canBeDay_3 : decode cX12_canBeDay 3 = .ok (.istore 4, 2) := by decide +kernel
theorem dX12_canBeDay_5 : decode cX12_canBeDay 5 = .ok (.iload 4, 2) := by decide +kernel
theorem dX12_canBeDay_7 : decode cX12_canBeDay 7 = .ok (.aload_n 0, 1) := by decide +kernel
theorem dX12_canBeDay_8 : decode cX12_canBeDay 8 = .ok (.getfield 103, 3) := by decide +kernel
theorem dX12_canBeDay_11 : decode cX12_canBeDay 11 = .ok (.if_icmp .ge 33, 3) := by decide +kernel
theorem dX12_canBeDay_14 : decode cX12_canBeDay 14 = .ok (.iload_n 3, 1) := by decide +kernel
theorem dX12_canBeDay_15 : decode cX12_canBeDay 15 = .ok (.iload_n 1, 1) := by decide +kernel
theorem dX12_canBeDay_16 : decode cX12_canBeDay 16 = .ok (.iload 4, 2) := by decide +kernel
theorem dX12_canBeDay_18 : decode cX12_canBeDay 18 = .ok (.ishr, 1) := by decide +kernel
theorem dX12_canBeDay_19 : decode cX12_canBeDay 19 = .ok (.iconst 1, 1) := by decide +kernel
theorem dX12_canBeDay_20 : decode cX12_canBeDay 20 = .ok (.iand, 1) := by decide +kernel
theorem dX12_canBeDay_21 : decode cX12_canBeDay 21 = .ok (.iconst 1, 1) := by decide +kernel
theorem dX12_canBeDay_22 : decode cX12_canBeDay 22 = .ok (.if_icmp .ne 13, 3) := by decide +kernel
theorem dX12_canBeDay_25 : decode cX12_canBeDay 25 = .ok (.aload_n 0, 1) := by decide +kernel
theorem dX12_canBeDay_26 : decode cX12_canBeDay 26 = .ok (.getfield 35, 3) := by decide +kernel
theorem dX12_canBeDay_29 : decode cX12_canBeDay 29 = .ok (.iload 4, 2) := by decide +kernel
theorem dX12_canBeDay_31 : decode cX12_canBeDay 31 = .ok (.iaload, 1) := by decide +kernel
theorem dX12_canBeDay_32 : decode cX12_canBeDay 32 = .ok (.goto 4, 3) := by decide +kernel
theorem dX12_canBeDay_35 : decode cX12_canBeDay 35 = .ok (.iconst 0, 1) := by decide +kernel
theorem dX12_canBeDay_36 : decode cX12_canBeDay 36 = .ok (.iadd, 1) := by decide +kernel
theorem dX12_canBeDay_37 : decode cX12_canBeDay 37 = .ok (.istore_n 3, 1) := by decide +kernel
theorem dX12_canBeDay_38 : decode cX12_canBeDay 38 = .ok (.iinc 4 1, 3) := by decide +kernel
theorem dX12_canBeDay_41 : decode cX12_canBeDay 41 = .ok (.goto (-36), 3) := by decide +kernel
theorem dX12_canBeDay_44 : decode cX12_canBeDay 44 = .ok (.iload_n 1, 1) := by decide +kernel
theorem dX12_canBeDay_45 : decode cX12_canBeDay 45 = .ok (.istore 4, 2) := by decide +kernel
theorem dX12_canBeDay_47 : decode cX12_canBeDay 47 = .ok (.iconst 0, 1) := by decide +kernel
theorem dX12_canBeDay_48 : decode cX12_canBeDay 48 = .ok (.istore 5, 2) := by decide +kernel
theorem dX12_canBeDay_50 : decode cX12_canBeDay 50 = .ok (.iload_n 2, 1) := by decide +kernel
theorem dX12_canBeDay_51 : decode cX12_canBeDay 51 = .ok (.istore 6, 2) := by decide +kernel
theorem dX12_canBeDay_53 : decode cX12_canBeDay 53 = .ok (.iload 4, 2) := by decide +kernel
theorem dX12_canBeDay_55 : decode cX12_canBeDay 55 = .ok (.ifCond .eq 63, 3) := by decide +kernel
theorem dX12_canBeDay_58 : decode cX12_canBeDay 58 = .ok (.iload_n 3, 1) := by decide +kernel
theorem dX12_canBeDay_59 : decode cX12_canBeDay 59 = .ok (.aload_n 0, 1) := by decide +kernel
theorem dX12_canBeDay_60 : decode cX12_canBeDay 60 = .ok (.getfield 44, 3) := by decide +kernel
theorem dX12_canBeDay_63 : decode cX12_canBeDay 63 = .ok (.if_icmp .gt 55, 3) := by decide +kernel
theorem dX12_canBeDay_66 : decode cX12_canBeDay 66 = .ok (.aload_n 0, 1) := by decide +kernel
theorem dX12_canBeDay_67 : decode cX12_canBeDay 67 = .ok (.iload 4, 2) := by decide +kernel
theorem dX12_canBeDay_69 : decode cX12_canBeDay 69 = .ok (.iload 6, 2) := by decide +kernel
theorem dX12_canBeDay_71 : decode cX12_canBeDay 71 = .ok (.invokevirtual 164, 3) := by decide +kernel
theorem dX12_canBeDay_74 : decode cX12_canBeDay 74 = .ok (.istore 7, 2) := by decide +kernel
theorem dX12_canBeDay_76 : decode cX12_canBeDay 76 = .ok (.iload 7, 2) := by decide +kernel
theorem dX12_canBeDay_78 : decode cX12_canBeDay 78 = .ok (.ifCond .ge 5, 3) := by decide +kernel
theorem dX12_canBeDay_81 : decode cX12_canBeDay 81 = .ok (.iconst 0, 1) := by decide +kernel
theorem dX12_canBeDay_82 : decode cX12_canBeDay 82 = .ok (.ireturn, 1) := by decide +kernel
theorem dX12_canBeDay_83 : decode cX12_canBeDay 83 = .ok (.aload_n 0, 1) := by decide +kernel
theorem dX12_canBeDay_84 : decode cX12_canBeDay 84 = .ok (.getfield 57, 3) := by decide +kernel
theorem dX12_canBeDay_87 : decode cX12_canBeDay 87 = .ok (.iload 5, 2) := by decide +kernel
theorem dX12_canBeDay_89 : decode cX12_canBeDay 89 = .ok (.iload 7, 2) := by decide +kernel
theorem dX12_canBeDay_91 : decode cX12_canBeDay 91 = .ok (.iastore, 1) := by decide +kernel
theorem dX12_canBeDay_92 : decode cX12_canBeDay 92 = .ok (.iinc 5 1, 3) := by decide +kernel
theorem dX12_canBeDay_95 : decode cX12_canBeDay 95 = .ok (.iload 4, 2) := by decide +kernel
theorem dX12_canBeDay_97 : decode cX12_canBeDay 97 = .ok (.iconst 1, 1) := by decide +kernel
theorem dX12_canBeDay_98 : decode cX12_canBeDay 98 = .ok (.iload 7, 2) := by decide +kernel
theorem dX12_canBeDay_100 : decode cX12_canBeDay 100 = .ok (.ishl, 1) := by decide +kernel
theorem dX12_canBeDay_101 : decode cX12_canBeDay 101 = .ok (.iconst (-1), 1) := by decide +kernel
theorem dX12_canBeDay_102 : decode cX12_canBeDay 102 = .ok (.ixor, 1) := by decide +kernel
theorem dX12_canBeDay_103 : decode cX12_canBeDay 103 = .ok (.iand, 1) := by decide +kernel
theorem dX12_canBeDay_104 : decode cX12_canBeDay 104 = .ok (.istore 4, 2) := by decide +kernel
theorem dX12_canBeDay_106 : decode cX12_canBeDay 106 = .ok (.iload 6, 2) := by decide +kernel
theorem dX12_canBeDay_108 : decode cX12_canBeDay 108 = .ok (.iconst 1, 1) := by decide +kernel
theorem dX12_canBeDay_109 : decode cX12_canBeDay 109 = .ok (.iload 7, 2) := by decide +kernel
theorem dX12_canBeDay_111 : decode cX12_canBeDay 111 = .ok (.ishl, 1) := by decide +kernel
theorem dX12_canBeDay_112 : decode cX12_canBeDay 112 = .ok (.ior, 1) := by decide +kernel
theorem dX12_canBeDay_113 : decode cX12_canBeDay 113 = .ok (.istore 6, 2) := by decide +kernel
theorem dX12_canBeDay_115 : decode cX12_canBeDay 115 = .ok (.goto (-62), 3) := by decide +kernel
theorem dX12_canBeDay_118 : decode cX12_canBeDay 118 = .ok (.iload_n 3, 1) := by decide +kernel
theorem dX12_canBeDay_119 : decode cX12_canBeDay 119 = .ok (.aload_n 0, 1) := by decide +kernel
theorem dX12_canBeDay_120 : decode cX12_canBeDay 120 = .ok (.getfield 44, 3) := by decide +kernel
theorem dX12_canBeDay_123 : decode cX12_canBeDay 123 = .ok (.if_icmp .gt 7, 3) := by decide +kernel
theorem dX12_canBeDay_126 : decode cX12_canBeDay 126 = .ok (.iconst 1, 1) := by decide +kernel
theorem dX12_canBeDay_127 : decode cX12_canBeDay 127 = .ok (.goto 4, 3) := by decide +kernel
theorem dX12_canBeDay_130 : decode cX12_canBeDay 130 = .ok (.iconst 0, 1) := by decide +kernel
theorem dX12_canBeDay_131 : decode cX12_canBeDay 131 = .ok (.ireturn, 1) := by decide +kernel
set_option maxRecDepth 20000 in
theorem ggX12_findPlan_X12_aheadOf : GoodIn wsX12_findPlan wsX12_aheadOf := goodIn_r _ [11, 2, 12, 13, 14, 10, 15, 16, 17, 30, 31, 32, 33, 34, 35, 36, 37, 38, 39, 40, 41, 42, 43, 44, 45, 46, 47, 48, 49, 50, 51, 52, 53, 54, 55, 56] (by decide +kernel) (by decide +kernel)
set_option maxRecDepth 20000 in
theorem gX12_findPlan_X12_aheadOf : GoodIn wsX12_findPlan (wsV RX12 140 RX12 yX12_aheadOf wsX12_aheadOf) := goodIn_app (goodIn_of _ (by decide +kernel)) ggX12_findPlan_X12_aheadOf
set_option maxRecDepth 20000 in
theorem ggX12_findPlan_X12_canBeDay : GoodIn wsX12_findPlan wsX12_canBeDay := goodIn_r _ [21, 2, 22, 23, 24, 25, 26, 27, 10, 28, 29, 3, 30, 31, 32, 33, 34, 35, 36, 37, 38, 39, 40, 41, 42, 43, 44, 45, 46, 47, 48, 49, 50, 51, 52, 53, 54, 55, 56] (by decide +kernel) (by decide +kernel)
set_option maxRecDepth 20000 in
theorem gX12_findPlan_X12_canBeDay : GoodIn wsX12_findPlan (wsV RX12 167 RX12 yX12_canBeDay wsX12_canBeDay) := goodIn_app (goodIn_of _ (by decide +kernel)) ggX12_findPlan_X12_canBeDay
theorem dX12_findPlan_0 : decode cX12_findPlan 0 = .ok (.aload_n 0, 1) := by decide +kernel
theorem dX12_findPlan_1 : decode cX12_findPlan 1 = .ok (.getfield 110, 3) := by decide +kernel
theorem dX12_findPlan_4 : decode cX12_findPlan 4 = .ok (.ifCond .eq 4, 3) := by decide +kernel
theorem dX12_findPlan_7 : decode cX12_findPlan 7 = .ok (.return_, 1) := by decide +kernel
theorem dX12_findPlan_8 : decode cX12_findPlan 8 = .ok (.aload_n 0, 1) := by decide +kernel
theorem dX12_findPlan_9 : decode cX12_findPlan 9 = .ok (.iconst 1, 1) := by decide +kernel
theorem dX12_findPlan_10 : decode cX12_findPlan 10 = .ok (.putfield 110, 3) := by decide +kernel
theorem dX12_findPlan_13 : decode cX12_findPlan 13 = .ok (.iconst 0, 1) := by decide +kernel
theorem dX12_findPlan_14 : decode cX12_findPlan 14 = .ok (.istore_n 1, 1) := by decide +kernel
theorem dX12_findPlan_15 : decode cX12_findPlan 15 = .ok (.iload_n 1, 1) := by decide +kernel
theorem dX12_findPlan_16 : decode cX12_findPlan 16 = .ok (.aload_n 0, 1) := by decide +kernel
theorem dX12_findPlan_17 : decode cX12_findPlan 17 = .ok (.getfield 103, 3) := by decide +kernel
theorem dX12_findPlan_20 : decode cX12_findPlan 20 = .ok (.if_icmp .ge 20, 3) := by decide +kernel
theorem dX12_findPlan_23 : decode cX12_findPlan 23 = .ok (.aload_n 0, 1) := by decide +kernel
theorem dX12_findPlan_24 : decode cX12_findPlan 24 = .ok (.getfield 48, 3) := by decide +kernel
theorem dX12_findPlan_27 : decode cX12_findPlan 27 = .ok (.iload_n 1, 1) := by decide +kernel
theorem dX12_findPlan_28 : decode cX12_findPlan 28 = .ok (.aload_n 0, 1) := by decide +kernel
theorem dX12_findPlan_29 : decode cX12_findPlan 29 = .ok (.iload_n 1, 1) := by decide +kernel
theorem dX12_findPlan_30 : decode cX12_findPlan 30 = .ok (.invokevirtual 140, 3) := by decide +kernel
theorem dX12_findPlan_33 : decode cX12_findPlan 33 = .ok (.iastore, 1) := by decide +kernel
theorem dX12_findPlan_34 : decode cX12_findPlan 34 = .ok (.iinc 1 1, 3) := by decide +kernel
theorem dX12_findPlan_37 : decode cX12_findPlan 37 = .ok (.goto (-22), 3) := by decide +kernel
theorem dX12_findPlan_40 : decode cX12_findPlan 40 = .ok (.iconst 1, 1) := by decide +kernel
theorem dX12_findPlan_41 : decode cX12_findPlan 41 = .ok (.aload_n 0, 1) := by decide +kernel
theorem dX12_findPlan_42 : decode cX12_findPlan 42 = .ok (.getfield 103, 3) := by decide +kernel
theorem dX12_findPlan_45 : decode cX12_findPlan 45 = .ok (.ishl, 1) := by decide +kernel
theorem dX12_findPlan_46 : decode cX12_findPlan 46 = .ok (.iconst 1, 1) := by decide +kernel
theorem dX12_findPlan_47 : decode cX12_findPlan 47 = .ok (.isub, 1) := by decide +kernel
theorem dX12_findPlan_48 : decode cX12_findPlan 48 = .ok (.istore_n 1, 1) := by decide +kernel
theorem dX12_findPlan_49 : decode cX12_findPlan 49 = .ok (.aload_n 0, 1) := by decide +kernel
theorem dX12_findPlan_50 : decode cX12_findPlan 50 = .ok (.getfield 51, 3) := by decide +kernel
theorem dX12_findPlan_53 : decode cX12_findPlan 53 = .ok (.iload_n 1, 1) := by decide +kernel
theorem dX12_findPlan_54 : decode cX12_findPlan 54 = .ok (.iconst 0, 1) := by decide +kernel
theorem dX12_findPlan_55 : decode cX12_findPlan 55 = .ok (.iastore, 1) := by decide +kernel
theorem dX12_findPlan_56 : decode cX12_findPlan 56 = .ok (.iload_n 1, 1) := by decide +kernel
theorem dX12_findPlan_57 : decode cX12_findPlan 57 = .ok (.iconst 1, 1) := by decide +kernel
theorem dX12_findPlan_58 : decode cX12_findPlan 58 = .ok (.isub, 1) := by decide +kernel
theorem dX12_findPlan_59 : decode cX12_findPlan 59 = .ok (.istore_n 2, 1) := by decide +kernel
theorem dX12_findPlan_60 : decode cX12_findPlan 60 = .ok (.iload_n 2, 1) := by decide +kernel
theorem dX12_findPlan_61 : decode cX12_findPlan 61 = .ok (.ifCond .lt 89, 3) := by decide +kernel
theorem dX12_findPlan_64 : decode cX12_findPlan 64 = .ok (.iconst (-1), 1) := by decide +kernel
theorem dX12_findPlan_65 : decode cX12_findPlan 65 = .ok (.istore_n 3, 1) := by decide +kernel
theorem dX12_findPlan_66 : decode cX12_findPlan 66 = .ok (.iload_n 1, 1) := by decide +kernel
theorem dX12_findPlan_67 : decode cX12_findPlan 67 = .ok (.iload_n 2, 1) := by decide +kernel
theorem dX12_findPlan_68 : decode cX12_findPlan 68 = .ok (.iconst (-1), 1) := by decide +kernel
theorem dX12_findPlan_69 : decode cX12_findPlan 69 = .ok (.ixor, 1) := by decide +kernel
theorem dX12_findPlan_70 : decode cX12_findPlan 70 = .ok (.iand, 1) := by decide +kernel
theorem dX12_findPlan_71 : decode cX12_findPlan 71 = .ok (.istore 4, 2) := by decide +kernel
theorem dX12_findPlan_73 : decode cX12_findPlan 73 = .ok (.iload 4, 2) := by decide +kernel
theorem dX12_findPlan_75 : decode cX12_findPlan 75 = .ok (.istore 5, 2) := by decide +kernel
theorem dX12_findPlan_77 : decode cX12_findPlan 77 = .ok (.iload 5, 2) := by decide +kernel
theorem dX12_findPlan_79 : decode cX12_findPlan 79 = .ok (.ifCond .le 58, 3) := by decide +kernel
theorem dX12_findPlan_82 : decode cX12_findPlan 82 = .ok (.aload_n 0, 1) := by decide +kernel
theorem dX12_findPlan_83 : decode cX12_findPlan 83 = .ok (.getfield 51, 3) := by decide +kernel
theorem dX12_findPlan_86 : decode cX12_findPlan 86 = .ok (.iload_n 2, 1) := by decide +kernel
theorem dX12_findPlan_87 : decode cX12_findPlan 87 = .ok (.iload 5, 2) := by decide +kernel
theorem dX12_findPlan_89 : decode cX12_findPlan 89 = .ok (.ior, 1) := by decide +kernel
theorem dX12_findPlan_90 : decode cX12_findPlan 90 = .ok (.iaload, 1) := by decide +kernel
theorem dX12_findPlan_91 : decode cX12_findPlan 91 = .ok (.istore 6, 2) := by decide +kernel
theorem dX12_findPlan_93 : decode cX12_findPlan 93 = .ok (.iload 6, 2) := by decide +kernel
theorem dX12_findPlan_95 : decode cX12_findPlan 95 = .ok (.ifCond .lt 30, 3) := by decide +kernel
theorem dX12_findPlan_98 : decode cX12_findPlan 98 = .ok (.iload_n 3, 1) := by decide +kernel
theorem dX12_findPlan_99 : decode cX12_findPlan 99 = .ok (.ifCond .lt 11, 3) := by decide +kernel
theorem dX12_findPlan_102 : decode cX12_findPlan 102 = .ok (.iload 6, 2) := by decide +kernel
theorem dX12_findPlan_104 : decode cX12_findPlan 104 = .ok (.iconst 1, 1) := by decide +kernel
theorem dX12_findPlan_105 : decode cX12_findPlan 105 = .ok (.iadd, 1) := by decide +kernel
theorem dX12_findPlan_106 : decode cX12_findPlan 106 = .ok (.iload_n 3, 1) := by decide +kernel
theorem dX12_findPlan_107 : decode cX12_findPlan 107 = .ok (.if_icmp .ge 18, 3) := by decide +kernel
theorem dX12_findPlan_110 : decode cX12_findPlan 110 = .ok (.aload_n 0, 1) := by decide +kernel
theorem dX12_findPlan_111 : decode cX12_findPlan 111 = .ok (.iload 5, 2) := by decide +kernel
theorem dX12_findPlan_113 : decode cX12_findPlan 113 = .ok (.iload_n 2, 1) := by decide +kernel
theorem dX12_findPlan_114 : decode cX12_findPlan 114 = .ok (.invokevirtual 167, 3) := by decide +kernel
theorem dX12_findPlan_117 : decode cX12_findPlan 117 = .ok (.ifCond .eq 8, 3) := by decide +kernel
theorem dX12_findPlan_120 : decode cX12_findPlan 120 = .ok (.iload 6, 2) := by decide +kernel
theorem dX12_findPlan_122 : decode cX12_findPlan 122 = .ok (.iconst 1, 1) := by decide +kernel
theorem dX12_findPlan_123 : decode cX12_findPlan 123 = .ok (.iadd, 1) := by decide +kernel
theorem dX12_findPlan_124 : decode cX12_findPlan 124 = .ok (.istore_n 3, 1) := by decide +kernel
theorem dX12_findPlan_125 : decode cX12_findPlan 125 = .ok (.iload 5, 2) := by decide +kernel
theorem dX12_findPlan_127 : decode cX12_findPlan 127 = .ok (.iconst 1, 1) := by decide +kernel
theorem dX12_findPlan_128 : decode cX12_findPlan 128 = .ok (.isub, 1) := by decide +kernel
theorem dX12_findPlan_129 : decode cX12_findPlan 129 = .ok (.iload 4, 2) := by decide +kernel
theorem dX12_findPlan_131 : decode cX12_findPlan 131 = .ok (.iand, 1) := by decide +kernel
theorem dX12_findPlan_132 : decode cX12_findPlan 132 = .ok (.istore 5, 2) := by decide +kernel
theorem dX12_findPlan_134 : decode cX12_findPlan 134 = .ok (.goto (-57), 3) := by decide +kernel
theorem dX12_findPlan_137 : decode cX12_findPlan 137 = .ok (.aload_n 0, 1) := by decide +kernel
theorem dX12_findPlan_138 : decode cX12_findPlan 138 = .ok (.getfield 51, 3) := by decide +kernel
theorem dX12_findPlan_141 : decode cX12_findPlan 141 = .ok (.iload_n 2, 1) := by decide +kernel
theorem dX12_findPlan_142 : decode cX12_findPlan 142 = .ok (.iload_n 3, 1) := by decide +kernel
theorem dX12_findPlan_143 : decode cX12_findPlan 143 = .ok (.iastore, 1) := by decide +kernel
theorem dX12_findPlan_144 : decode cX12_findPlan 144 = .ok (.iinc 2 (-1), 3) := by decide +kernel
theorem dX12_findPlan_147 : decode cX12_findPlan 147 = .ok (.goto (-87), 3) := by decide +kernel
theorem dX12_findPlan_150 : decode cX12_findPlan 150 = .ok (.aload_n 0, 1) := by decide +kernel
theorem dX12_findPlan_151 : decode cX12_findPlan 151 = .ok (.aload_n 0, 1) := by decide +kernel
theorem dX12_findPlan_152 : decode cX12_findPlan 152 = .ok (.getfield 51, 3) := by decide +kernel
theorem dX12_findPlan_155 : decode cX12_findPlan 155 = .ok (.iconst 0, 1) := by decide +kernel
theorem dX12_findPlan_156 : decode cX12_findPlan 156 = .ok (.iaload, 1) := by decide +kernel
theorem dX12_findPlan_157 : decode cX12_findPlan 157 = .ok (.putfield 170, 3) := by decide +kernel
theorem dX12_findPlan_160 : decode cX12_findPlan 160 = .ok (.iconst 0, 1) := by decide +kernel
theorem dX12_findPlan_161 : decode cX12_findPlan 161 = .ok (.istore_n 2, 1) := by decide +kernel
theorem dX12_findPlan_162 : decode cX12_findPlan 162 = .ok (.iconst 0, 1) := by decide +kernel
theorem dX12_findPlan_163 : decode cX12_findPlan 163 = .ok (.istore_n 3, 1) := by decide +kernel
theorem dX12_findPlan_164 : decode cX12_findPlan 164 = .ok (.iload_n 3, 1) := by decide +kernel
theorem dX12_findPlan_165 : decode cX12_findPlan 165 = .ok (.aload_n 0, 1) := by decide +kernel
theorem dX12_findPlan_166 : decode cX12_findPlan 166 = .ok (.getfield 170, 3) := by decide +kernel
theorem dX12_findPlan_169 : decode cX12_findPlan 169 = .ok (.if_icmp .ge 75, 3) := by decide +kernel
theorem dX12_findPlan_172 : decode cX12_findPlan 172 = .ok (.iload_n 1, 1) := by decide +kernel
theorem dX12_findPlan_173 : decode cX12_findPlan 173 = .ok (.iload_n 2, 1) := by decide +kernel
theorem dX12_findPlan_174 : decode cX12_findPlan 174 = .ok (.iconst (-1), 1) := by decide +kernel
theorem dX12_findPlan_175 : decode cX12_findPlan 175 = .ok (.ixor, 1) := by decide +kernel
theorem dX12_findPlan_176 : decode cX12_findPlan 176 = .ok (.iand, 1) := by decide +kernel
theorem dX12_findPlan_177 : decode cX12_findPlan 177 = .ok (.istore 4, 2) := by decide +kernel
theorem dX12_findPlan_179 : decode cX12_findPlan 179 = .ok (.iload 4, 2) := by decide +kernel
theorem dX12_findPlan_181 : decode cX12_findPlan 181 = .ok (.istore 5, 2) := by decide +kernel
theorem dX12_findPlan_183 : decode cX12_findPlan 183 = .ok (.aload_n 0, 1) := by decide +kernel
theorem dX12_findPlan_184 : decode cX12_findPlan 184 = .ok (.getfield 51, 3) := by decide +kernel
theorem dX12_findPlan_187 : decode cX12_findPlan 187 = .ok (.iload_n 2, 1) := by decide +kernel
theorem dX12_findPlan_188 : decode cX12_findPlan 188 = .ok (.iload 5, 2) := by decide +kernel
theorem dX12_findPlan_190 : decode cX12_findPlan 190 = .ok (.ior, 1) := by decide +kernel
theorem dX12_findPlan_191 : decode cX12_findPlan 191 = .ok (.iaload, 1) := by decide +kernel
theorem dX12_findPlan_192 : decode cX12_findPlan 192 = .ok (.aload_n 0, 1) := by decide +kernel
theorem dX12_findPlan_193 : decode cX12_findPlan 193 = .ok (.getfield 51, 3) := by decide +kernel
theorem dX12_findPlan_196 : decode cX12_findPlan 196 = .ok (.iload_n 2, 1) := by decide +kernel
theorem dX12_findPlan_197 : decode cX12_findPlan 197 = .ok (.iaload, 1) := by decide +kernel
theorem dX12_findPlan_198 : decode cX12_findPlan 198 = .ok (.iconst 1, 1) := by decide +kernel
theorem dX12_findPlan_199 : decode cX12_findPlan 199 = .ok (.isub, 1) := by decide +kernel
theorem dX12_findPlan_200 : decode cX12_findPlan 200 = .ok (.if_icmp .ne 13, 3) := by decide +kernel
theorem dX12_findPlan_203 : decode cX12_findPlan 203 = .ok (.aload_n 0, 1) := by decide +kernel
theorem dX12_findPlan_204 : decode cX12_findPlan 204 = .ok (.iload 5, 2) := by decide +kernel
theorem dX12_findPlan_206 : decode cX12_findPlan 206 = .ok (.iload_n 2, 1) := by decide +kernel
theorem dX12_findPlan_207 : decode cX12_findPlan 207 = .ok (.invokevirtual 167, 3) := by decide +kernel
theorem dX12_findPlan_210 : decode cX12_findPlan 210 = .ok (.ifCond .ne 15, 3) := by decide +kernel
theorem dX12_findPlan_213 : decode cX12_findPlan 213 = .ok (.iload 5, 2) := by decide +kernel
theorem dX12_findPlan_215 : decode cX12_findPlan 215 = .ok (.iconst 1, 1) := by decide +kernel
theorem dX12_findPlan_216 : decode cX12_findPlan 216 = .ok (.isub, 1) := by decide +kernel
theorem dX12_findPlan_217 : decode cX12_findPlan 217 = .ok (.iload 4, 2) := by decide +kernel
theorem dX12_findPlan_219 : decode cX12_findPlan 219 = .ok (.iand, 1) := by decide +kernel
theorem dX12_findPlan_220 : decode cX12_findPlan 220 = .ok (.istore 5, 2) := by decide +kernel
theorem dX12_findPlan_222 : decode cX12_findPlan 222 = .ok (.goto (-39), 3) := by decide +kernel
theorem dX12_findPlan_225 : decode cX12_findPlan 225 = .ok (.aload_n 0, 1) := by decide +kernel
theorem dX12_findPlan_226 : decode cX12_findPlan 226 = .ok (.getfield 54, 3) := by decide +kernel
theorem dX12_findPlan_229 : decode cX12_findPlan 229 = .ok (.iload_n 3, 1) := by decide +kernel
theorem dX12_findPlan_230 : decode cX12_findPlan 230 = .ok (.iload 5, 2) := by decide +kernel
theorem dX12_findPlan_232 : decode cX12_findPlan 232 = .ok (.iastore, 1) := by decide +kernel
theorem dX12_findPlan_233 : decode cX12_findPlan 233 = .ok (.iload_n 2, 1) := by decide +kernel
theorem dX12_findPlan_234 : decode cX12_findPlan 234 = .ok (.iload 5, 2) := by decide +kernel
theorem dX12_findPlan_236 : decode cX12_findPlan 236 = .ok (.ior, 1) := by decide +kernel
theorem dX12_findPlan_237 : decode cX12_findPlan 237 = .ok (.istore_n 2, 1) := by decide +kernel
theorem dX12_findPlan_238 : decode cX12_findPlan 238 = .ok (.iinc 3 1, 3) := by decide +kernel
theorem dX12_findPlan_241 : decode cX12_findPlan 241 = .ok (.goto (-77), 3) := by decide +kernel
theorem dX12_findPlan_244 : decode cX12_findPlan 244 = .ok (.return_, 1) := by decide +kernel
set_option maxRecDepth 20000 in
theorem ggX12_days_X12_findPlan : GoodIn wsX12_days wsX12_findPlan := goodIn_r _ [6, 7, 8, 9, 10, 1, 11, 12, 13, 14, 5, 15, 16, 17, 18, 19, 20, 21, 22, 23, 24, 25, 26, 27, 28, 29, 30, 31, 32, 33, 34, 35, 36, 37, 38, 39, 40, 41, 42, 43, 44, 45, 46, 47, 48, 49, 50, 51, 52, 53, 54, 55, 56, 57, 58, 59, 60] (by decide +kernel) (by decide +kernel)
set_option maxRecDepth 20000 in
theorem gX12_days_X12_findPlan : GoodIn wsX12_days (wsV RX12 173 RX12 yX12_findPlan wsX12_findPlan) := goodIn_app (goodIn_of _ (by decide +kernel)) ggX12_days_X12_findPlan
theorem dX12_days_0 : decode cX12_days 0 = .ok (.aload_n 0, 1) := by decide +kernel
theorem dX12_days_1 : decode cX12_days 1 = .ok (.invokevirtual 173, 3) := by decide +kernel
theorem dX12_days_4 : decode cX12_days 4 = .ok (.aload_n 0, 1) := by decide +kernel
theorem dX12_days_5 : decode cX12_days 5 = .ok (.getfield 170, 3) := by decide +kernel
theorem dX12_days_8 : decode cX12_days 8 = .ok (.ifCond .ge 8, 3) := by decide +kernel
theorem dX12_days_11 : decode cX12_days 11 = .ok (.bipush (-4), 2) := by decide +kernel
theorem dX12_days_13 : decode cX12_days 13 = .ok (.goto 7, 3) := by decide +kernel
theorem dX12_days_16 : decode cX12_days 16 = .ok (.aload_n 0, 1) := by decide +kernel
theorem dX12_days_17 : decode cX12_days 17 = .ok (.getfield 170, 3) := by decide +kernel
theorem dX12_days_20 : decode cX12_days 20 = .ok (.ireturn, 1) := by decide +kernel
set_option maxRecDepth 20000 in
theorem ggX12_day_X12_findPlan : GoodIn wsX12_day wsX12_findPlan := goodIn_r _ [7, 8, 9, 10, 11, 1, 2, 12, 13, 14, 6, 15, 16, 17, 18, 19, 20, 21, 22, 23, 24, 25, 26, 27, 28, 29, 30, 31, 32, 33, 34, 35, 36, 37, 38, 39, 40, 41, 42, 43, 44, 45, 46, 47, 48, 49, 50, 51, 52, 53, 54, 55, 56, 57, 58, 59, 60] (by decide +kernel) (by decide +kernel)
set_option maxRecDepth 20000 in
theorem gX12_day_X12_findPlan : GoodIn wsX12_day (wsV RX12 173 RX12 yX12_findPlan wsX12_findPlan) := goodIn_app (goodIn_of _ (by decide +kernel)) ggX12_day_X12_findPlan
theorem dX12_day_0 : decode cX12_day 0 = .ok (.iload_n 1, 1) := by decide +kernel
theorem dX12_day_1 : decode cX12_day 1 = .ok (.ifCond .ge 5, 3) := by decide +kernel
theorem dX12_day_4 : decode cX12_day 4 = .ok (.iconst (-1), 1) := by decide +kernel
theorem dX12_day_5 : decode cX12_day 5 = .ok (.ireturn, 1) := by decide +kernel
theorem dX12_day_6 : decode cX12_day 6 = .ok (.aload_n 0, 1) := by decide +kernel
theorem dX12_day_7 : decode cX12_day 7 = .ok (.invokevirtual 173, 3) := by decide +kernel
theorem dX12_day_10 : decode cX12_day 10 = .ok (.aload_n 0, 1) := by decide +kernel
theorem dX12_day_11 : decode cX12_day 11 = .ok (.getfield 170, 3) := by decide +kernel
theorem dX12_day_14 : decode cX12_day 14 = .ok (.ifCond .ge 8, 3) := by decide +kernel
theorem dX12_day_17 : decode cX12_day 17 = .ok (.bipush (-4), 2) := by decide +kernel
theorem dX12_day_19 : decode cX12_day 19 = .ok (.goto 21, 3) := by decide +kernel
theorem dX12_day_22 : decode cX12_day 22 = .ok (.iload_n 1, 1) := by decide +kernel
theorem dX12_day_23 : decode cX12_day 23 = .ok (.aload_n 0, 1) := by decide +kernel
theorem dX12_day_24 : decode cX12_day 24 = .ok (.getfield 170, 3) := by decide +kernel
theorem dX12_day_27 : decode cX12_day 27 = .ok (.if_icmp .ge 12, 3) := by decide +kernel
theorem dX12_day_30 : decode cX12_day 30 = .ok (.aload_n 0, 1) := by decide +kernel
theorem dX12_day_31 : decode cX12_day 31 = .ok (.getfield 54, 3) := by decide +kernel
theorem dX12_day_34 : decode cX12_day 34 = .ok (.iload_n 1, 1) := by decide +kernel
theorem dX12_day_35 : decode cX12_day 35 = .ok (.iaload, 1) := by decide +kernel
theorem dX12_day_36 : decode cX12_day 36 = .ok (.goto 4, 3) := by decide +kernel
theorem dX12_day_39 : decode cX12_day 39 = .ok (.iconst (-1), 1) := by decide +kernel
theorem dX12_day_40 : decode cX12_day 40 = .ok (.ireturn, 1) := by decide +kernel
set_option maxRecDepth 20000 in
theorem ggX12_poured_X12_findPlan : GoodIn wsX12_poured wsX12_findPlan := goodIn_r _ [8, 9, 10, 11, 12, 1, 2, 13, 14, 15, 7, 16, 17, 18, 19, 20, 21, 22, 23, 24, 25, 26, 27, 28, 3, 29, 30, 31, 32, 33, 37, 38, 39, 40, 41, 42, 43, 44, 45, 46, 47, 48, 49, 50, 51, 52, 53, 54, 55, 56, 57, 58, 59, 60, 61, 62, 63] (by decide +kernel) (by decide +kernel)
set_option maxRecDepth 20000 in
theorem gX12_poured_X12_findPlan : GoodIn wsX12_poured (wsV RX12 173 RX12 yX12_findPlan wsX12_findPlan) := goodIn_app (goodIn_of _ (by decide +kernel)) ggX12_poured_X12_findPlan
set_option maxRecDepth 20000 in
theorem ggX12_poured_X12_ones : GoodIn wsX12_poured wsX12_ones := goodIn_r _ [36] (by decide +kernel) (by decide +kernel)
set_option maxRecDepth 20000 in
theorem gX12_poured_X12_ones : GoodIn wsX12_poured (va_wsS RX12 143 yX12_ones wsX12_ones) := goodIn_app (goodIn_of _ (by decide +kernel)) ggX12_poured_X12_ones
set_option maxRecDepth 20000 in
theorem ggX12_poured_X12_canBeDay : GoodIn wsX12_poured wsX12_canBeDay := goodIn_r _ [26, 10, 27, 28, 3, 29, 30, 31, 7, 32, 33, 11, 37, 38, 39, 40, 41, 42, 43, 44, 45, 46, 47, 48, 49, 50, 51, 52, 53, 54, 55, 56, 57, 58, 59, 60, 61, 62, 63] (by decide +kernel) (by decide +kernel)
set_option maxRecDepth 20000 in
theorem gX12_poured_X12_canBeDay : GoodIn wsX12_poured (wsV RX12 167 RX12 yX12_canBeDay wsX12_canBeDay) := goodIn_app (goodIn_of _ (by decide +kernel)) ggX12_poured_X12_canBeDay
theorem dX12_poured_0 : decode cX12_poured 0 = .ok (.iload_n 1, 1) := by decide +kernel
theorem dX12_poured_1 : decode cX12_poured 1 = .ok (.ifCond .ge 5, 3) := by decide +kernel
theorem dX12_poured_4 : decode cX12_poured 4 = .ok (.iconst (-1), 1) := by decide +kernel
theorem dX12_poured_5 : decode cX12_poured 5 = .ok (.ireturn, 1) := by decide +kernel
theorem dX12_poured_6 : decode cX12_poured 6 = .ok (.aload_n 0, 1) := by decide +kernel
theorem dX12_poured_7 : decode cX12_poured 7 = .ok (.invokevirtual 173, 3) := by decide +kernel
theorem dX12_poured_10 : decode cX12_poured 10 = .ok (.aload_n 0, 1) := by decide +kernel
theorem dX12_poured_11 : decode cX12_poured 11 = .ok (.getfield 170, 3) := by decide +kernel
theorem dX12_poured_14 : decode cX12_poured 14 = .ok (.ifCond .ge 6, 3) := by decide +kernel
theorem dX12_poured_17 : decode cX12_poured 17 = .ok (.bipush (-4), 2) := by decide +kernel
theorem dX12_poured_19 : decode cX12_poured 19 = .ok (.ireturn, 1) := by decide +kernel
theorem dX12_poured_20 : decode cX12_poured 20 = .ok (.iconst 0, 1) := by decide +kernel
theorem dX12_poured_21 : decode cX12_poured 21 = .ok (.istore_n 2, 1) := by decide +kernel
theorem dX12_poured_22 : decode cX12_poured 22 = .ok (.iconst 0, 1) := by decide +kernel
theorem dX12_poured_23 : decode cX12_poured 23 = .ok (.istore_n 3, 1) := by decide +kernel
theorem dX12_poured_24 : decode cX12_poured 24 = .ok (.iconst 0, 1) := by decide +kernel
theorem dX12_poured_25 : decode cX12_poured 25 = .ok (.istore 4, 2) := by decide +kernel
theorem dX12_poured_27 : decode cX12_poured 27 = .ok (.iload 4, 2) := by decide +kernel
theorem dX12_poured_29 : decode cX12_poured 29 = .ok (.aload_n 0, 1) := by decide +kernel
theorem dX12_poured_30 : decode cX12_poured 30 = .ok (.getfield 170, 3) := by decide +kernel
theorem dX12_poured_33 : decode cX12_poured 33 = .ok (.if_icmp .ge 68, 3) := by decide +kernel
theorem dX12_poured_36 : decode cX12_poured 36 = .ok (.aload_n 0, 1) := by decide +kernel
theorem dX12_poured_37 : decode cX12_poured 37 = .ok (.getfield 54, 3) := by decide +kernel
theorem dX12_poured_40 : decode cX12_poured 40 = .ok (.iload 4, 2) := by decide +kernel
theorem dX12_poured_42 : decode cX12_poured 42 = .ok (.iaload, 1) := by decide +kernel
theorem dX12_poured_43 : decode cX12_poured 43 = .ok (.invokestatic 143, 3) := by decide +kernel
theorem dX12_poured_46 : decode cX12_poured 46 = .ok (.istore 5, 2) := by decide +kernel
theorem dX12_poured_48 : decode cX12_poured 48 = .ok (.aload_n 0, 1) := by decide +kernel
theorem dX12_poured_49 : decode cX12_poured 49 = .ok (.aload_n 0, 1) := by decide +kernel
theorem dX12_poured_50 : decode cX12_poured 50 = .ok (.getfield 54, 3) := by decide +kernel
theorem dX12_poured_53 : decode cX12_poured 53 = .ok (.iload 4, 2) := by decide +kernel
theorem dX12_poured_55 : decode cX12_poured 55 = .ok (.iaload, 1) := by decide +kernel
theorem dX12_poured_56 : decode cX12_poured 56 = .ok (.iload_n 2, 1) := by decide +kernel
theorem dX12_poured_57 : decode cX12_poured 57 = .ok (.invokevirtual 167, 3) := by decide +kernel
theorem dX12_poured_60 : decode cX12_poured 60 = .ok (.ifCond .eq 20, 3) := by decide +kernel
theorem dX12_poured_63 : decode cX12_poured 63 = .ok (.iload_n 1, 1) := by decide +kernel
theorem dX12_poured_64 : decode cX12_poured 64 = .ok (.iload_n 3, 1) := by decide +kernel
theorem dX12_poured_65 : decode cX12_poured 65 = .ok (.iload 5, 2) := by decide +kernel
theorem dX12_poured_67 : decode cX12_poured 67 = .ok (.iadd, 1) := by decide +kernel
theorem dX12_poured_68 : decode cX12_poured 68 = .ok (.if_icmp .ge 12, 3) := by decide +kernel
theorem dX12_poured_71 : decode cX12_poured 71 = .ok (.aload_n 0, 1) := by decide +kernel
theorem dX12_poured_72 : decode cX12_poured 72 = .ok (.getfield 57, 3) := by decide +kernel
theorem dX12_poured_75 : decode cX12_poured 75 = .ok (.iload_n 1, 1) := by decide +kernel
theorem dX12_poured_76 : decode cX12_poured 76 = .ok (.iload_n 3, 1) := by decide +kernel
theorem dX12_poured_77 : decode cX12_poured 77 = .ok (.isub, 1) := by decide +kernel
theorem dX12_poured_78 : decode cX12_poured 78 = .ok (.iaload, 1) := by decide +kernel
theorem dX12_poured_79 : decode cX12_poured 79 = .ok (.ireturn, 1) := by decide +kernel
theorem dX12_poured_80 : decode cX12_poured 80 = .ok (.iload_n 3, 1) := by decide +kernel
theorem dX12_poured_81 : decode cX12_poured 81 = .ok (.iload 5, 2) := by decide +kernel
theorem dX12_poured_83 : decode cX12_poured 83 = .ok (.iadd, 1) := by decide +kernel
theorem dX12_poured_84 : decode cX12_poured 84 = .ok (.istore_n 3, 1) := by decide +kernel
theorem dX12_poured_85 : decode cX12_poured 85 = .ok (.iload_n 2, 1) := by decide +kernel
theorem dX12_poured_86 : decode cX12_poured 86 = .ok (.aload_n 0, 1) := by decide +kernel
theorem dX12_poured_87 : decode cX12_poured 87 = .ok (.getfield 54, 3) := by decide +kernel
theorem dX12_poured_90 : decode cX12_poured 90 = .ok (.iload 4, 2) := by decide +kernel
theorem dX12_poured_92 : decode cX12_poured 92 = .ok (.iaload, 1) := by decide +kernel
theorem dX12_poured_93 : decode cX12_poured 93 = .ok (.ior, 1) := by decide +kernel
theorem dX12_poured_94 : decode cX12_poured 94 = .ok (.istore_n 2, 1) := by decide +kernel
theorem dX12_poured_95 : decode cX12_poured 95 = .ok (.iinc 4 1, 3) := by decide +kernel
theorem dX12_poured_98 : decode cX12_poured 98 = .ok (.goto (-71), 3) := by decide +kernel
theorem dX12_poured_101 : decode cX12_poured 101 = .ok (.iconst (-1), 1) := by decide +kernel
theorem dX12_poured_102 : decode cX12_poured 102 = .ok (.ireturn, 1) := by decide +kernel
set_option maxRecDepth 20000 in
theorem ggX12_photo_X12_lookOf : GoodIn wsX12_photo wsX12_lookOf := goodIn_r _ [6, 7, 8, 9, 10, 11, 5, 12, 13, 14, 15, 16, 17, 18, 19, 20, 21, 22, 23, 24, 25, 26, 27, 28, 29, 30, 31, 32, 33, 34, 35, 36, 37, 38, 39, 40, 41, 42, 43, 44, 45] (by decide +kernel) (by decide +kernel)
set_option maxRecDepth 20000 in
theorem gX12_photo_X12_lookOf : GoodIn wsX12_photo (wsV RX12 156 RX12 yX12_lookOf wsX12_lookOf) := goodIn_app (goodIn_of _ (by decide +kernel)) ggX12_photo_X12_lookOf
theorem dX12_photo_0 : decode cX12_photo 0 = .ok (.iconst 0, 1) := by decide +kernel
theorem dX12_photo_1 : decode cX12_photo 1 = .ok (.istore_n 1, 1) := by decide +kernel
theorem dX12_photo_2 : decode cX12_photo 2 = .ok (.iconst 0, 1) := by decide +kernel
theorem dX12_photo_3 : decode cX12_photo 3 = .ok (.istore_n 2, 1) := by decide +kernel
theorem dX12_photo_4 : decode cX12_photo 4 = .ok (.iload_n 2, 1) := by decide +kernel
theorem dX12_photo_5 : decode cX12_photo 5 = .ok (.sipush 256, 3) := by decide +kernel
theorem dX12_photo_8 : decode cX12_photo 8 = .ok (.if_icmp .ge 37, 3) := by decide +kernel
theorem dX12_photo_11 : decode cX12_photo 11 = .ok (.aload_n 0, 1) := by decide +kernel
theorem dX12_photo_12 : decode cX12_photo 12 = .ok (.getfield 60, 3) := by decide +kernel
theorem dX12_photo_15 : decode cX12_photo 15 = .ok (.iload_n 2, 1) := by decide +kernel
theorem dX12_photo_16 : decode cX12_photo 16 = .ok (.aload_n 0, 1) := by decide +kernel
theorem dX12_photo_17 : decode cX12_photo 17 = .ok (.iload_n 2, 1) := by decide +kernel
