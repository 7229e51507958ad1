theorem dX4_stepOfPlace_49 : decode cX4_stepOfPlace 49 = .ok (.goto (-42), 3) := by decide +kernel
theorem dX4_stepOfPlace_52 : decode cX4_stepOfPlace 52 = .ok (.iconst 0, 1) := by decide +kernel
theorem dX4_stepOfPlace_53 : decode cX4_stepOfPlace 53 = .ok (.ireturn, 1) := by decide +kernel
set_option maxRecDepth 20000 in
theorem ggX4_cellsThatLook_X4_look : GoodIn wsX4_cellsThatLook wsX4_look := goodIn_r _ [5, 6, 7, 8, 9, 10, 11, 12, 13, 14, 15, 16, 17, 18, 19, 20, 21, 22, 23, 24, 25, 26, 27, 28, 29, 30, 31, 32, 33, 34, 35, 36, 37, 38, 39, 40, 41, 42, 43, 44, 45, 46, 47, 48, 49, 50, 51, 52, 53, 54, 55, 56] (by decide +kernel) (by decide +kernel)
set_option maxRecDepth 20000 in
theorem gX4_cellsThatLook_X4_look : GoodIn wsX4_cellsThatLook (wsV RX4 47 RX4 yX4_look wsX4_look) := goodIn_app (goodIn_of _ (by decide +kernel)) ggX4_cellsThatLook_X4_look
theorem dX4_cellsThatLook_0 : decode cX4_cellsThatLook 0 = .ok (.iconst 0, 1) := by decide +kernel
theorem dX4_cellsThatLook_1 : decode cX4_cellsThatLook 1 = .ok (.istore_n 2, 1) := by decide +kernel
theorem dX4_cellsThatLook_2 : decode cX4_cellsThatLook 2 = .ok (.iconst 0, 1) := by decide +kernel
theorem dX4_cellsThatLook_3 : decode cX4_cellsThatLook 3 = .ok (.istore_n 3, 1) := by decide +kernel
theorem dX4_cellsThatLook_4 : decode cX4_cellsThatLook 4 = .ok (.iload_n 3, 1) := by decide +kernel
theorem dX4_cellsThatLook_5 : decode cX4_cellsThatLook 5 = .ok (.bipush 64, 2) := by decide +kernel
theorem dX4_cellsThatLook_7 : decode cX4_cellsThatLook 7 = .ok (.if_icmp .ge 38, 3) := by decide +kernel
theorem dX4_cellsThatLook_10 : decode cX4_cellsThatLook 10 = .ok (.iconst 0, 1) := by decide +kernel
theorem dX4_cellsThatLook_11 : decode cX4_cellsThatLook 11 = .ok (.istore 4, 2) := by decide +kernel
theorem dX4_cellsThatLook_13 : decode cX4_cellsThatLook 13 = .ok (.iload 4, 2) := by decide +kernel
theorem dX4_cellsThatLook_15 : decode cX4_cellsThatLook 15 = .ok (.iconst 4, 1) := by decide +kernel
theorem dX4_cellsThatLook_16 : decode cX4_cellsThatLook 16 = .ok (.if_icmp .ge 23, 3) := by decide +kernel
theorem dX4_cellsThatLook_19 : decode cX4_cellsThatLook 19 = .ok (.aload_n 0, 1) := by decide +kernel
theorem dX4_cellsThatLook_20 : decode cX4_cellsThatLook 20 = .ok (.iload_n 3, 1) := by decide +kernel
theorem dX4_cellsThatLook_21 : decode cX4_cellsThatLook 21 = .ok (.iload 4, 2) := by decide +kernel
theorem dX4_cellsThatLook_23 : decode cX4_cellsThatLook 23 = .ok (.invokevirtual 47, 3) := by decide +kernel
theorem dX4_cellsThatLook_26 : decode cX4_cellsThatLook 26 = .ok (.iload_n 1, 1) := by decide +kernel
theorem dX4_cellsThatLook_27 : decode cX4_cellsThatLook 27 = .ok (.if_icmp .ne 6, 3) := by decide +kernel
theorem dX4_cellsThatLook_30 : decode cX4_cellsThatLook 30 = .ok (.iinc 2 1, 3) := by decide +kernel
theorem dX4_cellsThatLook_33 : decode cX4_cellsThatLook 33 = .ok (.iinc 4 1, 3) := by decide +kernel
theorem dX4_cellsThatLook_36 : decode cX4_cellsThatLook 36 = .ok (.goto (-23), 3) := by decide +kernel
theorem dX4_cellsThatLook_39 : decode cX4_cellsThatLook 39 = .ok (.iinc 3 1, 3) := by decide +kernel
theorem dX4_cellsThatLook_42 : decode cX4_cellsThatLook 42 = .ok (.goto (-38), 3) := by decide +kernel
theorem dX4_cellsThatLook_45 : decode cX4_cellsThatLook 45 = .ok (.iload_n 2, 1) := by decide +kernel
theorem dX4_cellsThatLook_46 : decode cX4_cellsThatLook 46 = .ok (.ireturn, 1) := by decide +kernel
set_option maxRecDepth 20000 in
theorem ggX4_cellsUnlikeQuarterNought_X4_look : GoodIn wsX4_cellsUnlikeQuarterNought wsX4_look := goodIn_r _ [5, 6, 7, 8, 9, 10, 11, 12, 13, 14, 15, 16, 17, 18, 19, 20, 21, 22, 23, 24, 25, 26, 27, 28, 29, 30, 31, 32, 33, 34, 35, 36, 37, 38, 39, 40, 41, 42, 43, 44, 45, 46, 47, 48, 49, 50, 51, 52, 53, 54, 55, 56] (by decide +kernel) (by decide +kernel)
set_option maxRecDepth 20000 in
theorem gX4_cellsUnlikeQuarterNought_X4_look : GoodIn wsX4_cellsUnlikeQuarterNought (wsV RX4 47 RX4 yX4_look wsX4_look) := goodIn_app (goodIn_of _ (by decide +kernel)) ggX4_cellsUnlikeQuarterNought_X4_look
theorem dX4_cellsUnlikeQuarterNought_0 : decode cX4_cellsUnlikeQuarterNought 0 = .ok (.iconst 0, 1) := by decide +kernel
theorem dX4_cellsUnlikeQuarterNought_1 : decode cX4_cellsUnlikeQuarterNought 1 = .ok (.istore_n 1, 1) := by decide +kernel
theorem dX4_cellsUnlikeQuarterNought_2 : decode cX4_cellsUnlikeQuarterNought 2 = .ok (.iconst 0, 1) := by decide +kernel
theorem dX4_cellsUnlikeQuarterNought_3 : decode cX4_cellsUnlikeQuarterNought 3 = .ok (.istore_n 2, 1) := by decide +kernel
theorem dX4_cellsUnlikeQuarterNought_4 : decode cX4_cellsUnlikeQuarterNought 4 = .ok (.iload_n 2, 1) := by decide +kernel
theorem dX4_cellsUnlikeQuarterNought_5 : decode cX4_cellsUnlikeQuarterNought 5 = .ok (.bipush 64, 2) := by decide +kernel
theorem dX4_cellsUnlikeQuarterNought_7 : decode cX4_cellsUnlikeQuarterNought 7 = .ok (.if_icmp .ge 45, 3) := by decide +kernel
theorem dX4_cellsUnlikeQuarterNought_10 : decode cX4_cellsUnlikeQuarterNought 10 = .ok (.aload_n 0, 1) := by decide +kernel
theorem dX4_cellsUnlikeQuarterNought_11 : decode cX4_cellsUnlikeQuarterNought 11 = .ok (.iload_n 2, 1) := by decide +kernel
theorem dX4_cellsUnlikeQuarterNought_12 : decode cX4_cellsUnlikeQuarterNought 12 = .ok (.iconst 0, 1) := by decide +kernel
theorem dX4_cellsUnlikeQuarterNought_13 : decode cX4_cellsUnlikeQuarterNought 13 = .ok (.invokevirtual 47, 3) := by decide +kernel
theorem dX4_cellsUnlikeQuarterNought_16 : decode cX4_cellsUnlikeQuarterNought 16 = .ok (.istore_n 3, 1) := by decide +kernel
theorem dX4_cellsUnlikeQuarterNought_17 : decode cX4_cellsUnlikeQuarterNought 17 = .ok (.iconst 1, 1) := by decide +kernel
theorem dX4_cellsUnlikeQuarterNought_18 : decode cX4_cellsUnlikeQuarterNought 18 = .ok (.istore 4, 2) := by decide +kernel
theorem dX4_cellsUnlikeQuarterNought_20 : decode cX4_cellsUnlikeQuarterNought 20 = .ok (.iload 4, 2) := by decide +kernel
theorem dX4_cellsUnlikeQuarterNought_22 : decode cX4_cellsUnlikeQuarterNought 22 = .ok (.iconst 4, 1) := by decide +kernel
theorem dX4_cellsUnlikeQuarterNought_23 : decode cX4_cellsUnlikeQuarterNought 23 = .ok (.if_icmp .ge 23, 3) := by decide +kernel
theorem dX4_cellsUnlikeQuarterNought_26 : decode cX4_cellsUnlikeQuarterNought 26 = .ok (.aload_n 0, 1) := by decide +kernel
theorem dX4_cellsUnlikeQuarterNought_27 : decode cX4_cellsUnlikeQuarterNought 27 = .ok (.iload_n 2, 1) := by decide +kernel
theorem dX4_cellsUnlikeQuarterNought_28 : decode cX4_cellsUnlikeQuarterNought 28 = .ok (.iload 4, 2) := by decide +kernel
theorem dX4_cellsUnlikeQuarterNought_30 : decode cX4_cellsUnlikeQuarterNought 30 = .ok (.invokevirtual 47, 3) := by decide +kernel
theorem dX4_cellsUnlikeQuarterNought_33 : decode cX4_cellsUnlikeQuarterNought 33 = .ok (.iload_n 3, 1) := by decide +kernel
theorem dX4_cellsUnlikeQuarterNought_34 : decode cX4_cellsUnlikeQuarterNought 34 = .ok (.if_icmp .eq 6, 3) := by decide +kernel
theorem dX4_cellsUnlikeQuarterNought_37 : decode cX4_cellsUnlikeQuarterNought 37 = .ok (.iinc 1 1, 3) := by decide +kernel
theorem dX4_cellsUnlikeQuarterNought_40 : decode cX4_cellsUnlikeQuarterNought 40 = .ok (.iinc 4 1, 3) := by decide +kernel
theorem dX4_cellsUnlikeQuarterNought_43 : decode cX4_cellsUnlikeQuarterNought 43 = .ok (.goto (-23), 3) := by decide +kernel
theorem dX4_cellsUnlikeQuarterNought_46 : decode cX4_cellsUnlikeQuarterNought 46 = .ok (.iinc 2 1, 3) := by decide +kernel
theorem dX4_cellsUnlikeQuarterNought_49 : decode cX4_cellsUnlikeQuarterNought 49 = .ok (.goto (-45), 3) := by decide +kernel
theorem dX4_cellsUnlikeQuarterNought_52 : decode cX4_cellsUnlikeQuarterNought 52 = .ok (.iload_n 1, 1) := by decide +kernel
theorem dX4_cellsUnlikeQuarterNought_53 : decode cX4_cellsUnlikeQuarterNought 53 = .ok (.ireturn, 1) := by decide +kernel
theorem dX4_shapesAt_0 : decode cX4_shapesAt 0 = .ok (.iconst 0, 1) := by decide +kernel
theorem dX4_shapesAt_1 : decode cX4_shapesAt 1 = .ok (.istore_n 3, 1) := by decide +kernel
theorem dX4_shapesAt_2 : decode cX4_shapesAt 2 = .ok (.iconst 0, 1) := by decide +kernel
theorem dX4_shapesAt_3 : decode cX4_shapesAt 3 = .ok (.istore 4, 2) := by decide +kernel
theorem dX4_shapesAt_5 : decode cX4_shapesAt 5 = .ok (.iload 4, 2) := by decide +kernel
theorem dX4_shapesAt_7 : decode cX4_shapesAt 7 = .ok (.aload_n 0, 1) := by decide +kernel
theorem dX4_shapesAt_8 : decode cX4_shapesAt 8 = .ok (.getfield 21, 3) := by decide +kernel
theorem dX4_shapesAt_11 : decode cX4_shapesAt 11 = .ok (.if_icmp .ge 33, 3) := by decide +kernel
theorem dX4_shapesAt_14 : decode cX4_shapesAt 14 = .ok (.aload_n 0, 1) := by decide +kernel
theorem dX4_shapesAt_15 : decode cX4_shapesAt 15 = .ok (.getfield 11, 3) := by decide +kernel
theorem dX4_shapesAt_18 : decode cX4_shapesAt 18 = .ok (.iload 4, 2) := by decide +kernel
theorem dX4_shapesAt_20 : decode cX4_shapesAt 20 = .ok (.aaload, 1) := by decide +kernel
theorem dX4_shapesAt_21 : decode cX4_shapesAt 21 = .ok (.getfield 29, 3) := by decide +kernel
theorem dX4_shapesAt_24 : decode cX4_shapesAt 24 = .ok (.lload_n 1, 1) := by decide +kernel
theorem dX4_shapesAt_25 : decode cX4_shapesAt 25 = .ok (.land, 1) := by decide +kernel
theorem dX4_shapesAt_26 : decode cX4_shapesAt 26 = .ok (.lconst 0, 1) := by decide +kernel
theorem dX4_shapesAt_27 : decode cX4_shapesAt 27 = .ok (.lcmp, 1) := by decide +kernel
theorem dX4_shapesAt_28 : decode cX4_shapesAt 28 = .ok (.ifCond .eq 10, 3) := by decide +kernel
theorem dX4_shapesAt_31 : decode cX4_shapesAt 31 = .ok (.iload_n 3, 1) := by decide +kernel
theorem dX4_shapesAt_32 : decode cX4_shapesAt 32 = .ok (.iconst 1, 1) := by decide +kernel
theorem dX4_shapesAt_33 : decode cX4_shapesAt 33 = .ok (.iload 4, 2) := by decide +kernel
theorem dX4_shapesAt_35 : decode cX4_shapesAt 35 = .ok (.ishl, 1) := by decide +kernel
theorem dX4_shapesAt_36 : decode cX4_shapesAt 36 = .ok (.ior, 1) := by decide +kernel
theorem dX4_shapesAt_37 : decode cX4_shapesAt 37 = .ok (.istore_n 3, 1) := by decide +kernel
theorem dX4_shapesAt_38 : decode cX4_shapesAt 38 = .ok (.iinc 4 1, 3) := by decide +kernel
theorem dX4_shapesAt_41 : decode cX4_shapesAt 41 = .ok (.goto (-36), 3) := by decide +kernel
theorem dX4_shapesAt_44 : decode cX4_shapesAt 44 = .ok (.iload_n 3, 1) := by decide +kernel
theorem dX4_shapesAt_45 : decode cX4_shapesAt 45 = .ok (.ireturn, 1) := by decide +kernel
set_option maxRecDepth 20000 in
theorem ggX4_withAllAfter_X4_comesAfter : GoodIn wsX4_withAllAfter wsX4_comesAfter := goodIn_r _ [6, 7, 8, 9, 10, 11, 12, 13, 14, 15, 16, 17, 18, 19, 20, 21, 22, 23] (by decide +kernel) (by decide +kernel)
set_option maxRecDepth 20000 in
theorem gX4_withAllAfter_X4_comesAfter : GoodIn wsX4_withAllAfter (wsV RX4 51 RX4 yX4_comesAfter wsX4_comesAfter) := goodIn_app (goodIn_of _ (by decide +kernel)) ggX4_withAllAfter_X4_comesAfter
theorem dX4_withAllAfter_0 : decode cX4_withAllAfter 0 = .ok (.iload_n 1, 1) := by decide +kernel
theorem dX4_withAllAfter_1 : decode cX4_withAllAfter 1 = .ok (.istore_n 2, 1) := by decide +kernel
theorem dX4_withAllAfter_2 : decode cX4_withAllAfter 2 = .ok (.iconst 0, 1) := by decide +kernel
theorem dX4_withAllAfter_3 : decode cX4_withAllAfter 3 = .ok (.istore_n 3, 1) := by decide +kernel
theorem dX4_withAllAfter_4 : decode cX4_withAllAfter 4 = .ok (.iload_n 3, 1) := by decide +kernel
theorem dX4_withAllAfter_5 : decode cX4_withAllAfter 5 = .ok (.aload_n 0, 1) := by decide +kernel
theorem dX4_withAllAfter_6 : decode cX4_withAllAfter 6 = .ok (.getfield 21, 3) := by decide +kernel
theorem dX4_withAllAfter_9 : decode cX4_withAllAfter 9 = .ok (.if_icmp .ge 45, 3) := by decide +kernel
theorem dX4_withAllAfter_12 : decode cX4_withAllAfter 12 = .ok (.iconst 0, 1) := by decide +kernel
theorem dX4_withAllAfter_13 : decode cX4_withAllAfter 13 = .ok (.istore 4, 2) := by decide +kernel
theorem dX4_withAllAfter_15 : decode cX4_withAllAfter 15 = .ok (.iload 4, 2) := by decide +kernel
theorem dX4_withAllAfter_17 : decode cX4_withAllAfter 17 = .ok (.aload_n 0, 1) := by decide +kernel
theorem dX4_withAllAfter_18 : decode cX4_withAllAfter 18 = .ok (.getfield 21, 3) := by decide +kernel
theorem dX4_withAllAfter_21 : decode cX4_withAllAfter 21 = .ok (.if_icmp .ge 27, 3) := by decide +kernel
theorem dX4_withAllAfter_24 : decode cX4_withAllAfter 24 = .ok (.aload_n 0, 1) := by decide +kernel
theorem dX4_withAllAfter_25 : decode cX4_withAllAfter 25 = .ok (.iload 4, 2) := by decide +kernel
theorem dX4_withAllAfter_27 : decode cX4_withAllAfter 27 = .ok (.invokevirtual 51, 3) := by decide +kernel
theorem dX4_withAllAfter_30 : decode cX4_withAllAfter 30 = .ok (.iload_n 2, 1) := by decide +kernel
theorem dX4_withAllAfter_31 : decode cX4_withAllAfter 31 = .ok (.iand, 1) := by decide +kernel
theorem dX4_withAllAfter_32 : decode cX4_withAllAfter 32 = .ok (.ifCond .eq 10, 3) := by decide +kernel
theorem dX4_withAllAfter_35 : decode cX4_withAllAfter 35 = .ok (.iload_n 2, 1) := by decide +kernel
theorem dX4_withAllAfter_36 : decode cX4_withAllAfter 36 = .ok (.iconst 1, 1) := by decide +kernel
theorem dX4_withAllAfter_37 : decode cX4_withAllAfter 37 = .ok (.iload 4, 2) := by decide +kernel
theorem dX4_withAllAfter_39 : decode cX4_withAllAfter 39 = .ok (.ishl, 1) := by decide +kernel
theorem dX4_withAllAfter_40 : decode cX4_withAllAfter 40 = .ok (.ior, 1) := by decide +kernel
theorem dX4_withAllAfter_41 : decode cX4_withAllAfter 41 = .ok (.istore_n 2, 1) := by decide +kernel
theorem dX4_withAllAfter_42 : decode cX4_withAllAfter 42 = .ok (.iinc 4 1, 3) := by decide +kernel
theorem dX4_withAllAfter_45 : decode cX4_withAllAfter 45 = .ok (.goto (-30), 3) := by decide +kernel
theorem dX4_withAllAfter_48 : decode cX4_withAllAfter 48 = .ok (.iinc 3 1, 3) := by decide +kernel
theorem dX4_withAllAfter_51 : decode cX4_withAllAfter 51 = .ok (.goto (-47), 3) := by decide +kernel
theorem dX4_withAllAfter_54 : decode cX4_withAllAfter 54 = .ok (.iload_n 2, 1) := by decide +kernel
theorem dX4_withAllAfter_55 : decode cX4_withAllAfter 55 = .ok (.ireturn, 1) := by decide +kernel
set_option maxRecDepth 20000 in
theorem ggX5_init_X5_placesOf : GoodIn wsX5_init wsX5_placesOf := goodIn_r _ [4, 5, 6, 7, 8] (by decide +kernel) (by decide +kernel)
set_option maxRecDepth 20000 in
theorem gX5_init_X5_placesOf : GoodIn wsX5_init (va_wsS RX5 3 yX5_placesOf wsX5_placesOf) := goodIn_app (goodIn_of _ (by decide +kernel)) ggX5_init_X5_placesOf
set_option maxRecDepth 20000 in
theorem ggX5_init_X6_init : GoodIn wsX5_init wsX6_init := goodIn_r _ [12, 13, 14, 15, 16, 17, 18, 19, 20, 21, 22, 23, 24, 25, 26, 27, 28] (by decide +kernel) (by decide +kernel)
set_option maxRecDepth 20000 in
theorem gX5_init_X6_init : GoodIn wsX5_init (wsX6_init) := ggX5_init_X6_init
theorem dX5_init_0 : decode cX5_init 0 = .ok (.aload_n 0, 1) := by decide +kernel
theorem dX5_init_1 : decode cX5_init 1 = .ok (.iload_n 1, 1) := by decide +kernel
theorem dX5_init_2 : decode cX5_init 2 = .ok (.iload_n 2, 1) := by decide +kernel
theorem dX5_init_3 : decode cX5_init 3 = .ok (.invokestatic 3, 3) := by decide +kernel
theorem dX5_init_6 : decode cX5_init 6 = .ok (.invokespecial 9, 3) := by decide +kernel
theorem dX5_init_9 : decode cX5_init 9 = .ok (.return_, 1) := by decide +kernel
theorem dX5_kind_0 : decode cX5_kind 0 = .ok (.iconst 1, 1) := by decide +kernel
theorem dX5_kind_1 : decode cX5_kind 1 = .ok (.ireturn, 1) := by decide +kernel
theorem dX5_placesOf_0 : decode cX5_placesOf 0 = .ok (.lconst 0, 1) := by decide +kernel
theorem dX5_placesOf_1 : decode cX5_placesOf 1 = .ok (.lstore_n 1, 1) := by decide +kernel
theorem dX5_placesOf_2 : decode cX5_placesOf 2 = .ok (.iconst 0, 1) := by decide +kernel
theorem dX5_placesOf_3 : decode cX5_placesOf 3 = .ok (.istore_n 3, 1) := by decide +kernel
theorem dX5_placesOf_4 : decode cX5_placesOf 4 = .ok (.iload_n 3, 1) := by decide +kernel
theorem dX5_placesOf_5 : decode cX5_placesOf 5 = .ok (.bipush 64, 2) := by decide +kernel
theorem dX5_placesOf_7 : decode cX5_placesOf 7 = .ok (.if_icmp .ge 30, 3) := by decide +kernel
theorem dX5_placesOf_10 : decode cX5_placesOf 10 = .ok (.iload_n 3, 1) := by decide +kernel
theorem dX5_placesOf_11 : decode cX5_placesOf 11 = .ok (.bipush 8, 2) := by decide +kernel
theorem dX5_placesOf_13 : decode cX5_placesOf 13 = .ok (.irem, 1) := by decide +kernel
theorem dX5_placesOf_14 : decode cX5_placesOf 14 = .ok (.iload_n 3, 1) := by decide +kernel
theorem dX5_placesOf_15 : decode cX5_placesOf 15 = .ok (.bipush 8, 2) := by decide +kernel
theorem dX5_placesOf_17 : decode cX5_placesOf 17 = .ok (.idiv, 1) := by decide +kernel
theorem dX5_placesOf_18 : decode cX5_placesOf 18 = .ok (.invokestatic 15, 3) := by decide +kernel
theorem dX5_placesOf_21 : decode cX5_placesOf 21 = .ok (.iload_n 0, 1) := by decide +kernel
theorem dX5_placesOf_22 : decode cX5_placesOf 22 = .ok (.if_icmp .ne 9, 3) := by decide +kernel
theorem dX5_placesOf_25 : decode cX5_placesOf 25 = .ok (.lload_n 1, 1) := by decide +kernel
theorem dX5_placesOf_26 : decode cX5_placesOf 26 = .ok (.lconst 1, 1) := by decide +kernel
theorem dX5_placesOf_27 : decode cX5_placesOf 27 = .ok (.iload_n 3, 1) := by decide +kernel
theorem dX5_placesOf_28 : decode cX5_placesOf 28 = .ok (.lshl, 1) := by decide +kernel
theorem dX5_placesOf_29 : decode cX5_placesOf 29 = .ok (.lor, 1) := by decide +kernel
theorem dX5_placesOf_30 : decode cX5_placesOf 30 = .ok (.lstore_n 1, 1) := by decide +kernel
theorem dX5_placesOf_31 : decode cX5_placesOf 31 = .ok (.iinc 3 1, 3) := by decide +kernel
theorem dX5_placesOf_34 : decode cX5_placesOf 34 = .ok (.goto (-30), 3) := by decide +kernel
theorem dX5_placesOf_37 : decode cX5_placesOf 37 = .ok (.lload_n 1, 1) := by decide +kernel
theorem dX5_placesOf_38 : decode cX5_placesOf 38 = .ok (.lreturn, 1) := by decide +kernel
theorem dX6_init_0 : decode cX6_init 0 = .ok (.aload_n 0, 1) := by decide +kernel
theorem dX6_init_1 : decode cX6_init 1 = .ok (.invokespecial 3, 3) := by decide +kernel
theorem dX6_init_4 : decode cX6_init 4 = .ok (.aload_n 0, 1) := by decide +kernel
theorem dX6_init_5 : decode cX6_init 5 = .ok (.iload_n 1, 1) := by decide +kernel
theorem dX6_init_6 : decode cX6_init 6 = .ok (.putfield 9, 3) := by decide +kernel
theorem dX6_init_9 : decode cX6_init 9 = .ok (.aload_n 0, 1) := by decide +kernel
theorem dX6_init_10 : decode cX6_init 10 = .ok (.lload_n 2, 1) := by decide +kernel
theorem dX6_init_11 : decode cX6_init 11 = .ok (.putfield 15, 3) := by decide +kernel
theorem dX6_init_14 : decode cX6_init 14 = .ok (.return_, 1) := by decide +kernel
theorem dX6_colourIn_0 : decode cX6_colourIn 0 = .ok (.aload_n 0, 1) := by decide +kernel
theorem dX6_colourIn_1 : decode cX6_colourIn 1 = .ok (.getfield 9, 3) := by decide +kernel
theorem dX6_colourIn_4 : decode cX6_colourIn 4 = .ok (.ireturn, 1) := by decide +kernel
set_option maxRecDepth 20000 in
theorem ggX6_cells_J13_bitCount_95d88 : GoodIn wsX6_cells wsJ13_bitCount_95d88 := goodIn_r _ [5, 6, 7, 8] (by decide +kernel) (by decide +kernel)
set_option maxRecDepth 20000 in
theorem gX6_cells_J13_bitCount_95d88 : GoodIn wsX6_cells (va_wsS RX6 19 yJ13_bitCount_95d88 wsJ13_bitCount_95d88) := goodIn_app (goodIn_of _ (by decide +kernel)) ggX6_cells_J13_bitCount_95d88
theorem dX6_cells_0 : decode cX6_cells 0 = .ok (.iconst 4, 1) := by decide +kernel
theorem dX6_cells_1 : decode cX6_cells 1 = .ok (.aload_n 0, 1) := by decide +kernel
theorem dX6_cells_2 : decode cX6_cells 2 = .ok (.getfield 15, 3) := by decide +kernel
theorem dX6_cells_5 : decode cX6_cells 5 = .ok (.invokestatic 19, 3) := by decide +kernel
theorem dX6_cells_8 : decode cX6_cells 8 = .ok (.imul, 1) := by decide +kernel
theorem dX6_cells_9 : decode cX6_cells 9 = .ok (.ireturn, 1) := by decide +kernel
theorem dX6_isAt_0 : decode cX6_isAt 0 = .ok (.aload_n 0, 1) := by decide +kernel
theorem dX6_isAt_1 : decode cX6_isAt 1 = .ok (.getfield 15, 3) := by decide +kernel
theorem dX6_isAt_4 : decode cX6_isAt 4 = .ok (.iload_n 1, 1) := by decide +kernel
theorem dX6_isAt_5 : decode cX6_isAt 5 = .ok (.lushr, 1) := by decide +kernel
theorem dX6_isAt_6 : decode cX6_isAt 6 = .ok (.lconst 1, 1) := by decide +kernel
theorem dX6_isAt_7 : decode cX6_isAt 7 = .ok (.land, 1) := by decide +kernel
theorem dX6_isAt_8 : decode cX6_isAt 8 = .ok (.lconst 0, 1) := by decide +kernel
theorem dX6_isAt_9 : decode cX6_isAt 9 = .ok (.lcmp, 1) := by decide +kernel
theorem dX6_isAt_10 : decode cX6_isAt 10 = .ok (.ifCond .eq 7, 3) := by decide +kernel
theorem dX6_isAt_13 : decode cX6_isAt 13 = .ok (.iconst 1, 1) := by decide +kernel
theorem dX6_isAt_14 : decode cX6_isAt 14 = .ok (.goto 4, 3) := by decide +kernel
theorem dX6_isAt_17 : decode cX6_isAt 17 = .ok (.iconst 0, 1) := by decide +kernel
theorem dX6_isAt_18 : decode cX6_isAt 18 = .ok (.ireturn, 1) := by decide +kernel
set_option maxRecDepth 20000 in
theorem ggX6_reach_X6_isAt : GoodIn wsX6_reach wsX6_isAt := goodIn_r _ [10, 11, 16, 17, 18, 19, 20, 21, 22, 23, 24, 25, 26] (by decide +kernel) (by decide +kernel)
set_option maxRecDepth 20000 in
theorem gX6_reach_X6_isAt_u25X0 : GoodIn wsX6_reach (va_wsU RX6 25 RX0 "SandPalace$Shape" ⟨"SandPalace$Shape", "isAt", "(I)Z"⟩ yX6_isAt wsX6_isAt) := goodIn_app (goodIn_of _ (by decide +kernel)) ggX6_reach_X6_isAt
set_option maxRecDepth 20000 in
theorem gX6_reach_X6_isAt_u25X1 : GoodIn wsX6_reach (va_wsU RX6 25 RX1 "SandPalace$Shape" ⟨"SandPalace$Shape", "isAt", "(I)Z"⟩ yX6_isAt wsX6_isAt) := goodIn_app (goodIn_of _ (by decide +kernel)) ggX6_reach_X6_isAt
set_option maxRecDepth 20000 in
theorem gX6_reach_X6_isAt_u25X2 : GoodIn wsX6_reach (va_wsU RX6 25 RX2 "SandPalace$Shape" ⟨"SandPalace$Shape", "isAt", "(I)Z"⟩ yX6_isAt wsX6_isAt) := goodIn_app (goodIn_of _ (by decide +kernel)) ggX6_reach_X6_isAt
set_option maxRecDepth 20000 in
theorem gX6_reach_X6_isAt_u25X5 : GoodIn wsX6_reach (va_wsU RX6 25 RX5 "SandPalace$Shape" ⟨"SandPalace$Shape", "isAt", "(I)Z"⟩ yX6_isAt wsX6_isAt) := goodIn_app (goodIn_of _ (by decide +kernel)) ggX6_reach_X6_isAt
set_option maxRecDepth 20000 in
theorem gX6_reach_X6_isAt_u25X8 : GoodIn wsX6_reach (va_wsU RX6 25 RX8 "SandPalace$Shape" ⟨"SandPalace$Shape", "isAt", "(I)Z"⟩ yX6_isAt wsX6_isAt) := goodIn_app (goodIn_of _ (by decide +kernel)) ggX6_reach_X6_isAt
theorem dX6_reach_0 : decode cX6_reach 0 = .ok (.iconst 0, 1) := by decide +kernel
theorem dX6_reach_1 : decode cX6_reach 1 = .ok (.istore_n 1, 1) := by decide +kernel
theorem dX6_reach_2 : decode cX6_reach 2 = .ok (.iconst 0, 1) := by decide +kernel
theorem dX6_reach_3 : decode cX6_reach 3 = .ok (.istore_n 2, 1) := by decide +kernel
theorem dX6_reach_4 : decode cX6_reach 4 = .ok (.iload_n 2, 1) := by decide +kernel
theorem dX6_reach_5 : decode cX6_reach 5 = .ok (.bipush 64, 2) := by decide +kernel
theorem dX6_reach_7 : decode cX6_reach 7 = .ok (.if_icmp .ge 33, 3) := by decide +kernel
theorem dX6_reach_10 : decode cX6_reach 10 = .ok (.aload_n 0, 1) := by decide +kernel
theorem dX6_reach_11 : decode cX6_reach 11 = .ok (.iload_n 2, 1) := by decide +kernel
theorem dX6_reach_12 : decode cX6_reach 12 = .ok (.invokevirtual 25, 3) := by decide +kernel
theorem dX6_reach_15 : decode cX6_reach 15 = .ok (.ifCond .eq 19, 3) := by decide +kernel
theorem dX6_reach_18 : decode cX6_reach 18 = .ok (.iload_n 1, 1) := by decide +kernel
theorem dX6_reach_19 : decode cX6_reach 19 = .ok (.iload_n 2, 1) := by decide +kernel
theorem dX6_reach_20 : decode cX6_reach 20 = .ok (.bipush 8, 2) := by decide +kernel
theorem dX6_reach_22 : decode cX6_reach 22 = .ok (.irem, 1) := by decide +kernel
theorem dX6_reach_23 : decode cX6_reach 23 = .ok (.iload_n 2, 1) := by decide +kernel
theorem dX6_reach_24 : decode cX6_reach 24 = .ok (.bipush 8, 2) := by decide +kernel
theorem dX6_reach_26 : decode cX6_reach 26 = .ok (.idiv, 1) := by decide +kernel
theorem dX6_reach_27 : decode cX6_reach 27 = .ok (.invokestatic 29, 3) := by decide +kernel
theorem dX6_reach_30 : decode cX6_reach 30 = .ok (.invokestatic 29, 3) := by decide +kernel
theorem dX6_reach_33 : decode cX6_reach 33 = .ok (.istore_n 1, 1) := by decide +kernel
theorem dX6_reach_34 : decode cX6_reach 34 = .ok (.iinc 2 1, 3) := by decide +kernel
theorem dX6_reach_37 : decode cX6_reach 37 = .ok (.goto (-33), 3) := by decide +kernel
theorem dX6_reach_40 : decode cX6_reach 40 = .ok (.iload_n 1, 1) := by decide +kernel
theorem dX6_reach_41 : decode cX6_reach 41 = .ok (.ireturn, 1) := by decide +kernel
theorem dX7_init_0 : decode cX7_init 0 = .ok (.aload_n 0, 1) := by decide +kernel
theorem dX7_init_1 : decode cX7_init 1 = .ok (.invokespecial 3, 3) := by decide +kernel
theorem dX7_init_4 : decode cX7_init 4 = .ok (.aload_n 0, 1) := by decide +kernel
theorem dX7_init_5 : decode cX7_init 5 = .ok (.sipush 256, 3) := by decide +kernel
theorem dX7_init_8 : decode cX7_init 8 = .ok (.newarray .int, 2) := by decide +kernel
theorem dX7_init_10 : decode cX7_init 10 = .ok (.putfield 9, 3) := by decide +kernel
theorem dX7_init_13 : decode cX7_init 13 = .ok (.aload_n 0, 1) := by decide +kernel
theorem dX7_init_14 : decode cX7_init 14 = .ok (.iconst (-1), 1) := by decide +kernel
theorem dX7_init_15 : decode cX7_init 15 = .ok (.putfield 15, 3) := by decide +kernel
theorem dX7_init_18 : decode cX7_init 18 = .ok (.return_, 1) := by decide +kernel
theorem dX7_isMissing_0 : decode cX7_isMissing 0 = .ok (.aload_n 0, 1) := by decide +kernel
theorem dX7_isMissing_1 : decode cX7_isMissing 1 = .ok (.getfield 15, 3) := by decide +kernel
theorem dX7_isMissing_4 : decode cX7_isMissing 4 = .ok (.iconst (-1), 1) := by decide +kernel
theorem dX7_isMissing_5 : decode cX7_isMissing 5 = .ok (.if_icmp .ne 7, 3) := by decide +kernel
theorem dX7_isMissing_8 : decode cX7_isMissing 8 = .ok (.iconst 1, 1) := by decide +kernel
theorem dX7_isMissing_9 : decode cX7_isMissing 9 = .ok (.goto 4, 3) := by decide +kernel
theorem dX7_isMissing_12 : decode cX7_isMissing 12 = .ok (.iconst 0, 1) := by decide +kernel
theorem dX7_isMissing_13 : decode cX7_isMissing 13 = .ok (.ireturn, 1) := by decide +kernel
theorem dX7_begin_0 : decode cX7_begin 0 = .ok (.aload_n 0, 1) := by decide +kernel
theorem dX7_begin_1 : decode cX7_begin 1 = .ok (.iload_n 1, 1) := by decide +kernel
theorem dX7_begin_2 : decode cX7_begin 2 = .ok (.putfield 15, 3) := by decide +kernel
theorem dX7_begin_5 : decode cX7_begin 5 = .ok (.aload_n 0, 1) := by decide +kernel
theorem dX7_begin_6 : decode cX7_begin 6 = .ok (.iload_n 2, 1) := by decide +kernel
theorem dX7_begin_7 : decode cX7_begin 7 = .ok (.putfield 19, 3) := by decide +kernel
theorem dX7_begin_10 : decode cX7_begin 10 = .ok (.iconst 0, 1) := by decide +kernel
theorem dX7_begin_11 : decode cX7_begin 11 = .ok (.istore_n 3, 1) := by decide +kernel
theorem dX7_begin_12 : decode cX7_begin 12 = .ok (.iload_n 3, 1) := by decide +kernel
theorem dX7_begin_13 : decode cX7_begin 13 = .ok (.iload_n 2, 1) := by decide +kernel
theorem dX7_begin_14 : decode cX7_begin 14 = .ok (.if_icmp .ge 16, 3) := by decide +kernel
theorem dX7_begin_17 : decode cX7_begin 17 = .ok (.aload_n 0, 1) := by decide +kernel
theorem dX7_begin_18 : decode cX7_begin 18 = .ok (.getfield 9, 3) := by decide +kernel
theorem dX7_begin_21 : decode cX7_begin 21 = .ok (.iload_n 3, 1) := by decide +kernel
theorem dX7_begin_22 : decode cX7_begin 22 = .ok (.iconst 0, 1) := by decide +kernel
theorem dX7_begin_23 : decode cX7_begin 23 = .ok (.iastore, 1) := by decide +kernel
theorem dX7_begin_24 : decode cX7_begin 24 = .ok (.iinc 3 1, 3) := by decide +kernel
theorem dX7_begin_27 : decode cX7_begin 27 = .ok (.goto (-15), 3) := by decide +kernel
theorem dX7_begin_30 : decode cX7_begin 30 = .ok (.return_, 1) := by decide +kernel
theorem dX7_clearAway_0 : decode cX7_clearAway 0 = .ok (.aload_n 0, 1) := by decide +kernel
theorem dX7_clearAway_1 : decode cX7_clearAway 1 = .ok (.getfield 19, 3) := by decide +kernel
theorem dX7_clearAway_4 : decode cX7_clearAway 4 = .ok (.istore_n 1, 1) := by decide +kernel
theorem dX7_clearAway_5 : decode cX7_clearAway 5 = .ok (.aload_n 0, 1) := by decide +kernel
theorem dX7_clearAway_6 : decode cX7_clearAway 6 = .ok (.iconst (-1), 1) := by decide +kernel
theorem dX7_clearAway_7 : decode cX7_clearAway 7 = .ok (.putfield 15, 3) := by decide +kernel
theorem dX7_clearAway_10 : decode cX7_clearAway 10 = .ok (.aload_n 0, 1) := by decide +kernel
theorem dX7_clearAway_11 : decode cX7_clearAway 11 = .ok (.iconst 0, 1) := by decide +kernel
theorem dX7_clearAway_12 : decode cX7_clearAway 12 = .ok (.putfield 19, 3) := by decide +kernel
theorem dX7_clearAway_15 : decode cX7_clearAway 15 = .ok (.iload_n 1, 1) := by decide +kernel
theorem dX7_clearAway_16 : decode cX7_clearAway 16 = .ok (.ireturn, 1) := by decide +kernel
set_option maxRecDepth 20000 in
theorem ggX7_refusal_X7_isMissing : GoodIn wsX7_refusal wsX7_isMissing := goodIn_r _ [7, 1, 8, 9, 10] (by decide +kernel) (by decide +kernel)
set_option maxRecDepth 20000 in
theorem gX7_refusal_X7_isMissing : GoodIn wsX7_refusal (wsV RX7 22 RX7 yX7_isMissing wsX7_isMissing) := goodIn_app (goodIn_of _ (by decide +kernel)) ggX7_refusal_X7_isMissing
theorem dX7_refusal_0 : decode cX7_refusal 0 = .ok (.aload_n 0, 1) := by decide +kernel
theorem dX7_refusal_1 : decode cX7_refusal 1 = .ok (.invokevirtual 22, 3) := by decide +kernel
theorem dX7_refusal_4 : decode cX7_refusal 4 = .ok (.ifCond .eq 6, 3) := by decide +kernel
theorem dX7_refusal_7 : decode cX7_refusal 7 = .ok (.bipush (-11), 2) := by decide +kernel
theorem dX7_refusal_9 : decode cX7_refusal 9 = .ok (.ireturn, 1) := by decide +kernel
theorem dX7_refusal_10 : decode cX7_refusal 10 = .ok (.aload_n 0, 1) := by decide +kernel
theorem dX7_refusal_11 : decode cX7_refusal 11 = .ok (.getfield 15, 3) := by decide +kernel
theorem dX7_refusal_14 : decode cX7_refusal 14 = .ok (.iload_n 1, 1) := by decide +kernel
theorem dX7_refusal_15 : decode cX7_refusal 15 = .ok (.if_icmp .eq 6, 3) := by decide +kernel
theorem dX7_refusal_18 : decode cX7_refusal 18 = .ok (.bipush (-12), 2) := by decide +kernel
theorem dX7_refusal_20 : decode cX7_refusal 20 = .ok (.ireturn, 1) := by decide +kernel
theorem dX7_refusal_21 : decode cX7_refusal 21 = .ok (.iload_n 2, 1) := by decide +kernel
theorem dX7_refusal_22 : decode cX7_refusal 22 = .ok (.ifCond .lt 13, 3) := by decide +kernel
theorem dX7_refusal_25 : decode cX7_refusal 25 = .ok (.iload_n 2, 1) := by decide +kernel
theorem dX7_refusal_26 : decode cX7_refusal 26 = .ok (.aload_n 0, 1) := by decide +kernel
theorem dX7_refusal_27 : decode cX7_refusal 27 = .ok (.getfield 19, 3) := by decide +kernel
theorem dX7_refusal_30 : decode cX7_refusal 30 = .ok (.iload_n 3, 1) := by decide +kernel
theorem dX7_refusal_31 : decode cX7_refusal 31 = .ok (.isub, 1) := by decide +kernel
theorem dX7_refusal_32 : decode cX7_refusal 32 = .ok (.if_icmp .le 8, 3) := by decide +kernel
theorem dX7_refusal_35 : decode cX7_refusal 35 = .ok (.bipush (-13), 2) := by decide +kernel
theorem dX7_refusal_37 : decode cX7_refusal 37 = .ok (.goto 4, 3) := by decide +kernel
theorem dX7_refusal_40 : decode cX7_refusal 40 = .ok (.iconst 0, 1) := by decide +kernel
theorem dX7_refusal_41 : decode cX7_refusal 41 = .ok (.ireturn, 1) := by decide +kernel
theorem dX7_read_0 : decode cX7_read 0 = .ok (.aload_n 0, 1) := by decide +kernel
theorem dX7_read_1 : decode cX7_read 1 = .ok (.getfield 9, 3) := by decide +kernel
theorem dX7_read_4 : decode cX7_read 4 = .ok (.iload_n 1, 1) := by decide +kernel
theorem dX7_read_5 : decode cX7_read 5 = .ok (.iaload, 1) := by decide +kernel
theorem dX7_read_6 : decode cX7_read 6 = .ok (.ireturn, 1) := by decide +kernel
theorem dX7_write_0 : decode cX7_write 0 = .ok (.aload_n 0, 1) := by decide +kernel
theorem dX7_write_1 : decode cX7_write 1 = .ok (.getfield 15, 3) := by decide +kernel
theorem dX7_write_4 : decode cX7_write 4 = .ok (.ifCond .ne 14, 3) := by decide +kernel
theorem dX7_write_7 : decode cX7_write 7 = .ok (.aload_n 0, 1) := by decide +kernel
theorem dX7_write_8 : decode cX7_write 8 = .ok (.getfield 9, 3) := by decide +kernel
theorem dX7_write_11 : decode cX7_write 11 = .ok (.iload_n 1, 1) := by decide +kernel
theorem dX7_write_12 : decode cX7_write 12 = .ok (.iload_n 2, 1) := by decide +kernel
theorem dX7_write_13 : decode cX7_write 13 = .ok (.i2b, 1) := by decide +kernel
theorem dX7_write_14 : decode cX7_write 14 = .ok (.iastore, 1) := by decide +kernel
theorem dX7_write_15 : decode cX7_write 15 = .ok (.goto 29, 3) := by decide +kernel
theorem dX7_write_18 : decode cX7_write 18 = .ok (.aload_n 0, 1) := by decide +kernel
theorem dX7_write_19 : decode cX7_write 19 = .ok (.getfield 15, 3) := by decide +kernel
theorem dX7_write_22 : decode cX7_write 22 = .ok (.iconst 1, 1) := by decide +kernel
theorem dX7_write_23 : decode cX7_write 23 = .ok (.if_icmp .ne 14, 3) := by decide +kernel
theorem dX7_write_26 : decode cX7_write 26 = .ok (.aload_n 0, 1) := by decide +kernel
theorem dX7_write_27 : decode cX7_write 27 = .ok (.getfield 9, 3) := by decide +kernel
theorem dX7_write_30 : decode cX7_write 30 = .ok (.iload_n 1, 1) := by decide +kernel
theorem dX7_write_31 : decode cX7_write 31 = .ok (.iload_n 2, 1) := by decide +kernel
theorem dX7_write_32 : decode cX7_write 32 = .ok (.i2s, 1) := by decide +kernel
theorem dX7_write_33 : decode cX7_write 33 = .ok (.iastore, 1) := by decide +kernel
theorem dX7_write_34 : decode cX7_write 34 = .ok (.goto 10, 3) := by decide +kernel
theorem dX7_write_37 : decode cX7_write 37 = .ok (.aload_n 0, 1) := by decide +kernel
theorem dX7_write_38 : decode cX7_write 38 = .ok (.getfield 9, 3) := by decide +kernel
theorem dX7_write_41 : decode cX7_write 41 = .ok (.iload_n 1, 1) := by decide +kernel
theorem dX7_write_42 : decode cX7_write 42 = .ok (.iload_n 2, 1) := by decide +kernel
theorem dX7_write_43 : decode cX7_write 43 = .ok (.iastore, 1) := by decide +kernel
theorem dX7_write_44 : decode cX7_write 44 = .ok (.return_, 1) := by decide +kernel
set_option maxRecDepth 20000 in
theorem ggX8_init_X0_init : GoodIn wsX8_init wsX0_init := goodIn_r _ [5, 6, 7, 4, 8, 9, 10, 11, 12, 13, 14, 15, 16, 17, 18, 19, 20, 21, 22, 23, 24, 28, 29, 30, 31, 32, 33, 34, 35, 25, 26, 27] (by decide +kernel) (by decide +kernel)
set_option maxRecDepth 20000 in
theorem gX8_init_X0_init : GoodIn wsX8_init (wsX0_init) := ggX8_init_X0_init
theorem dX8_init_0 : decode cX8_init 0 = .ok (.aload_n 0, 1) := by decide +kernel
theorem dX8_init_1 : decode cX8_init 1 = .ok (.iload_n 1, 1) := by decide +kernel
theorem dX8_init_2 : decode cX8_init 2 = .ok (.iload_n 2, 1) := by decide +kernel
theorem dX8_init_3 : decode cX8_init 3 = .ok (.iload_n 3, 1) := by decide +kernel
theorem dX8_init_4 : decode cX8_init 4 = .ok (.iload 4, 2) := by decide +kernel
theorem dX8_init_6 : decode cX8_init 6 = .ok (.iload 5, 2) := by decide +kernel
theorem dX8_init_8 : decode cX8_init 8 = .ok (.invokespecial 1, 3) := by decide +kernel
theorem dX8_init_11 : decode cX8_init 11 = .ok (.aload_n 0, 1) := by decide +kernel
theorem dX8_init_12 : decode cX8_init 12 = .ok (.iload 6, 2) := by decide +kernel
theorem dX8_init_14 : decode cX8_init 14 = .ok (.putfield 7, 3) := by decide +kernel
theorem dX8_init_17 : decode cX8_init 17 = .ok (.return_, 1) := by decide +kernel
theorem dX8_kind_0 : decode cX8_kind 0 = .ok (.iconst 4, 1) := by decide +kernel
theorem dX8_kind_1 : decode cX8_kind 1 = .ok (.ireturn, 1) := by decide +kernel
set_option maxRecDepth 20000 in
theorem ggX8_colourIn_X11_shifted : GoodIn wsX8_colourIn wsX11_shifted := goodIn_r _ [6, 7, 8, 9, 10] (by decide +kernel) (by decide +kernel)
set_option maxRecDepth 20000 in
theorem gX8_colourIn_X11_shifted_n16 : GoodIn wsX8_colourIn (wsX11_shifted) := ggX8_colourIn_X11_shifted
theorem dX8_colourIn_0 : decode cX8_colourIn 0 = .ok (.aload_n 0, 1) := by decide +kernel
theorem dX8_colourIn_1 : decode cX8_colourIn 1 = .ok (.getfield 13, 3) := by decide +kernel
theorem dX8_colourIn_4 : decode cX8_colourIn 4 = .ok (.iload_n 1, 1) := by decide +kernel
theorem dX8_colourIn_5 : decode cX8_colourIn 5 = .ok (.aload_n 0, 1) := by decide +kernel
theorem dX8_colourIn_6 : decode cX8_colourIn 6 = .ok (.getfield 7, 3) := by decide +kernel
theorem dX8_colourIn_9 : decode cX8_colourIn 9 = .ok (.imul, 1) := by decide +kernel
theorem dX8_colourIn_10 : decode cX8_colourIn 10 = .ok (.invokestatic 16, 3) := by decide +kernel
theorem dX8_colourIn_13 : decode cX8_colourIn 13 = .ok (.ireturn, 1) := by decide +kernel
theorem dX9_init_0 : decode cX9_init 0 = .ok (.aload_n 0, 1) := by decide +kernel
theorem dX9_init_1 : decode cX9_init 1 = .ok (.invokespecial 3, 3) := by decide +kernel
theorem dX9_init_4 : decode cX9_init 4 = .ok (.aload_n 0, 1) := by decide +kernel
theorem dX9_init_5 : decode cX9_init 5 = .ok (.iconst 4, 1) := by decide +kernel
theorem dX9_init_6 : decode cX9_init 6 = .ok (.bipush 16, 2) := by decide +kernel
theorem dX9_init_8 : decode cX9_init 8 = .ok (.multianewarray 9 2, 4) := by decide +kernel
theorem dX9_init_12 : decode cX9_init 12 = .ok (.putfield 11, 3) := by decide +kernel
theorem dX9_init_15 : decode cX9_init 15 = .ok (.aload_n 0, 1) := by decide +kernel
theorem dX9_init_16 : decode cX9_init 16 = .ok (.iconst 4, 1) := by decide +kernel
theorem dX9_init_17 : decode cX9_init 17 = .ok (.newarray .int, 2) := by decide +kernel
theorem dX9_init_19 : decode cX9_init 19 = .ok (.dup, 1) := by decide +kernel
theorem dX9_init_20 : decode cX9_init 20 = .ok (.iconst 0, 1) := by decide +kernel
theorem dX9_init_21 : decode cX9_init 21 = .ok (.bipush (-9), 2) := by decide +kernel
theorem dX9_init_23 : decode cX9_init 23 = .ok (.iastore, 1) := by decide +kernel
theorem dX9_init_24 : decode cX9_init 24 = .ok (.dup, 1) := by decide +kernel
theorem dX9_init_25 : decode cX9_init 25 = .ok (.iconst 1, 1) := by decide +kernel
theorem dX9_init_26 : decode cX9_init 26 = .ok (.bipush (-9), 2) := by decide +kernel
theorem dX9_init_28 : decode cX9_init 28 = .ok (.iastore, 1) := by decide +kernel
theorem dX9_init_29 : decode cX9_init 29 = .ok (.dup, 1) := by decide +kernel
theorem dX9_init_30 : decode cX9_init 30 = .ok (.iconst 2, 1) := by decide +kernel
theorem dX9_init_31 : decode cX9_init 31 = .ok (.bipush (-9), 2) := by decide +kernel
theorem dX9_init_33 : decode cX9_init 33 = .ok (.iastore, 1) := by decide +kernel
theorem dX9_init_34 : decode cX9_init 34 = .ok (.dup, 1) := by decide +kernel
theorem dX9_init_35 : decode cX9_init 35 = .ok (.iconst 3, 1) := by decide +kernel
theorem dX9_init_36 : decode cX9_init 36 = .ok (.bipush (-9), 2) := by decide +kernel
theorem dX9_init_38 : decode cX9_init 38 = .ok (.iastore, 1) := by decide +kernel
theorem dX9_init_39 : decode cX9_init 39 = .ok (.putfield 16, 3) := by decide +kernel
theorem dX9_init_42 : decode cX9_init 42 = .ok (.return_, 1) := by decide +kernel
theorem dX9_changeBars_0 : decode cX9_changeBars 0 = .ok (.aload_n 0, 1) := by decide +kernel
theorem dX9_changeBars_1 : decode cX9_changeBars 1 = .ok (.getfield 20, 3) := by decide +kernel
theorem dX9_changeBars_4 : decode cX9_changeBars 4 = .ok (.istore_n 2, 1) := by decide +kernel
theorem dX9_changeBars_5 : decode cX9_changeBars 5 = .ok (.aload_n 0, 1) := by decide +kernel
theorem dX9_changeBars_6 : decode cX9_changeBars 6 = .ok (.iload_n 1, 1) := by decide +kernel
theorem dX9_changeBars_7 : decode cX9_changeBars 7 = .ok (.putfield 20, 3) := by decide +kernel
theorem dX9_changeBars_10 : decode cX9_changeBars 10 = .ok (.iconst 0, 1) := by decide +kernel
theorem dX9_changeBars_11 : decode cX9_changeBars 11 = .ok (.istore_n 3, 1) := by decide +kernel
theorem dX9_changeBars_12 : decode cX9_changeBars 12 = .ok (.iload_n 3, 1) := by decide +kernel
theorem dX9_changeBars_13 : decode cX9_changeBars 13 = .ok (.aload_n 0, 1) := by decide +kernel
theorem dX9_changeBars_14 : decode cX9_changeBars 14 = .ok (.getfield 16, 3) := by decide +kernel
theorem dX9_changeBars_17 : decode cX9_changeBars 17 = .ok (.arraylength, 1) := by decide +kernel
theorem dX9_changeBars_18 : decode cX9_changeBars 18 = .ok (.if_icmp .ge 17, 3) := by decide +kernel
theorem dX9_changeBars_21 : decode cX9_changeBars 21 = .ok (.aload_n 0, 1) := by decide +kernel
theorem dX9_changeBars_22 : decode cX9_changeBars 22 = .ok (.getfield 16, 3) := by decide +kernel
theorem dX9_changeBars_25 : decode cX9_changeBars 25 = .ok (.iload_n 3, 1) := by decide +kernel
theorem dX9_changeBars_26 : decode cX9_changeBars 26 = .ok (.bipush (-9), 2) := by decide +kernel
theorem dX9_changeBars_28 : decode cX9_changeBars 28 = .ok (.iastore, 1) := by decide +kernel
theorem dX9_changeBars_29 : decode cX9_changeBars 29 = .ok (.iinc 3 1, 3) := by decide +kernel
theorem dX9_changeBars_32 : decode cX9_changeBars 32 = .ok (.goto (-20), 3) := by decide +kernel
theorem dX9_changeBars_35 : decode cX9_changeBars 35 = .ok (.iload_n 2, 1) := by decide +kernel
theorem dX9_changeBars_36 : decode cX9_changeBars 36 = .ok (.ireturn, 1) := by decide +kernel
set_option maxRecDepth 20000 in
theorem ggX9_lengthFrom_X9_isOpen : GoodIn wsX9_lengthFrom wsX9_isOpen := goodIn_r _ [8] (by decide +kernel) (by decide +kernel)
set_option maxRecDepth 20000 in
theorem gX9_lengthFrom_X9_isOpen : GoodIn wsX9_lengthFrom (va_wsS RX9 28 yX9_isOpen wsX9_isOpen) := goodIn_app (goodIn_of _ (by decide +kernel)) ggX9_lengthFrom_X9_isOpen
set_option maxRecDepth 20000 in
theorem ggX9_lengthFrom_X9_goesOn : GoodIn wsX9_lengthFrom wsX9_goesOn := goodIn_r _ [11, 12, 13, 7, 14, 5, 6, 8, 9, 10] (by decide +kernel) (by decide +kernel)
set_option maxRecDepth 20000 in
theorem gX9_lengthFrom_X9_goesOn : GoodIn wsX9_lengthFrom (va_wsS RX9 32 yX9_goesOn wsX9_goesOn) := goodIn_app (goodIn_of _ (by decide +kernel)) ggX9_lengthFrom_X9_goesOn
set_option maxRecDepth 20000 in
theorem ggX9_lengthFrom_J6_bitCount_0f7a4 : GoodIn wsX9_lengthFrom wsJ6_bitCount_0f7a4 := goodIn_r _ [18, 19, 20, 21] (by decide +kernel) (by decide +kernel)
set_option maxRecDepth 20000 in
theorem gX9_lengthFrom_J6_bitCount_0f7a4 : GoodIn wsX9_lengthFrom (va_wsS RX9 36 yJ6_bitCount_0f7a4 wsJ6_bitCount_0f7a4) := goodIn_app (goodIn_of _ (by decide +kernel)) ggX9_lengthFrom_J6_bitCount_0f7a4
theorem dX9_lengthFrom_0 : decode cX9_lengthFrom 0 = .ok (.aload_n 0, 1) := by decide +kernel
theorem dX9_lengthFrom_1 : decode cX9_lengthFrom 1 = .ok (.getfield 16, 3) := by decide +kernel
theorem dX9_lengthFrom_4 : decode cX9_lengthFrom 4 = .ok (.iload_n 1, 1) := by decide +kernel
theorem dX9_lengthFrom_5 : decode cX9_lengthFrom 5 = .ok (.iaload, 1) := by decide +kernel
theorem dX9_lengthFrom_6 : decode cX9_lengthFrom 6 = .ok (.bipush (-9), 2) := by decide +kernel
theorem dX9_lengthFrom_8 : decode cX9_lengthFrom 8 = .ok (.if_icmp .ne 69, 3) := by decide +kernel
theorem dX9_lengthFrom_11 : decode cX9_lengthFrom 11 = .ok (.ldc 24, 2) := by decide +kernel
theorem dX9_lengthFrom_13 : decode cX9_lengthFrom 13 = .ok (.aload_n 0, 1) := by decide +kernel
theorem dX9_lengthFrom_14 : decode cX9_lengthFrom 14 = .ok (.getfield 20, 3) := by decide +kernel
theorem dX9_lengthFrom_17 : decode cX9_lengthFrom 17 = .ok (.iconst (-1), 1) := by decide +kernel
theorem dX9_lengthFrom_18 : decode cX9_lengthFrom 18 = .ok (.ixor, 1) := by decide +kernel
theorem dX9_lengthFrom_19 : decode cX9_lengthFrom 19 = .ok (.iand, 1) := by decide +kernel
theorem dX9_lengthFrom_20 : decode cX9_lengthFrom 20 = .ok (.istore_n 2, 1) := by decide +kernel
theorem dX9_lengthFrom_21 : decode cX9_lengthFrom 21 = .ok (.getstatic 25, 3) := by decide +kernel
theorem dX9_lengthFrom_24 : decode cX9_lengthFrom 24 = .ok (.iload_n 1, 1) := by decide +kernel
theorem dX9_lengthFrom_25 : decode cX9_lengthFrom 25 = .ok (.iaload, 1) := by decide +kernel
theorem dX9_lengthFrom_26 : decode cX9_lengthFrom 26 = .ok (.iload_n 2, 1) := by decide +kernel
theorem dX9_lengthFrom_27 : decode cX9_lengthFrom 27 = .ok (.invokestatic 28, 3) := by decide +kernel
theorem dX9_lengthFrom_30 : decode cX9_lengthFrom 30 = .ok (.ifCond .eq 26, 3) := by decide +kernel
theorem dX9_lengthFrom_33 : decode cX9_lengthFrom 33 = .ok (.aload_n 0, 1) := by decide +kernel
theorem dX9_lengthFrom_34 : decode cX9_lengthFrom 34 = .ok (.getfield 11, 3) := by decide +kernel
theorem dX9_lengthFrom_37 : decode cX9_lengthFrom 37 = .ok (.iload_n 1, 1) := by decide +kernel
theorem dX9_lengthFrom_38 : decode cX9_lengthFrom 38 = .ok (.aaload, 1) := by decide +kernel
theorem dX9_lengthFrom_39 : decode cX9_lengthFrom 39 = .ok (.iconst 0, 1) := by decide +kernel
theorem dX9_lengthFrom_40 : decode cX9_lengthFrom 40 = .ok (.getstatic 25, 3) := by decide +kernel
theorem dX9_lengthFrom_43 : decode cX9_lengthFrom 43 = .ok (.iload_n 1, 1) := by decide +kernel
theorem dX9_lengthFrom_44 : decode cX9_lengthFrom 44 = .ok (.iaload, 1) := by decide +kernel
theorem dX9_lengthFrom_45 : decode cX9_lengthFrom 45 = .ok (.iload_n 2, 1) := by decide +kernel
theorem dX9_lengthFrom_46 : decode cX9_lengthFrom 46 = .ok (.invokestatic 32, 3) := by decide +kernel
theorem dX9_lengthFrom_49 : decode cX9_lengthFrom 49 = .ok (.ifCond .eq 7, 3) := by decide +kernel
theorem dX9_lengthFrom_52 : decode cX9_lengthFrom 52 = .ok (.iconst 1, 1) := by decide +kernel
theorem dX9_lengthFrom_53 : decode cX9_lengthFrom 53 = .ok (.goto 4, 3) := by decide +kernel
theorem dX9_lengthFrom_56 : decode cX9_lengthFrom 56 = .ok (.iconst 0, 1) := by decide +kernel
theorem dX9_lengthFrom_57 : decode cX9_lengthFrom 57 = .ok (.istore_n 3, 1) := by decide +kernel
theorem dX9_lengthFrom_58 : decode cX9_lengthFrom 58 = .ok (.aload_n 0, 1) := by decide +kernel
theorem dX9_lengthFrom_59 : decode cX9_lengthFrom 59 = .ok (.getfield 16, 3) := by decide +kernel
theorem dX9_lengthFrom_62 : decode cX9_lengthFrom 62 = .ok (.iload_n 1, 1) := by decide +kernel
theorem dX9_lengthFrom_63 : decode cX9_lengthFrom 63 = .ok (.iload_n 3, 1) := by decide +kernel
theorem dX9_lengthFrom_64 : decode cX9_lengthFrom 64 = .ok (.ifCond .eq 10, 3) := by decide +kernel
theorem dX9_lengthFrom_67 : decode cX9_lengthFrom 67 = .ok (.iload_n 2, 1) := by decide +kernel
theorem dX9_lengthFrom_68 : decode cX9_lengthFrom 68 = .ok (.invokestatic 36, 3) := by decide +kernel
theorem dX9_lengthFrom_71 : decode cX9_lengthFrom 71 = .ok (.goto 5, 3) := by decide +kernel
theorem dX9_lengthFrom_74 : decode cX9_lengthFrom 74 = .ok (.bipush (-4), 2) := by decide +kernel
theorem dX9_lengthFrom_76 : decode cX9_lengthFrom 76 = .ok (.iastore, 1) := by decide +kernel
theorem dX9_lengthFrom_77 : decode cX9_lengthFrom 77 = .ok (.aload_n 0, 1) := by decide +kernel
theorem dX9_lengthFrom_78 : decode cX9_lengthFrom 78 = .ok (.getfield 16, 3) := by decide +kernel
theorem dX9_lengthFrom_81 : decode cX9_lengthFrom 81 = .ok (.iload_n 1, 1) := by decide +kernel
theorem dX9_lengthFrom_82 : decode cX9_lengthFrom 82 = .ok (.iaload, 1) := by decide +kernel
theorem dX9_lengthFrom_83 : decode cX9_lengthFrom 83 = .ok (.ireturn, 1) := by decide +kernel
set_option maxRecDepth 20000 in
theorem ggX9_fieldAt_X9_lengthFrom : GoodIn wsX9_fieldAt wsX9_lengthFrom := goodIn_r _ [6, 7, 8, 9, 1, 10, 11, 5, 12, 13, 14, 15, 16, 17, 18, 19, 20, 21, 22, 23, 24, 25, 26, 27, 28] (by decide +kernel) (by decide +kernel)
set_option maxRecDepth 20000 in
theorem gX9_fieldAt_X9_lengthFrom : GoodIn wsX9_fieldAt (wsV RX9 42 RX9 yX9_lengthFrom wsX9_lengthFrom) := goodIn_app (goodIn_of _ (by decide +kernel)) ggX9_fieldAt_X9_lengthFrom
theorem dX9_fieldAt_0 : decode cX9_fieldAt 0 = .ok (.aload_n 0, 1) := by decide +kernel
theorem dX9_fieldAt_1 : decode cX9_fieldAt 1 = .ok (.iload_n 1, 1) := by decide +kernel
theorem dX9_fieldAt_2 : decode cX9_fieldAt 2 = .ok (.invokevirtual 42, 3) := by decide +kernel
theorem dX9_fieldAt_5 : decode cX9_fieldAt 5 = .ok (.istore_n 3, 1) := by decide +kernel
theorem dX9_fieldAt_6 : decode cX9_fieldAt 6 = .ok (.iload_n 3, 1) := by decide +kernel
theorem dX9_fieldAt_7 : decode cX9_fieldAt 7 = .ok (.bipush (-4), 2) := by decide +kernel
theorem dX9_fieldAt_9 : decode cX9_fieldAt 9 = .ok (.if_icmp .ne 6, 3) := by decide +kernel
theorem dX9_fieldAt_12 : decode cX9_fieldAt 12 = .ok (.bipush (-4), 2) := by decide +kernel
theorem dX9_fieldAt_14 : decode cX9_fieldAt 14 = .ok (.ireturn, 1) := by decide +kernel
theorem dX9_fieldAt_15 : decode cX9_fieldAt 15 = .ok (.iload_n 2, 1) := by decide +kernel
theorem dX9_fieldAt_16 : decode cX9_fieldAt 16 = .ok (.iload_n 3, 1) := by decide +kernel
theorem dX9_fieldAt_17 : decode cX9_fieldAt 17 = .ok (.if_icmp .ge 14, 3) := by decide +kernel
theorem dX9_fieldAt_20 : decode cX9_fieldAt 20 = .ok (.aload_n 0, 1) := by decide +kernel
theorem dX9_fieldAt_21 : decode cX9_fieldAt 21 = .ok (.getfield 11, 3) := by decide +kernel
theorem dX9_fieldAt_24 : decode cX9_fieldAt 24 = .ok (.iload_n 1, 1) := by decide +kernel
theorem dX9_fieldAt_25 : decode cX9_fieldAt 25 = .ok (.aaload, 1) := by decide +kernel
theorem dX9_fieldAt_26 : decode cX9_fieldAt 26 = .ok (.iload_n 2, 1) := by decide +kernel
theorem dX9_fieldAt_27 : decode cX9_fieldAt 27 = .ok (.iaload, 1) := by decide +kernel
theorem dX9_fieldAt_28 : decode cX9_fieldAt 28 = .ok (.goto 4, 3) := by decide +kernel
theorem dX9_fieldAt_31 : decode cX9_fieldAt 31 = .ok (.iconst (-1), 1) := by decide +kernel
theorem dX9_fieldAt_32 : decode cX9_fieldAt 32 = .ok (.ireturn, 1) := by decide +kernel
theorem dX9_isOpen_0 : decode cX9_isOpen 0 = .ok (.iload_n 1, 1) := by decide +kernel
theorem dX9_isOpen_1 : decode cX9_isOpen 1 = .ok (.iload_n 0, 1) := by decide +kernel
theorem dX9_isOpen_2 : decode cX9_isOpen 2 = .ok (.ishr, 1) := by decide +kernel
theorem dX9_isOpen_3 : decode cX9_isOpen 3 = .ok (.iconst 1, 1) := by decide +kernel
theorem dX9_isOpen_4 : decode cX9_isOpen 4 = .ok (.iand, 1) := by decide +kernel
theorem dX9_isOpen_5 : decode cX9_isOpen 5 = .ok (.ifCond .eq 7, 3) := by decide +kernel
theorem dX9_isOpen_8 : decode cX9_isOpen 8 = .ok (.iconst 1, 1) := by decide +kernel
theorem dX9_isOpen_9 : decode cX9_isOpen 9 = .ok (.goto 4, 3) := by decide +kernel
theorem dX9_isOpen_12 : decode cX9_isOpen 12 = .ok (.iconst 0, 1) := by decide +kernel
theorem dX9_isOpen_13 : decode cX9_isOpen 13 = .ok (.ireturn, 1) := by decide +kernel
set_option maxRecDepth 20000 in
theorem ggX9_goesOn_X9_triesOn : GoodIn wsX9_goesOn wsX9_triesOn := goodIn_r _ [4, 5, 6, 3, 7, 8, 9, 0, 1, 2] (by decide +kernel) (by decide +kernel)
set_option maxRecDepth 20000 in
theorem gX9_goesOn_X9_triesOn : GoodIn wsX9_goesOn (va_wsS RX9 45 yX9_triesOn wsX9_triesOn) := goodIn_app (goodIn_of _ (by decide +kernel)) ggX9_goesOn_X9_triesOn
theorem dX9_goesOn_0 : decode cX9_goesOn 0 = .ok (.iload_n 1, 1) := by decide +kernel
theorem dX9_goesOn_1 : decode cX9_goesOn 1 = .ok (.bipush 16, 2) := by decide +kernel
theorem dX9_goesOn_3 : decode cX9_goesOn 3 = .ok (.if_icmp .lt 5, 3) := by decide +kernel
theorem dX9_goesOn_6 : decode cX9_goesOn 6 = .ok (.iconst 0, 1) := by decide +kernel
theorem dX9_goesOn_7 : decode cX9_goesOn 7 = .ok (.ireturn, 1) := by decide +kernel
theorem dX9_goesOn_8 : decode cX9_goesOn 8 = .ok (.aload_n 0, 1) := by decide +kernel
theorem dX9_goesOn_9 : decode cX9_goesOn 9 = .ok (.iload_n 1, 1) := by decide +kernel
theorem dX9_goesOn_10 : decode cX9_goesOn 10 = .ok (.iload_n 2, 1) := by decide +kernel
theorem dX9_goesOn_11 : decode cX9_goesOn 11 = .ok (.iastore, 1) := by decide +kernel
theorem dX9_goesOn_12 : decode cX9_goesOn 12 = .ok (.iload_n 3, 1) := by decide +kernel
theorem dX9_goesOn_13 : decode cX9_goesOn 13 = .ok (.iconst 1, 1) := by decide +kernel
theorem dX9_goesOn_14 : decode cX9_goesOn 14 = .ok (.iload_n 2, 1) := by decide +kernel
theorem dX9_goesOn_15 : decode cX9_goesOn 15 = .ok (.ishl, 1) := by decide +kernel
theorem dX9_goesOn_16 : decode cX9_goesOn 16 = .ok (.iconst (-1), 1) := by decide +kernel
theorem dX9_goesOn_17 : decode cX9_goesOn 17 = .ok (.ixor, 1) := by decide +kernel
theorem dX9_goesOn_18 : decode cX9_goesOn 18 = .ok (.iand, 1) := by decide +kernel
theorem dX9_goesOn_19 : decode cX9_goesOn 19 = .ok (.istore 4, 2) := by decide +kernel
theorem dX9_goesOn_21 : decode cX9_goesOn 21 = .ok (.iload 4, 2) := by decide +kernel
theorem dX9_goesOn_23 : decode cX9_goesOn 23 = .ok (.ifCond .ne 5, 3) := by decide +kernel
theorem dX9_goesOn_26 : decode cX9_goesOn 26 = .ok (.iconst 1, 1) := by decide +kernel
theorem dX9_goesOn_27 : decode cX9_goesOn 27 = .ok (.ireturn, 1) := by decide +kernel
theorem dX9_goesOn_28 : decode cX9_goesOn 28 = .ok (.iload_n 2, 1) := by decide +kernel
theorem dX9_goesOn_29 : decode cX9_goesOn 29 = .ok (.iconst 4, 1) := by decide +kernel
theorem dX9_goesOn_30 : decode cX9_goesOn 30 = .ok (.irem, 1) := by decide +kernel
theorem dX9_goesOn_31 : decode cX9_goesOn 31 = .ok (.istore 5, 2) := by decide +kernel
theorem dX9_goesOn_33 : decode cX9_goesOn 33 = .ok (.iload_n 2, 1) := by decide +kernel
theorem dX9_goesOn_34 : decode cX9_goesOn 34 = .ok (.iconst 4, 1) := by decide +kernel
theorem dX9_goesOn_35 : decode cX9_goesOn 35 = .ok (.if_icmp .lt 20, 3) := by decide +kernel
theorem dX9_goesOn_38 : decode cX9_goesOn 38 = .ok (.aload_n 0, 1) := by decide +kernel
theorem dX9_goesOn_39 : decode cX9_goesOn 39 = .ok (.iload_n 1, 1) := by decide +kernel
theorem dX9_goesOn_40 : decode cX9_goesOn 40 = .ok (.iload_n 2, 1) := by decide +kernel
theorem dX9_goesOn_41 : decode cX9_goesOn 41 = .ok (.iconst 4, 1) := by decide +kernel
theorem dX9_goesOn_42 : decode cX9_goesOn 42 = .ok (.isub, 1) := by decide +kernel
theorem dX9_goesOn_43 : decode cX9_goesOn 43 = .ok (.iload 4, 2) := by decide +kernel
theorem dX9_goesOn_45 : decode cX9_goesOn 45 = .ok (.invokestatic 45, 3) := by decide +kernel
theorem dX9_goesOn_48 : decode cX9_goesOn 48 = .ok (.ifCond .eq 7, 3) := by decide +kernel
theorem dX9_goesOn_51 : decode cX9_goesOn 51 = .ok (.iconst 1, 1) := by decide +kernel
theorem dX9_goesOn_52 : decode cX9_goesOn 52 = .ok (.goto 4, 3) := by decide +kernel
theorem dX9_goesOn_55 : decode cX9_goesOn 55 = .ok (.iconst 0, 1) := by decide +kernel
theorem dX9_goesOn_56 : decode cX9_goesOn 56 = .ok (.istore 6, 2) := by decide +kernel
theorem dX9_goesOn_58 : decode cX9_goesOn 58 = .ok (.iload 6, 2) := by decide +kernel
theorem dX9_goesOn_60 : decode cX9_goesOn 60 = .ok (.ifCond .ne 21, 3) := by decide +kernel
theorem dX9_goesOn_63 : decode cX9_goesOn 63 = .ok (.iload 5, 2) := by decide +kernel
theorem dX9_goesOn_65 : decode cX9_goesOn 65 = .ok (.ifCond .le 20, 3) := by decide +kernel
theorem dX9_goesOn_68 : decode cX9_goesOn 68 = .ok (.aload_n 0, 1) := by decide +kernel
theorem dX9_goesOn_69 : decode cX9_goesOn 69 = .ok (.iload_n 1, 1) := by decide +kernel
theorem dX9_goesOn_70 : decode cX9_goesOn 70 = .ok (.iload_n 2, 1) := by decide +kernel
theorem dX9_goesOn_71 : decode cX9_goesOn 71 = .ok (.iconst 1, 1) := by decide +kernel
theorem dX9_goesOn_72 : decode cX9_goesOn 72 = .ok (.isub, 1) := by decide +kernel
theorem dX9_goesOn_73 : decode cX9_goesOn 73 = .ok (.iload 4, 2) := by decide +kernel
theorem dX9_goesOn_75 : decode cX9_goesOn 75 = .ok (.invokestatic 45, 3) := by decide +kernel
theorem dX9_goesOn_78 : decode cX9_goesOn 78 = .ok (.ifCond .eq 7, 3) := by decide +kernel
theorem dX9_goesOn_81 : decode cX9_goesOn 81 = .ok (.iconst 1, 1) := by decide +kernel
theorem dX9_goesOn_82 : decode cX9_goesOn 82 = .ok (.goto 4, 3) := by decide +kernel
theorem dX9_goesOn_85 : decode cX9_goesOn 85 = .ok (.iconst 0, 1) := by decide +kernel
theorem dX9_goesOn_86 : decode cX9_goesOn 86 = .ok (.istore 6, 2) := by decide +kernel
theorem dX9_goesOn_88 : decode cX9_goesOn 88 = .ok (.iload 6, 2) := by decide +kernel
theorem dX9_goesOn_90 : decode cX9_goesOn 90 = .ok (.ifCond .ne 22, 3) := by decide +kernel
theorem dX9_goesOn_93 : decode cX9_goesOn 93 = .ok (.iload 5, 2) := by decide +kernel
theorem dX9_goesOn_95 : decode cX9_goesOn 95 = .ok (.iconst 3, 1) := by decide +kernel
theorem dX9_goesOn_96 : decode cX9_goesOn 96 = .ok (.if_icmp .ge 20, 3) := by decide +kernel
theorem dX9_goesOn_99 : decode cX9_goesOn 99 = .ok (.aload_n 0, 1) := by decide +kernel
theorem dX9_goesOn_100 : decode cX9_goesOn 100 = .ok (.iload_n 1, 1) := by decide +kernel
theorem dX9_goesOn_101 : decode cX9_goesOn 101 = .ok (.iload_n 2, 1) := by decide +kernel
theorem dX9_goesOn_102 : decode cX9_goesOn 102 = .ok (.iconst 1, 1) := by decide +kernel
theorem dX9_goesOn_103 : decode cX9_goesOn 103 = .ok (.iadd, 1) := by decide +kernel
theorem dX9_goesOn_104 : decode cX9_goesOn 104 = .ok (.iload 4, 2) := by decide +kernel
theorem dX9_goesOn_106 : decode cX9_goesOn 106 = .ok (.invokestatic 45, 3) := by decide +kernel
theorem dX9_goesOn_109 : decode cX9_goesOn 109 = .ok (.ifCond .eq 7, 3) := by decide +kernel
theorem dX9_goesOn_112 : decode cX9_goesOn 112 = .ok (.iconst 1, 1) := by decide +kernel
theorem dX9_goesOn_113 : decode cX9_goesOn 113 = .ok (.goto 4, 3) := by decide +kernel
theorem dX9_goesOn_116 : decode cX9_goesOn 116 = .ok (.iconst 0, 1) := by decide +kernel
theorem dX9_goesOn_117 : decode cX9_goesOn 117 = .ok (.istore 6, 2) := by decide +kernel
theorem dX9_goesOn_119 : decode cX9_goesOn 119 = .ok (.iload 6, 2) := by decide +kernel
theorem dX9_goesOn_121 : decode cX9_goesOn 121 = .ok (.ifCond .ne 22, 3) := by decide +kernel
theorem dX9_goesOn_124 : decode cX9_goesOn 124 = .ok (.iload_n 2, 1) := by decide +kernel
theorem dX9_goesOn_125 : decode cX9_goesOn 125 = .ok (.bipush 12, 2) := by decide +kernel
theorem dX9_goesOn_127 : decode cX9_goesOn 127 = .ok (.if_icmp .ge 20, 3) := by decide +kernel
theorem dX9_goesOn_130 : decode cX9_goesOn 130 = .ok (.aload_n 0, 1) := by decide +kernel
theorem dX9_goesOn_131 : decode cX9_goesOn 131 = .ok (.iload_n 1, 1) := by decide +kernel
theorem dX9_goesOn_132 : decode cX9_goesOn 132 = .ok (.iload_n 2, 1) := by decide +kernel
theorem dX9_goesOn_133 : decode cX9_goesOn 133 = .ok (.iconst 4, 1) := by decide +kernel
theorem dX9_goesOn_134 : decode cX9_goesOn 134 = .ok (.iadd, 1) := by decide +kernel
theorem dX9_goesOn_135 : decode cX9_goesOn 135 = .ok (.iload 4, 2) := by decide +kernel
theorem dX9_goesOn_137 : decode cX9_goesOn 137 = .ok (.invokestatic 45, 3) := by decide +kernel
theorem dX9_goesOn_140 : decode cX9_goesOn 140 = .ok (.ifCond .eq 7, 3) := by decide +kernel
theorem dX9_goesOn_143 : decode cX9_goesOn 143 = .ok (.iconst 1, 1) := by decide +kernel
theorem dX9_goesOn_144 : decode cX9_goesOn 144 = .ok (.goto 4, 3) := by decide +kernel
theorem dX9_goesOn_147 : decode cX9_goesOn 147 = .ok (.iconst 0, 1) := by decide +kernel
theorem dX9_goesOn_148 : decode cX9_goesOn 148 = .ok (.ireturn, 1) := by decide +kernel
set_option maxRecDepth 20000 in
theorem ggX9_triesOn_X9_isOpen : GoodIn wsX9_triesOn wsX9_isOpen := goodIn_r _ [4] (by decide +kernel) (by decide +kernel)
set_option maxRecDepth 20000 in
theorem gX9_triesOn_X9_isOpen : GoodIn wsX9_triesOn (va_wsS RX9 28 yX9_isOpen wsX9_isOpen) := goodIn_app (goodIn_of _ (by decide +kernel)) ggX9_triesOn_X9_isOpen
set_option maxRecDepth 20000 in
theorem ggX9_triesOn_X9_goesOn : GoodIn wsX9_triesOn wsX9_goesOn := goodIn_r _ [7, 8, 9, 3, 0, 1, 2, 4, 5, 6] (by decide +kernel) (by decide +kernel)
set_option maxRecDepth 20000 in
theorem gX9_triesOn_X9_goesOn : GoodIn wsX9_triesOn (va_wsS RX9 32 yX9_goesOn wsX9_goesOn) := goodIn_app (goodIn_of _ (by decide +kernel)) ggX9_triesOn_X9_goesOn
theorem dX9_triesOn_0 : decode cX9_triesOn 0 = .ok (.iload_n 2, 1) := by decide +kernel
theorem dX9_triesOn_1 : decode cX9_triesOn 1 = .ok (.iload_n 3, 1) := by decide +kernel
theorem dX9_triesOn_2 : decode cX9_triesOn 2 = .ok (.invokestatic 28, 3) := by decide +kernel
theorem dX9_triesOn_5 : decode cX9_triesOn 5 = .ok (.ifCond .eq 19, 3) := by decide +kernel
theorem dX9_triesOn_8 : decode cX9_triesOn 8 = .ok (.aload_n 0, 1) := by decide +kernel
theorem dX9_triesOn_9 : decode cX9_triesOn 9 = .ok (.iload_n 1, 1) := by decide +kernel
theorem dX9_triesOn_10 : decode cX9_triesOn 10 = .ok (.iconst 1, 1) := by decide +kernel
theorem dX9_triesOn_11 : decode cX9_triesOn 11 = .ok (.iadd, 1) := by decide +kernel
theorem dX9_triesOn_12 : decode cX9_triesOn 12 = .ok (.iload_n 2, 1) := by decide +kernel
theorem dX9_triesOn_13 : decode cX9_triesOn 13 = .ok (.iload_n 3, 1) := by decide +kernel
theorem dX9_triesOn_14 : decode cX9_triesOn 14 = .ok (.invokestatic 32, 3) := by decide +kernel
theorem dX9_triesOn_17 : decode cX9_triesOn 17 = .ok (.ifCond .eq 7, 3) := by decide +kernel
theorem dX9_triesOn_20 : decode cX9_triesOn 20 = .ok (.iconst 1, 1) := by decide +kernel
theorem dX9_triesOn_21 : decode cX9_triesOn 21 = .ok (.goto 4, 3) := by decide +kernel
theorem dX9_triesOn_24 : decode cX9_triesOn 24 = .ok (.iconst 0, 1) := by decide +kernel
theorem dX9_triesOn_25 : decode cX9_triesOn 25 = .ok (.ireturn, 1) := by decide +kernel
theorem dX10_init_0 : decode cX10_init 0 = .ok (.aload_n 0, 1) := by decide +kernel
theorem dX10_init_1 : decode cX10_init 1 = .ok (.invokespecial 3, 3) := by decide +kernel
theorem dX10_init_4 : decode cX10_init 4 = .ok (.aload_n 0, 1) := by decide +kernel
theorem dX10_init_5 : decode cX10_init 5 = .ok (.sipush 128, 3) := by decide +kernel
theorem dX10_init_8 : decode cX10_init 8 = .ok (.putfield 9, 3) := by decide +kernel
theorem dX10_init_11 : decode cX10_init 11 = .ok (.aload_n 0, 1) := by decide +kernel
theorem dX10_init_12 : decode cX10_init 12 = .ok (.bipush 10, 2) := by decide +kernel
theorem dX10_init_14 : decode cX10_init 14 = .ok (.newarray .int, 2) := by decide +kernel
theorem dX10_init_16 : decode cX10_init 16 = .ok (.putfield 15, 3) := by decide +kernel
theorem dX10_init_19 : decode cX10_init 19 = .ok (.aload_n 0, 1) := by decide +kernel
theorem dX10_init_20 : decode cX10_init 20 = .ok (.bipush 10, 2) := by decide +kernel
theorem dX10_init_22 : decode cX10_init 22 = .ok (.newarray .int, 2) := by decide +kernel
theorem dX10_init_24 : decode cX10_init 24 = .ok (.putfield 19, 3) := by decide +kernel
theorem dX10_init_27 : decode cX10_init 27 = .ok (.aload_n 0, 1) := by decide +kernel
theorem dX10_init_28 : decode cX10_init 28 = .ok (.bipush 10, 2) := by decide +kernel
theorem dX10_init_30 : decode cX10_init 30 = .ok (.newarray .int, 2) := by decide +kernel
theorem dX10_init_32 : decode cX10_init 32 = .ok (.putfield 22, 3) := by decide +kernel
theorem dX10_init_35 : decode cX10_init 35 = .ok (.aload_n 0, 1) := by decide +kernel
theorem dX10_init_36 : decode cX10_init 36 = .ok (.bipush 10, 2) := by decide +kernel
theorem dX10_init_38 : decode cX10_init 38 = .ok (.newarray .int, 2) := by decide +kernel
theorem dX10_init_40 : decode cX10_init 40 = .ok (.putfield 25, 3) := by decide +kernel
theorem dX10_init_43 : decode cX10_init 43 = .ok (.aload_n 0, 1) := by decide +kernel
theorem dX10_init_44 : decode cX10_init 44 = .ok (.sipush 1024, 3) := by decide +kernel
theorem dX10_init_47 : decode cX10_init 47 = .ok (.newarray .int, 2) := by decide +kernel
theorem dX10_init_49 : decode cX10_init 49 = .ok (.putfield 28, 3) := by decide +kernel
theorem dX10_init_52 : decode cX10_init 52 = .ok (.aload_n 0, 1) := by decide +kernel
theorem dX10_init_53 : decode cX10_init 53 = .ok (.sipush 1024, 3) := by decide +kernel
theorem dX10_init_56 : decode cX10_init 56 = .ok (.newarray .int, 2) := by decide +kernel
theorem dX10_init_58 : decode cX10_init 58 = .ok (.putfield 31, 3) := by decide +kernel
theorem dX10_init_61 : decode cX10_init 61 = .ok (.aload_n 0, 1) := by decide +kernel
theorem dX10_init_62 : decode cX10_init 62 = .ok (.sipush 1024, 3) := by decide +kernel
theorem dX10_init_65 : decode cX10_init 65 = .ok (.newarray .int, 2) := by decide +kernel
theorem dX10_init_67 : decode cX10_init 67 = .ok (.putfield 34, 3) := by decide +kernel
theorem dX10_init_70 : decode cX10_init 70 = .ok (.aload_n 0, 1) := by decide +kernel
theorem dX10_init_71 : decode cX10_init 71 = .ok (.bipush 10, 2) := by decide +kernel
theorem dX10_init_73 : decode cX10_init 73 = .ok (.newarray .int, 2) := by decide +kernel
theorem dX10_init_75 : decode cX10_init 75 = .ok (.putfield 37, 3) := by decide +kernel
theorem dX10_init_78 : decode cX10_init 78 = .ok (.aload_n 0, 1) := by decide +kernel
theorem dX10_init_79 : decode cX10_init 79 = .ok (.bipush 10, 2) := by decide +kernel
theorem dX10_init_81 : decode cX10_init 81 = .ok (.newarray .int, 2) := by decide +kernel
theorem dX10_init_83 : decode cX10_init 83 = .ok (.putfield 40, 3) := by decide +kernel
theorem dX10_init_86 : decode cX10_init 86 = .ok (.return_, 1) := by decide +kernel
theorem dX10_forget_0 : decode cX10_forget 0 = .ok (.aload_n 0, 1) := by decide +kernel
theorem dX10_forget_1 : decode cX10_forget 1 = .ok (.iconst 0, 1) := by decide +kernel
theorem dX10_forget_2 : decode cX10_forget 2 = .ok (.putfield 43, 3) := by decide +kernel
theorem dX10_forget_5 : decode cX10_forget 5 = .ok (.return_, 1) := by decide +kernel
theorem dX10_changeSand_0 : decode cX10_changeSand 0 = .ok (.aload_n 0, 1) := by decide +kernel
theorem dX10_changeSand_1 : decode cX10_changeSand 1 = .ok (.getfield 9, 3) := by decide +kernel
theorem dX10_changeSand_4 : decode cX10_changeSand 4 = .ok (.istore_n 2, 1) := by decide +kernel
theorem dX10_changeSand_5 : decode cX10_changeSand 5 = .ok (.aload_n 0, 1) := by decide +kernel
theorem dX10_changeSand_6 : decode cX10_changeSand 6 = .ok (.iload_n 1, 1) := by decide +kernel
theorem dX10_changeSand_7 : decode cX10_changeSand 7 = .ok (.putfield 9, 3) := by decide +kernel
theorem dX10_changeSand_10 : decode cX10_changeSand 10 = .ok (.aload_n 0, 1) := by decide +kernel
theorem dX10_changeSand_11 : decode cX10_changeSand 11 = .ok (.iconst 0, 1) := by decide +kernel
theorem dX10_changeSand_12 : decode cX10_changeSand 12 = .ok (.putfield 43, 3) := by decide +kernel
theorem dX10_changeSand_15 : decode cX10_changeSand 15 = .ok (.iload_n 2, 1) := by decide +kernel
theorem dX10_changeSand_16 : decode cX10_changeSand 16 = .ok (.ireturn, 1) := by decide +kernel
theorem dX10_daysOfPlan_0 : decode cX10_daysOfPlan 0 = .ok (.aload_n 0, 1) := by decide +kernel
theorem dX10_daysOfPlan_1 : decode cX10_daysOfPlan 1 = .ok (.getfield 47, 3) := by decide +kernel
theorem dX10_daysOfPlan_4 : decode cX10_daysOfPlan 4 = .ok (.ireturn, 1) := by decide +kernel
theorem dX10_shapesOfDay_0 : decode cX10_shapesOfDay 0 = .ok (.aload_n 0, 1) := by decide +kernel
theorem dX10_shapesOfDay_1 : decode cX10_shapesOfDay 1 = .ok (.getfield 47, 3) := by decide +kernel
theorem dX10_shapesOfDay_4 : decode cX10_shapesOfDay 4 = .ok (.bipush (-4), 2) := by decide +kernel
theorem dX10_shapesOfDay_6 : decode cX10_shapesOfDay 6 = .ok (.if_icmp .ne 6, 3) := by decide +kernel
theorem dX10_shapesOfDay_9 : decode cX10_shapesOfDay 9 = .ok (.bipush (-4), 2) := by decide +kernel
theorem dX10_shapesOfDay_11 : decode cX10_shapesOfDay 11 = .ok (.ireturn, 1) := by decide +kernel
theorem dX10_shapesOfDay_12 : decode cX10_shapesOfDay 12 = .ok (.iload_n 1, 1) := by decide +kernel
theorem dX10_shapesOfDay_13 : decode cX10_shapesOfDay 13 = .ok (.aload_n 0, 1) := by decide +kernel
theorem dX10_shapesOfDay_14 : decode cX10_shapesOfDay 14 = .ok (.getfield 47, 3) := by decide +kernel
theorem dX10_shapesOfDay_17 : decode cX10_shapesOfDay 17 = .ok (.if_icmp .ge 12, 3) := by decide +kernel
theorem dX10_shapesOfDay_20 : decode cX10_shapesOfDay 20 = .ok (.aload_n 0, 1) := by decide +kernel
theorem dX10_shapesOfDay_21 : decode cX10_shapesOfDay 21 = .ok (.getfield 37, 3) := by decide +kernel
theorem dX10_shapesOfDay_24 : decode cX10_shapesOfDay 24 = .ok (.iload_n 1, 1) := by decide +kernel
theorem dX10_shapesOfDay_25 : decode cX10_shapesOfDay 25 = .ok (.iaload, 1) := by decide +kernel
theorem dX10_shapesOfDay_26 : decode cX10_shapesOfDay 26 = .ok (.goto 4, 3) := by decide +kernel
theorem dX10_shapesOfDay_29 : decode cX10_shapesOfDay 29 = .ok (.iconst (-1), 1) := by decide +kernel
theorem dX10_shapesOfDay_30 : decode cX10_shapesOfDay 30 = .ok (.ireturn, 1) := by decide +kernel
theorem dX10_shapeAt_0 : decode cX10_shapeAt 0 = .ok (.aload_n 0, 1) := by decide +kernel
theorem dX10_shapeAt_1 : decode cX10_shapeAt 1 = .ok (.getfield 47, 3) := by decide +kernel
theorem dX10_shapeAt_4 : decode cX10_shapeAt 4 = .ok (.bipush (-4), 2) := by decide +kernel
theorem dX10_shapeAt_6 : decode cX10_shapeAt 6 = .ok (.if_icmp .ne 6, 3) := by decide +kernel
theorem dX10_shapeAt_9 : decode cX10_shapeAt 9 = .ok (.bipush (-4), 2) := by decide +kernel
theorem dX10_shapeAt_11 : decode cX10_shapeAt 11 = .ok (.ireturn, 1) := by decide +kernel
theorem dX10_shapeAt_12 : decode cX10_shapeAt 12 = .ok (.iload_n 1, 1) := by decide +kernel
theorem dX10_shapeAt_13 : decode cX10_shapeAt 13 = .ok (.aload_n 0, 1) := by decide +kernel
theorem dX10_shapeAt_14 : decode cX10_shapeAt 14 = .ok (.getfield 50, 3) := by decide +kernel
theorem dX10_shapeAt_17 : decode cX10_shapeAt 17 = .ok (.if_icmp .ge 12, 3) := by decide +kernel
theorem dX10_shapeAt_20 : decode cX10_shapeAt 20 = .ok (.aload_n 0, 1) := by decide +kernel
theorem dX10_shapeAt_21 : decode cX10_shapeAt 21 = .ok (.getfield 40, 3) := by decide +kernel
theorem dX10_shapeAt_24 : decode cX10_shapeAt 24 = .ok (.iload_n 1, 1) := by decide +kernel
theorem dX10_shapeAt_25 : decode cX10_shapeAt 25 = .ok (.iaload, 1) := by decide +kernel
theorem dX10_shapeAt_26 : decode cX10_shapeAt 26 = .ok (.goto 4, 3) := by decide +kernel
theorem dX10_shapeAt_29 : decode cX10_shapeAt 29 = .ok (.iconst (-1), 1) := by decide +kernel
theorem dX10_shapeAt_30 : decode cX10_shapeAt 30 = .ok (.ireturn, 1) := by decide +kernel
set_option maxRecDepth 20000 in
theorem ggX10_plan_X10_read : GoodIn wsX10_plan wsX10_read := goodIn_r _ [9, 10, 3, 11, 12, 13, 14, 15, 16, 17, 18, 19, 20, 21, 22, 23, 24, 25, 26, 27, 28, 29, 30, 31, 32, 33, 34, 35, 36, 37, 38, 39, 40, 41, 42, 43, 44, 45, 46, 47, 48, 49, 50, 51, 52, 53, 54, 55, 56, 57, 58, 59, 60, 61, 62, 63, 64, 65, 66, 67, 68, 69, 70, 71, 72, 73, 135, 136, 137, 138, 139, 140, 141, 142, 143, 144, 145, 146, 147, 148, 149, 150, 151, 152, 153, 154, 155, 156, 157, 158, 159, 160, 161, 162] (by decide +kernel) (by decide +kernel)
set_option maxRecDepth 20000 in
theorem gX10_plan_X10_read : GoodIn wsX10_plan (wsV RX10 53 RX10 yX10_read wsX10_read) := goodIn_app (goodIn_of _ (by decide +kernel)) ggX10_plan_X10_read
set_option maxRecDepth 20000 in
theorem ggX10_plan_X10_isOneTooLarge : GoodIn wsX10_plan wsX10_isOneTooLarge := goodIn_r _ [77, 10, 12, 78, 135, 136, 137, 138, 139, 140, 141, 142, 143, 144, 145, 146, 147, 148] (by decide +kernel) (by decide +kernel)
set_option maxRecDepth 20000 in
theorem gX10_plan_X10_isOneTooLarge : GoodIn wsX10_plan (wsV RX10 57 RX10 yX10_isOneTooLarge wsX10_isOneTooLarge) := goodIn_app (goodIn_of _ (by decide +kernel)) ggX10_plan_X10_isOneTooLarge
set_option maxRecDepth 20000 in
theorem ggX10_plan_X10_goesRound : GoodIn wsX10_plan wsX10_goesRound := goodIn_r _ [82, 3, 10, 11, 135, 136, 137, 138, 139, 140, 141, 142, 143, 144, 145, 146, 147, 148] (by decide +kernel) (by decide +kernel)
set_option maxRecDepth 20000 in
theorem gX10_plan_X10_goesRound : GoodIn wsX10_plan (wsV RX10 61 RX10 yX10_goesRound wsX10_goesRound) := goodIn_app (goodIn_of _ (by decide +kernel)) ggX10_plan_X10_goesRound
set_option maxRecDepth 20000 in
theorem ggX10_plan_X10_separate : GoodIn wsX10_plan wsX10_separate := goodIn_r _ [86, 10, 87, 11, 13, 135, 136, 137, 138, 139, 140, 141, 142, 143, 144, 145, 146, 147, 148] (by decide +kernel) (by decide +kernel)
set_option maxRecDepth 20000 in
theorem gX10_plan_X10_separate : GoodIn wsX10_plan (wsV RX10 64 RX10 yX10_separate wsX10_separate) := goodIn_app (goodIn_of _ (by decide +kernel)) ggX10_plan_X10_separate
set_option maxRecDepth 20000 in
theorem ggX10_plan_X10_weighSets : GoodIn wsX10_plan wsX10_weighSets := goodIn_r _ [91, 92, 93, 3, 11, 87, 12, 94, 95, 96, 97, 98, 135, 136, 137, 138, 139, 140, 141, 142, 143, 144, 145, 146, 147, 148] (by decide +kernel) (by decide +kernel)
set_option maxRecDepth 20000 in
theorem gX10_plan_X10_weighSets : GoodIn wsX10_plan (wsV RX10 67 RX10 yX10_weighSets wsX10_weighSets) := goodIn_app (goodIn_of _ (by decide +kernel)) ggX10_plan_X10_weighSets
set_option maxRecDepth 20000 in
theorem ggX10_plan_X10_fewestFrom : GoodIn wsX10_plan wsX10_fewestFrom := goodIn_r _ [102, 3, 92, 93, 78, 4, 103, 104, 59, 105, 106, 107, 108, 8, 109, 10, 110, 58, 60, 135, 136, 137, 138, 139, 140, 141, 142, 143, 144, 145, 146, 147, 148] (by decide +kernel) (by decide +kernel)
set_option maxRecDepth 20000 in
theorem gX10_plan_X10_fewestFrom : GoodIn wsX10_plan (wsV RX10 73 RX10 yX10_fewestFrom wsX10_fewestFrom) := goodIn_app (goodIn_of _ (by decide +kernel)) ggX10_plan_X10_fewestFrom
set_option maxRecDepth 20000 in
theorem ggX10_plan_X10_chooseDays : GoodIn wsX10_plan wsX10_chooseDays := goodIn_r _ [114, 2, 115, 116, 117, 118, 8, 119, 3, 93, 78, 4, 135, 136, 137, 138, 139, 140, 141, 142, 143, 144, 145, 146, 147, 148] (by decide +kernel) (by decide +kernel)
set_option maxRecDepth 20000 in
theorem gX10_plan_X10_chooseDays : GoodIn wsX10_plan (wsV RX10 77 RX10 yX10_chooseDays wsX10_chooseDays) := goodIn_app (goodIn_of _ (by decide +kernel)) ggX10_plan_X10_chooseDays
set_option maxRecDepth 20000 in
theorem ggX10_plan_X10_orderShapes : GoodIn wsX10_plan wsX10_orderShapes := goodIn_r _ [123, 2, 115, 10, 124, 125, 126, 96, 127, 128, 129, 130, 131, 132, 133, 8, 134, 11, 13, 110, 58, 59, 60, 135, 136, 137, 138, 139, 140, 141, 142, 143, 144, 145, 146, 147, 148] (by decide +kernel) (by decide +kernel)
set_option maxRecDepth 20000 in
theorem gX10_plan_X10_orderShapes : GoodIn wsX10_plan (wsV RX10 80 RX10 yX10_orderShapes wsX10_orderShapes) := goodIn_app (goodIn_of _ (by decide +kernel)) ggX10_plan_X10_orderShapes
theorem dX10_plan_0 : decode cX10_plan 0 = .ok (.aload_n 0, 1) := by decide +kernel
theorem dX10_plan_1 : decode cX10_plan 1 = .ok (.getfield 43, 3) := by decide +kernel
theorem dX10_plan_4 : decode cX10_plan 4 = .ok (.ifCond .eq 4, 3) := by decide +kernel
theorem dX10_plan_7 : decode cX10_plan 7 = .ok (.return_, 1) := by decide +kernel
theorem dX10_plan_8 : decode cX10_plan 8 = .ok (.aload_n 0, 1) := by decide +kernel
theorem dX10_plan_9 : decode cX10_plan 9 = .ok (.iconst 1, 1) := by decide +kernel
theorem dX10_plan_10 : decode cX10_plan 10 = .ok (.putfield 43, 3) := by decide +kernel
theorem dX10_plan_13 : decode cX10_plan 13 = .ok (.aload_n 0, 1) := by decide +kernel
theorem dX10_plan_14 : decode cX10_plan 14 = .ok (.bipush (-4), 2) := by decide +kernel
theorem dX10_plan_16 : decode cX10_plan 16 = .ok (.putfield 47, 3) := by decide +kernel
theorem dX10_plan_19 : decode cX10_plan 19 = .ok (.aload_n 0, 1) := by decide +kernel
theorem dX10_plan_20 : decode cX10_plan 20 = .ok (.aload_n 1, 1) := by decide +kernel
theorem dX10_plan_21 : decode cX10_plan 21 = .ok (.invokevirtual 53, 3) := by decide +kernel
theorem dX10_plan_24 : decode cX10_plan 24 = .ok (.aload_n 0, 1) := by decide +kernel
theorem dX10_plan_25 : decode cX10_plan 25 = .ok (.invokevirtual 57, 3) := by decide +kernel
theorem dX10_plan_28 : decode cX10_plan 28 = .ok (.ifCond .ne 10, 3) := by decide +kernel
theorem dX10_plan_31 : decode cX10_plan 31 = .ok (.aload_n 0, 1) := by decide +kernel
theorem dX10_plan_32 : decode cX10_plan 32 = .ok (.invokevirtual 61, 3) := by decide +kernel
theorem dX10_plan_35 : decode cX10_plan 35 = .ok (.ifCond .eq 4, 3) := by decide +kernel
theorem dX10_plan_38 : decode cX10_plan 38 = .ok (.return_, 1) := by decide +kernel
theorem dX10_plan_39 : decode cX10_plan 39 = .ok (.aload_n 0, 1) := by decide +kernel
theorem dX10_plan_40 : decode cX10_plan 40 = .ok (.invokevirtual 64, 3) := by decide +kernel
theorem dX10_plan_43 : decode cX10_plan 43 = .ok (.aload_n 0, 1) := by decide +kernel
theorem dX10_plan_44 : decode cX10_plan 44 = .ok (.invokevirtual 67, 3) := by decide +kernel
theorem dX10_plan_47 : decode cX10_plan 47 = .ok (.aload_n 0, 1) := by decide +kernel
theorem dX10_plan_48 : decode cX10_plan 48 = .ok (.getfield 70, 3) := by decide +kernel
theorem dX10_plan_51 : decode cX10_plan 51 = .ok (.istore_n 2, 1) := by decide +kernel
theorem dX10_plan_52 : decode cX10_plan 52 = .ok (.iload_n 2, 1) := by decide +kernel
theorem dX10_plan_53 : decode cX10_plan 53 = .ok (.ifCond .lt 20, 3) := by decide +kernel
theorem dX10_plan_56 : decode cX10_plan 56 = .ok (.aload_n 0, 1) := by decide +kernel
theorem dX10_plan_57 : decode cX10_plan 57 = .ok (.getfield 34, 3) := by decide +kernel
theorem dX10_plan_60 : decode cX10_plan 60 = .ok (.iload_n 2, 1) := by decide +kernel
theorem dX10_plan_61 : decode cX10_plan 61 = .ok (.aload_n 0, 1) := by decide +kernel
theorem dX10_plan_62 : decode cX10_plan 62 = .ok (.iload_n 2, 1) := by decide +kernel
theorem dX10_plan_63 : decode cX10_plan 63 = .ok (.invokevirtual 73, 3) := by decide +kernel
theorem dX10_plan_66 : decode cX10_plan 66 = .ok (.iastore, 1) := by decide +kernel
theorem dX10_plan_67 : decode cX10_plan 67 = .ok (.iinc 2 (-1), 3) := by decide +kernel
theorem dX10_plan_70 : decode cX10_plan 70 = .ok (.goto (-18), 3) := by decide +kernel
theorem dX10_plan_73 : decode cX10_plan 73 = .ok (.aload_n 0, 1) := by decide +kernel
theorem dX10_plan_74 : decode cX10_plan 74 = .ok (.aload_n 0, 1) := by decide +kernel
theorem dX10_plan_75 : decode cX10_plan 75 = .ok (.getfield 34, 3) := by decide +kernel
theorem dX10_plan_78 : decode cX10_plan 78 = .ok (.iconst 0, 1) := by decide +kernel
theorem dX10_plan_79 : decode cX10_plan 79 = .ok (.iaload, 1) := by decide +kernel
theorem dX10_plan_80 : decode cX10_plan 80 = .ok (.putfield 47, 3) := by decide +kernel
theorem dX10_plan_83 : decode cX10_plan 83 = .ok (.aload_n 0, 1) := by decide +kernel
theorem dX10_plan_84 : decode cX10_plan 84 = .ok (.invokevirtual 77, 3) := by decide +kernel
theorem dX10_plan_87 : decode cX10_plan 87 = .ok (.aload_n 0, 1) := by decide +kernel
theorem dX10_plan_88 : decode cX10_plan 88 = .ok (.invokevirtual 80, 3) := by decide +kernel
theorem dX10_plan_91 : decode cX10_plan 91 = .ok (.return_, 1) := by decide +kernel
set_option maxRecDepth 20000 in
theorem ggX10_read_X4_shapesTold : GoodIn wsX10_read wsX4_shapesTold := goodIn_r _ [10, 11, 80, 81, 82] (by decide +kernel) (by decide +kernel)
set_option maxRecDepth 20000 in
theorem gX10_read_X4_shapesTold : GoodIn wsX10_read (wsV RX10 83 RX4 yX4_shapesTold wsX4_shapesTold) := goodIn_app (goodIn_of _ (by decide +kernel)) ggX10_read_X4_shapesTold
set_option maxRecDepth 20000 in
theorem ggX10_read_X4_shapeOf : GoodIn wsX10_read wsX4_shapeOf := goodIn_r _ [15, 11, 16, 17, 18, 19, 80, 81, 82] (by decide +kernel) (by decide +kernel)
set_option maxRecDepth 20000 in
theorem gX10_read_X4_shapeOf : GoodIn wsX10_read (wsV RX10 89 RX4 yX4_shapeOf wsX4_shapeOf) := goodIn_app (goodIn_of _ (by decide +kernel)) ggX10_read_X4_shapeOf
set_option maxRecDepth 20000 in
theorem ggX10_read_X4_comesAfter : GoodIn wsX10_read wsX4_comesAfter := goodIn_r _ [23, 24, 16, 25, 80, 81, 82, 83, 84, 85, 86, 87, 88, 89, 90, 91, 92, 93] (by decide +kernel) (by decide +kernel)
set_option maxRecDepth 20000 in
theorem gX10_read_X4_comesAfter : GoodIn wsX10_read (wsV RX10 93 RX4 yX4_comesAfter wsX4_comesAfter) := goodIn_app (goodIn_of _ (by decide +kernel)) ggX10_read_X4_comesAfter
set_option maxRecDepth 20000 in
theorem ggX10_read_X6_cells : GoodIn wsX10_read wsX6_cells := goodIn_r _ [31, 32, 33, 34, 35, 36, 37, 38, 39, 83, 84, 85, 86, 87, 88, 89, 90, 91, 92, 93] (by decide +kernel) (by decide +kernel)
set_option maxRecDepth 20000 in
theorem gX10_read_X6_cells_u96X0 : GoodIn wsX10_read (va_wsU RX10 96 RX0 "SandPalace$Shape" ⟨"SandPalace$Shape", "cells", "()I"⟩ yX6_cells wsX6_cells) := goodIn_app (goodIn_of _ (by decide +kernel)) ggX10_read_X6_cells
set_option maxRecDepth 20000 in
theorem gX10_read_X6_cells_u96X1 : GoodIn wsX10_read (va_wsU RX10 96 RX1 "SandPalace$Shape" ⟨"SandPalace$Shape", "cells", "()I"⟩ yX6_cells wsX6_cells) := goodIn_app (goodIn_of _ (by decide +kernel)) ggX10_read_X6_cells
set_option maxRecDepth 20000 in
theorem gX10_read_X6_cells_u96X2 : GoodIn wsX10_read (va_wsU RX10 96 RX2 "SandPalace$Shape" ⟨"SandPalace$Shape", "cells", "()I"⟩ yX6_cells wsX6_cells) := goodIn_app (goodIn_of _ (by decide +kernel)) ggX10_read_X6_cells
set_option maxRecDepth 20000 in
theorem gX10_read_X6_cells_u96X5 : GoodIn wsX10_read (va_wsU RX10 96 RX5 "SandPalace$Shape" ⟨"SandPalace$Shape", "cells", "()I"⟩ yX6_cells wsX6_cells) := goodIn_app (goodIn_of _ (by decide +kernel)) ggX10_read_X6_cells
set_option maxRecDepth 20000 in
theorem gX10_read_X6_cells_u96X8 : GoodIn wsX10_read (va_wsU RX10 96 RX8 "SandPalace$Shape" ⟨"SandPalace$Shape", "cells", "()I"⟩ yX6_cells wsX6_cells) := goodIn_app (goodIn_of _ (by decide +kernel)) ggX10_read_X6_cells
set_option maxRecDepth 20000 in
theorem ggX10_read_X6_reach : GoodIn wsX10_read wsX6_reach := goodIn_r _ [48, 49, 50, 51, 52, 53, 54, 55, 56, 30, 57, 32, 58, 59, 60, 61, 83, 84, 85, 86, 87, 88, 89, 90, 91, 92, 93] (by decide +kernel) (by decide +kernel)
set_option maxRecDepth 20000 in
theorem gX10_read_X6_reach_u101X0 : GoodIn wsX10_read (va_wsU RX10 101 RX0 "SandPalace$Shape" ⟨"SandPalace$Shape", "reach", "()I"⟩ yX6_reach wsX6_reach) := goodIn_app (goodIn_of _ (by decide +kernel)) ggX10_read_X6_reach
set_option maxRecDepth 20000 in
theorem gX10_read_X6_reach_u101X1 : GoodIn wsX10_read (va_wsU RX10 101 RX1 "SandPalace$Shape" ⟨"SandPalace$Shape", "reach", "()I"⟩ yX6_reach wsX6_reach) := goodIn_app (goodIn_of _ (by decide +kernel)) ggX10_read_X6_reach
set_option maxRecDepth 20000 in
theorem gX10_read_X6_reach_u101X2 : GoodIn wsX10_read (va_wsU RX10 101 RX2 "SandPalace$Shape" ⟨"SandPalace$Shape", "reach", "()I"⟩ yX6_reach wsX6_reach) := goodIn_app (goodIn_of _ (by decide +kernel)) ggX10_read_X6_reach
set_option maxRecDepth 20000 in
theorem gX10_read_X6_reach_u101X5 : GoodIn wsX10_read (va_wsU RX10 101 RX5 "SandPalace$Shape" ⟨"SandPalace$Shape", "reach", "()I"⟩ yX6_reach wsX6_reach) := goodIn_app (goodIn_of _ (by decide +kernel)) ggX10_read_X6_reach
set_option maxRecDepth 20000 in
theorem gX10_read_X6_reach_u101X8 : GoodIn wsX10_read (va_wsU RX10 101 RX8 "SandPalace$Shape" ⟨"SandPalace$Shape", "reach", "()I"⟩ yX6_reach wsX6_reach) := goodIn_app (goodIn_of _ (by decide +kernel)) ggX10_read_X6_reach
theorem dX10_read_0 : decode cX10_read 0 = .ok (.aload_n 0, 1) := by decide +kernel
theorem dX10_read_1 : decode cX10_read 1 = .ok (.aload_n 1, 1) := by decide +kernel
theorem dX10_read_2 : decode cX10_read 2 = .ok (.invokevirtual 83, 3) := by decide +kernel
theorem dX10_read_5 : decode cX10_read 5 = .ok (.putfield 50, 3) := by decide +kernel
theorem dX10_read_8 : decode cX10_read 8 = .ok (.aload_n 0, 1) := by decide +kernel
theorem dX10_read_9 : decode cX10_read 9 = .ok (.iconst 1, 1) := by decide +kernel
theorem dX10_read_10 : decode cX10_read 10 = .ok (.aload_n 0, 1) := by decide +kernel
theorem dX10_read_11 : decode cX10_read 11 = .ok (.getfield 50, 3) := by decide +kernel
theorem dX10_read_14 : decode cX10_read 14 = .ok (.ishl, 1) := by decide +kernel
theorem dX10_read_15 : decode cX10_read 15 = .ok (.iconst 1, 1) := by decide +kernel
theorem dX10_read_16 : decode cX10_read 16 = .ok (.isub, 1) := by decide +kernel
theorem dX10_read_17 : decode cX10_read 17 = .ok (.putfield 70, 3) := by decide +kernel
theorem dX10_read_20 : decode cX10_read 20 = .ok (.iconst 0, 1) := by decide +kernel
theorem dX10_read_21 : decode cX10_read 21 = .ok (.istore_n 2, 1) := by decide +kernel
theorem dX10_read_22 : decode cX10_read 22 = .ok (.iload_n 2, 1) := by decide +kernel
theorem dX10_read_23 : decode cX10_read 23 = .ok (.aload_n 0, 1) := by decide +kernel
theorem dX10_read_24 : decode cX10_read 24 = .ok (.getfield 50, 3) := by decide +kernel
theorem dX10_read_27 : decode cX10_read 27 = .ok (.if_icmp .ge 50, 3) := by decide +kernel
theorem dX10_read_30 : decode cX10_read 30 = .ok (.aload_n 1, 1) := by decide +kernel
theorem dX10_read_31 : decode cX10_read 31 = .ok (.iload_n 2, 1) := by decide +kernel
theorem dX10_read_32 : decode cX10_read 32 = .ok (.invokevirtual 89, 3) := by decide +kernel
theorem dX10_read_35 : decode cX10_read 35 = .ok (.astore_n 3, 1) := by decide +kernel
theorem dX10_read_36 : decode cX10_read 36 = .ok (.aload_n 3, 1) := by decide +kernel
theorem dX10_read_37 : decode cX10_read 37 = .ok (.ifnull 34, 3) := by decide +kernel
theorem dX10_read_40 : decode cX10_read 40 = .ok (.aload_n 0, 1) := by decide +kernel
theorem dX10_read_41 : decode cX10_read 41 = .ok (.getfield 15, 3) := by decide +kernel
theorem dX10_read_44 : decode cX10_read 44 = .ok (.iload_n 2, 1) := by decide +kernel
theorem dX10_read_45 : decode cX10_read 45 = .ok (.aload_n 1, 1) := by decide +kernel
theorem dX10_read_46 : decode cX10_read 46 = .ok (.iload_n 2, 1) := by decide +kernel
theorem dX10_read_47 : decode cX10_read 47 = .ok (.invokevirtual 93, 3) := by decide +kernel
theorem dX10_read_50 : decode cX10_read 50 = .ok (.iastore, 1) := by decide +kernel
theorem dX10_read_51 : decode cX10_read 51 = .ok (.aload_n 0, 1) := by decide +kernel
theorem dX10_read_52 : decode cX10_read 52 = .ok (.getfield 19, 3) := by decide +kernel
theorem dX10_read_55 : decode cX10_read 55 = .ok (.iload_n 2, 1) := by decide +kernel
theorem dX10_read_56 : decode cX10_read 56 = .ok (.aload_n 3, 1) := by decide +kernel
theorem dX10_read_57 : decode cX10_read 57 = .ok (.invokevirtual 96, 3) := by decide +kernel
theorem dX10_read_60 : decode cX10_read 60 = .ok (.iastore, 1) := by decide +kernel
theorem dX10_read_61 : decode cX10_read 61 = .ok (.aload_n 0, 1) := by decide +kernel
theorem dX10_read_62 : decode cX10_read 62 = .ok (.getfield 22, 3) := by decide +kernel
theorem dX10_read_65 : decode cX10_read 65 = .ok (.iload_n 2, 1) := by decide +kernel
theorem dX10_read_66 : decode cX10_read 66 = .ok (.aload_n 3, 1) := by decide +kernel
theorem dX10_read_67 : decode cX10_read 67 = .ok (.invokevirtual 101, 3) := by decide +kernel
theorem dX10_read_70 : decode cX10_read 70 = .ok (.iastore, 1) := by decide +kernel
theorem dX10_read_71 : decode cX10_read 71 = .ok (.iinc 2 1, 3) := by decide +kernel
theorem dX10_read_74 : decode cX10_read 74 = .ok (.goto (-52), 3) := by decide +kernel
theorem dX10_read_77 : decode cX10_read 77 = .ok (.return_, 1) := by decide +kernel
theorem dX10_isOneTooLarge_0 : decode cX10_isOneTooLarge 0 = .ok (.iconst 0, 1) := by decide +kernel
theorem dX10_isOneTooLarge_1 : decode cX10_isOneTooLarge 1 = .ok (.istore_n 1, 1) := by decide +kernel
theorem dX10_isOneTooLarge_2 : decode cX10_isOneTooLarge 2 = .ok (.iload_n 1, 1) := by decide +kernel
theorem dX10_isOneTooLarge_3 : decode cX10_isOneTooLarge 3 = .ok (.aload_n 0, 1) := by decide +kernel
theorem dX10_isOneTooLarge_4 : decode cX10_isOneTooLarge 4 = .ok (.getfield 50, 3) := by decide +kernel
theorem dX10_isOneTooLarge_7 : decode cX10_isOneTooLarge 7 = .ok (.if_icmp .ge 24, 3) := by decide +kernel
theorem dX10_isOneTooLarge_10 : decode cX10_isOneTooLarge 10 = .ok (.aload_n 0, 1) := by decide +kernel
theorem dX10_isOneTooLarge_11 : decode cX10_isOneTooLarge 11 = .ok (.getfield 19, 3) := by decide +kernel
theorem dX10_isOneTooLarge_14 : decode cX10_isOneTooLarge 14 = .ok (.iload_n 1, 1) := by decide +kernel
theorem dX10_isOneTooLarge_15 : decode cX10_isOneTooLarge 15 = .ok (.iaload, 1) := by decide +kernel
theorem dX10_isOneTooLarge_16 : decode cX10_isOneTooLarge 16 = .ok (.aload_n 0, 1) := by decide +kernel
theorem dX10_isOneTooLarge_17 : decode cX10_isOneTooLarge 17 = .ok (.getfield 9, 3) := by decide +kernel
theorem dX10_isOneTooLarge_20 : decode cX10_isOneTooLarge 20 = .ok (.if_icmp .le 5, 3) := by decide +kernel
theorem dX10_isOneTooLarge_23 : decode cX10_isOneTooLarge 23 = .ok (.iconst 1, 1) := by decide +kernel
theorem dX10_isOneTooLarge_24 : decode cX10_isOneTooLarge 24 = .ok (.ireturn, 1) := by decide +kernel
theorem dX10_isOneTooLarge_25 : decode cX10_isOneTooLarge 25 = .ok (.iinc 1 1, 3) := by decide +kernel
theorem dX10_isOneTooLarge_28 : decode cX10_isOneTooLarge 28 = .ok (.goto (-26), 3) := by decide +kernel
theorem dX10_isOneTooLarge_31 : decode cX10_isOneTooLarge 31 = .ok (.iconst 0, 1) := by decide +kernel
theorem dX10_isOneTooLarge_32 : decode cX10_isOneTooLarge 32 = .ok (.ireturn, 1) := by decide +kernel
theorem dX10_goesRound_0 : decode cX10_goesRound 0 = .ok (.aload_n 0, 1) := by decide +kernel
theorem dX10_goesRound_1 : decode cX10_goesRound 1 = .ok (.getfield 70, 3) := by decide +kernel
