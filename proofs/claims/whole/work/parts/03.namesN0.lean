set_option maxRecDepth 20000 in
theorem ggX0_init_X0_placesOf : GoodIn wsX0_init wsX0_placesOf := goodIn_r _ [4, 5, 6, 7, 8, 9, 10, 11] (by decide +kernel) (by decide +kernel)
set_option maxRecDepth 20000 in
theorem gX0_init_X0_placesOf : GoodIn wsX0_init (va_wsS RX0 3 yX0_placesOf wsX0_placesOf) := goodIn_app (goodIn_of _ (by decide +kernel)) ggX0_init_X0_placesOf
set_option maxRecDepth 20000 in
theorem ggX0_init_X6_init : GoodIn wsX0_init wsX6_init := goodIn_r _ [15, 16, 17, 18, 19, 20, 21, 22, 23, 24, 25, 26, 27, 28, 29, 30, 31] (by decide +kernel) (by decide +kernel)
set_option maxRecDepth 20000 in
theorem gX0_init_X6_init : GoodIn wsX0_init (wsX6_init) := ggX0_init_X6_init
theorem dX0_init_0 : decode cX0_init 0 = .ok (.aload_n 0, 1) := by decide +kernel
theorem dX0_init_1 : decode cX0_init 1 = .ok (.iload_n 1, 1) := by decide +kernel
theorem dX0_init_2 : decode cX0_init 2 = .ok (.iload_n 2, 1) := by decide +kernel
theorem dX0_init_3 : decode cX0_init 3 = .ok (.iload_n 3, 1) := by decide +kernel
theorem dX0_init_4 : decode cX0_init 4 = .ok (.iload 4, 2) := by decide +kernel
theorem dX0_init_6 : decode cX0_init 6 = .ok (.iload 5, 2) := by decide +kernel
theorem dX0_init_8 : decode cX0_init 8 = .ok (.invokestatic 3, 3) := by decide +kernel
theorem dX0_init_11 : decode cX0_init 11 = .ok (.invokespecial 9, 3) := by decide +kernel
theorem dX0_init_14 : decode cX0_init 14 = .ok (.return_, 1) := by decide +kernel
theorem dX0_kind_0 : decode cX0_kind 0 = .ok (.iconst 3, 1) := by decide +kernel
theorem dX0_kind_1 : decode cX0_kind 1 = .ok (.ireturn, 1) := by decide +kernel
set_option maxRecDepth 20000 in
theorem ggX0_cellsOfQuarter_J13_bitCount_95d88 : GoodIn wsX0_cellsOfQuarter wsJ13_bitCount_95d88 := goodIn_r _ [6, 7, 8, 9] (by decide +kernel) (by decide +kernel)
set_option maxRecDepth 20000 in
theorem gX0_cellsOfQuarter_J13_bitCount_95d88 : GoodIn wsX0_cellsOfQuarter (va_wsS RX0 19 yJ13_bitCount_95d88 wsJ13_bitCount_95d88) := goodIn_app (goodIn_of _ (by decide +kernel)) ggX0_cellsOfQuarter_J13_bitCount_95d88
theorem dX0_cellsOfQuarter_0 : decode cX0_cellsOfQuarter 0 = .ok (.aload_n 0, 1) := by decide +kernel
theorem dX0_cellsOfQuarter_1 : decode cX0_cellsOfQuarter 1 = .ok (.getfield 15, 3) := by decide +kernel
theorem dX0_cellsOfQuarter_4 : decode cX0_cellsOfQuarter 4 = .ok (.invokestatic 19, 3) := by decide +kernel
theorem dX0_cellsOfQuarter_7 : decode cX0_cellsOfQuarter 7 = .ok (.ireturn, 1) := by decide +kernel
theorem dX0_placesOf_0 : decode cX0_placesOf 0 = .ok (.lconst 0, 1) := by decide +kernel
theorem dX0_placesOf_1 : decode cX0_placesOf 1 = .ok (.lstore 4, 2) := by decide +kernel
theorem dX0_placesOf_3 : decode cX0_placesOf 3 = .ok (.iload_n 1, 1) := by decide +kernel
theorem dX0_placesOf_4 : decode cX0_placesOf 4 = .ok (.iload_n 3, 1) := by decide +kernel
theorem dX0_placesOf_5 : decode cX0_placesOf 5 = .ok (.invokestatic 25, 3) := by decide +kernel
theorem dX0_placesOf_8 : decode cX0_placesOf 8 = .ok (.istore 6, 2) := by decide +kernel
theorem dX0_placesOf_10 : decode cX0_placesOf 10 = .ok (.iload 6, 2) := by decide +kernel
theorem dX0_placesOf_12 : decode cX0_placesOf 12 = .ok (.iload_n 1, 1) := by decide +kernel
theorem dX0_placesOf_13 : decode cX0_placesOf 13 = .ok (.iload_n 3, 1) := by decide +kernel
theorem dX0_placesOf_14 : decode cX0_placesOf 14 = .ok (.invokestatic 31, 3) := by decide +kernel
theorem dX0_placesOf_17 : decode cX0_placesOf 17 = .ok (.if_icmp .gt 47, 3) := by decide +kernel
theorem dX0_placesOf_20 : decode cX0_placesOf 20 = .ok (.iload_n 0, 1) := by decide +kernel
theorem dX0_placesOf_21 : decode cX0_placesOf 21 = .ok (.iload_n 2, 1) := by decide +kernel
theorem dX0_placesOf_22 : decode cX0_placesOf 22 = .ok (.invokestatic 25, 3) := by decide +kernel
theorem dX0_placesOf_25 : decode cX0_placesOf 25 = .ok (.istore 7, 2) := by decide +kernel
theorem dX0_placesOf_27 : decode cX0_placesOf 27 = .ok (.iload 7, 2) := by decide +kernel
theorem dX0_placesOf_29 : decode cX0_placesOf 29 = .ok (.iload_n 0, 1) := by decide +kernel
theorem dX0_placesOf_30 : decode cX0_placesOf 30 = .ok (.iload_n 2, 1) := by decide +kernel
theorem dX0_placesOf_31 : decode cX0_placesOf 31 = .ok (.invokestatic 31, 3) := by decide +kernel
theorem dX0_placesOf_34 : decode cX0_placesOf 34 = .ok (.if_icmp .gt 24, 3) := by decide +kernel
theorem dX0_placesOf_37 : decode cX0_placesOf 37 = .ok (.lload 4, 2) := by decide +kernel
theorem dX0_placesOf_39 : decode cX0_placesOf 39 = .ok (.lconst 1, 1) := by decide +kernel
theorem dX0_placesOf_40 : decode cX0_placesOf 40 = .ok (.bipush 8, 2) := by decide +kernel
theorem dX0_placesOf_42 : decode cX0_placesOf 42 = .ok (.iload 6, 2) := by decide +kernel
theorem dX0_placesOf_44 : decode cX0_placesOf 44 = .ok (.imul, 1) := by decide +kernel
theorem dX0_placesOf_45 : decode cX0_placesOf 45 = .ok (.iload 7, 2) := by decide +kernel
theorem dX0_placesOf_47 : decode cX0_placesOf 47 = .ok (.iadd, 1) := by decide +kernel
theorem dX0_placesOf_48 : decode cX0_placesOf 48 = .ok (.lshl, 1) := by decide +kernel
theorem dX0_placesOf_49 : decode cX0_placesOf 49 = .ok (.lor, 1) := by decide +kernel
theorem dX0_placesOf_50 : decode cX0_placesOf 50 = .ok (.lstore 4, 2) := by decide +kernel
theorem dX0_placesOf_52 : decode cX0_placesOf 52 = .ok (.iinc 7 1, 3) := by decide +kernel
theorem dX0_placesOf_55 : decode cX0_placesOf 55 = .ok (.goto (-28), 3) := by decide +kernel
theorem dX0_placesOf_58 : decode cX0_placesOf 58 = .ok (.iinc 6 1, 3) := by decide +kernel
theorem dX0_placesOf_61 : decode cX0_placesOf 61 = .ok (.goto (-51), 3) := by decide +kernel
theorem dX0_placesOf_64 : decode cX0_placesOf 64 = .ok (.lload 4, 2) := by decide +kernel
theorem dX0_placesOf_66 : decode cX0_placesOf 66 = .ok (.lreturn, 1) := by decide +kernel
set_option maxRecDepth 20000 in
theorem ggX1_init_X1_placesOf : GoodIn wsX1_init wsX1_placesOf := goodIn_r _ [4] (by decide +kernel) (by decide +kernel)
set_option maxRecDepth 20000 in
theorem gX1_init_X1_placesOf : GoodIn wsX1_init (va_wsS RX1 3 yX1_placesOf wsX1_placesOf) := goodIn_app (goodIn_of _ (by decide +kernel)) ggX1_init_X1_placesOf
set_option maxRecDepth 20000 in
theorem ggX1_init_X6_init : GoodIn wsX1_init wsX6_init := goodIn_r _ [8, 9, 10, 11, 12, 13, 14, 15, 16, 17, 18, 19, 20, 21, 22, 23, 24] (by decide +kernel) (by decide +kernel)
set_option maxRecDepth 20000 in
theorem gX1_init_X6_init : GoodIn wsX1_init (wsX6_init) := ggX1_init_X6_init
theorem dX1_init_0 : decode cX1_init 0 = .ok (.aload_n 0, 1) := by decide +kernel
theorem dX1_init_1 : decode cX1_init 1 = .ok (.iload_n 1, 1) := by decide +kernel
theorem dX1_init_2 : decode cX1_init 2 = .ok (.iload_n 2, 1) := by decide +kernel
theorem dX1_init_3 : decode cX1_init 3 = .ok (.invokestatic 3, 3) := by decide +kernel
theorem dX1_init_6 : decode cX1_init 6 = .ok (.invokespecial 9, 3) := by decide +kernel
theorem dX1_init_9 : decode cX1_init 9 = .ok (.return_, 1) := by decide +kernel
theorem dX1_kind_0 : decode cX1_kind 0 = .ok (.iconst 0, 1) := by decide +kernel
theorem dX1_kind_1 : decode cX1_kind 1 = .ok (.ireturn, 1) := by decide +kernel
theorem dX1_placesOf_0 : decode cX1_placesOf 0 = .ok (.lconst 0, 1) := by decide +kernel
theorem dX1_placesOf_1 : decode cX1_placesOf 1 = .ok (.lstore_n 1, 1) := by decide +kernel
theorem dX1_placesOf_2 : decode cX1_placesOf 2 = .ok (.iconst 0, 1) := by decide +kernel
theorem dX1_placesOf_3 : decode cX1_placesOf 3 = .ok (.istore_n 3, 1) := by decide +kernel
theorem dX1_placesOf_4 : decode cX1_placesOf 4 = .ok (.iload_n 3, 1) := by decide +kernel
theorem dX1_placesOf_5 : decode cX1_placesOf 5 = .ok (.bipush 64, 2) := by decide +kernel
theorem dX1_placesOf_7 : decode cX1_placesOf 7 = .ok (.if_icmp .ge 50, 3) := by decide +kernel
theorem dX1_placesOf_10 : decode cX1_placesOf 10 = .ok (.iconst 2, 1) := by decide +kernel
theorem dX1_placesOf_11 : decode cX1_placesOf 11 = .ok (.iload_n 3, 1) := by decide +kernel
theorem dX1_placesOf_12 : decode cX1_placesOf 12 = .ok (.bipush 8, 2) := by decide +kernel
theorem dX1_placesOf_14 : decode cX1_placesOf 14 = .ok (.irem, 1) := by decide +kernel
theorem dX1_placesOf_15 : decode cX1_placesOf 15 = .ok (.imul, 1) := by decide +kernel
theorem dX1_placesOf_16 : decode cX1_placesOf 16 = .ok (.iconst 1, 1) := by decide +kernel
theorem dX1_placesOf_17 : decode cX1_placesOf 17 = .ok (.iadd, 1) := by decide +kernel
theorem dX1_placesOf_18 : decode cX1_placesOf 18 = .ok (.istore 4, 2) := by decide +kernel
theorem dX1_placesOf_20 : decode cX1_placesOf 20 = .ok (.iconst 2, 1) := by decide +kernel
theorem dX1_placesOf_21 : decode cX1_placesOf 21 = .ok (.iload_n 3, 1) := by decide +kernel
theorem dX1_placesOf_22 : decode cX1_placesOf 22 = .ok (.bipush 8, 2) := by decide +kernel
theorem dX1_placesOf_24 : decode cX1_placesOf 24 = .ok (.idiv, 1) := by decide +kernel
theorem dX1_placesOf_25 : decode cX1_placesOf 25 = .ok (.imul, 1) := by decide +kernel
theorem dX1_placesOf_26 : decode cX1_placesOf 26 = .ok (.iconst 1, 1) := by decide +kernel
theorem dX1_placesOf_27 : decode cX1_placesOf 27 = .ok (.iadd, 1) := by decide +kernel
theorem dX1_placesOf_28 : decode cX1_placesOf 28 = .ok (.istore 5, 2) := by decide +kernel
theorem dX1_placesOf_30 : decode cX1_placesOf 30 = .ok (.iload 4, 2) := by decide +kernel
theorem dX1_placesOf_32 : decode cX1_placesOf 32 = .ok (.iload 4, 2) := by decide +kernel
theorem dX1_placesOf_34 : decode cX1_placesOf 34 = .ok (.imul, 1) := by decide +kernel
theorem dX1_placesOf_35 : decode cX1_placesOf 35 = .ok (.iload 5, 2) := by decide +kernel
theorem dX1_placesOf_37 : decode cX1_placesOf 37 = .ok (.iload 5, 2) := by decide +kernel
theorem dX1_placesOf_39 : decode cX1_placesOf 39 = .ok (.imul, 1) := by decide +kernel
theorem dX1_placesOf_40 : decode cX1_placesOf 40 = .ok (.iadd, 1) := by decide +kernel
theorem dX1_placesOf_41 : decode cX1_placesOf 41 = .ok (.iload_n 0, 1) := by decide +kernel
theorem dX1_placesOf_42 : decode cX1_placesOf 42 = .ok (.if_icmp .gt 9, 3) := by decide +kernel
theorem dX1_placesOf_45 : decode cX1_placesOf 45 = .ok (.lload_n 1, 1) := by decide +kernel
theorem dX1_placesOf_46 : decode cX1_placesOf 46 = .ok (.lconst 1, 1) := by decide +kernel
theorem dX1_placesOf_47 : decode cX1_placesOf 47 = .ok (.iload_n 3, 1) := by decide +kernel
theorem dX1_placesOf_48 : decode cX1_placesOf 48 = .ok (.lshl, 1) := by decide +kernel
theorem dX1_placesOf_49 : decode cX1_placesOf 49 = .ok (.lor, 1) := by decide +kernel
theorem dX1_placesOf_50 : decode cX1_placesOf 50 = .ok (.lstore_n 1, 1) := by decide +kernel
theorem dX1_placesOf_51 : decode cX1_placesOf 51 = .ok (.iinc 3 1, 3) := by decide +kernel
theorem dX1_placesOf_54 : decode cX1_placesOf 54 = .ok (.goto (-50), 3) := by decide +kernel
theorem dX1_placesOf_57 : decode cX1_placesOf 57 = .ok (.lload_n 1, 1) := by decide +kernel
theorem dX1_placesOf_58 : decode cX1_placesOf 58 = .ok (.lreturn, 1) := by decide +kernel
set_option maxRecDepth 20000 in
theorem ggX2_init_X2_placesOf : GoodIn wsX2_init wsX2_placesOf := goodIn_r _ [4, 5, 6, 7, 8, 9, 10, 11, 12, 13, 14] (by decide +kernel) (by decide +kernel)
set_option maxRecDepth 20000 in
theorem gX2_init_X2_placesOf : GoodIn wsX2_init (va_wsS RX2 3 yX2_placesOf wsX2_placesOf) := goodIn_app (goodIn_of _ (by decide +kernel)) ggX2_init_X2_placesOf
set_option maxRecDepth 20000 in
theorem ggX2_init_X6_init : GoodIn wsX2_init wsX6_init := goodIn_r _ [18, 19, 20, 21, 22, 23, 24, 25, 26, 27, 28, 29, 30, 31, 32, 33, 34] (by decide +kernel) (by decide +kernel)
set_option maxRecDepth 20000 in
theorem gX2_init_X6_init : GoodIn wsX2_init (wsX6_init) := ggX2_init_X6_init
theorem dX2_init_0 : decode cX2_init 0 = .ok (.aload_n 0, 1) := by decide +kernel
theorem dX2_init_1 : decode cX2_init 1 = .ok (.iload_n 1, 1) := by decide +kernel
theorem dX2_init_2 : decode cX2_init 2 = .ok (.iload_n 2, 1) := by decide +kernel
theorem dX2_init_3 : decode cX2_init 3 = .ok (.iload_n 3, 1) := by decide +kernel
theorem dX2_init_4 : decode cX2_init 4 = .ok (.iload 4, 2) := by decide +kernel
theorem dX2_init_6 : decode cX2_init 6 = .ok (.iload 5, 2) := by decide +kernel
theorem dX2_init_8 : decode cX2_init 8 = .ok (.invokestatic 3, 3) := by decide +kernel
theorem dX2_init_11 : decode cX2_init 11 = .ok (.invokespecial 9, 3) := by decide +kernel
theorem dX2_init_14 : decode cX2_init 14 = .ok (.return_, 1) := by decide +kernel
theorem dX2_kind_0 : decode cX2_kind 0 = .ok (.iconst 2, 1) := by decide +kernel
theorem dX2_kind_1 : decode cX2_kind 1 = .ok (.ireturn, 1) := by decide +kernel
theorem dX2_placesOf_0 : decode cX2_placesOf 0 = .ok (.iload_n 2, 1) := by decide +kernel
theorem dX2_placesOf_1 : decode cX2_placesOf 1 = .ok (.iload_n 0, 1) := by decide +kernel
theorem dX2_placesOf_2 : decode cX2_placesOf 2 = .ok (.isub, 1) := by decide +kernel
theorem dX2_placesOf_3 : decode cX2_placesOf 3 = .ok (.invokestatic 15, 3) := by decide +kernel
theorem dX2_placesOf_6 : decode cX2_placesOf 6 = .ok (.iload_n 3, 1) := by decide +kernel
theorem dX2_placesOf_7 : decode cX2_placesOf 7 = .ok (.iload_n 1, 1) := by decide +kernel
theorem dX2_placesOf_8 : decode cX2_placesOf 8 = .ok (.isub, 1) := by decide +kernel
theorem dX2_placesOf_9 : decode cX2_placesOf 9 = .ok (.invokestatic 15, 3) := by decide +kernel
theorem dX2_placesOf_12 : decode cX2_placesOf 12 = .ok (.invokestatic 21, 3) := by decide +kernel
theorem dX2_placesOf_15 : decode cX2_placesOf 15 = .ok (.istore 4, 2) := by decide +kernel
theorem dX2_placesOf_17 : decode cX2_placesOf 17 = .ok (.lconst 0, 1) := by decide +kernel
theorem dX2_placesOf_18 : decode cX2_placesOf 18 = .ok (.lstore 5, 2) := by decide +kernel
theorem dX2_placesOf_20 : decode cX2_placesOf 20 = .ok (.iload_n 1, 1) := by decide +kernel
theorem dX2_placesOf_21 : decode cX2_placesOf 21 = .ok (.iload_n 3, 1) := by decide +kernel
theorem dX2_placesOf_22 : decode cX2_placesOf 22 = .ok (.invokestatic 25, 3) := by decide +kernel
theorem dX2_placesOf_25 : decode cX2_placesOf 25 = .ok (.istore 7, 2) := by decide +kernel
theorem dX2_placesOf_27 : decode cX2_placesOf 27 = .ok (.iload 7, 2) := by decide +kernel
theorem dX2_placesOf_29 : decode cX2_placesOf 29 = .ok (.iload_n 1, 1) := by decide +kernel
theorem dX2_placesOf_30 : decode cX2_placesOf 30 = .ok (.iload_n 3, 1) := by decide +kernel
theorem dX2_placesOf_31 : decode cX2_placesOf 31 = .ok (.invokestatic 21, 3) := by decide +kernel
theorem dX2_placesOf_34 : decode cX2_placesOf 34 = .ok (.if_icmp .gt 74, 3) := by decide +kernel
theorem dX2_placesOf_37 : decode cX2_placesOf 37 = .ok (.iload_n 0, 1) := by decide +kernel
theorem dX2_placesOf_38 : decode cX2_placesOf 38 = .ok (.iload_n 2, 1) := by decide +kernel
theorem dX2_placesOf_39 : decode cX2_placesOf 39 = .ok (.invokestatic 25, 3) := by decide +kernel
theorem dX2_placesOf_42 : decode cX2_placesOf 42 = .ok (.istore 8, 2) := by decide +kernel
theorem dX2_placesOf_44 : decode cX2_placesOf 44 = .ok (.iload 8, 2) := by decide +kernel
theorem dX2_placesOf_46 : decode cX2_placesOf 46 = .ok (.iload_n 0, 1) := by decide +kernel
theorem dX2_placesOf_47 : decode cX2_placesOf 47 = .ok (.iload_n 2, 1) := by decide +kernel
theorem dX2_placesOf_48 : decode cX2_placesOf 48 = .ok (.invokestatic 21, 3) := by decide +kernel
theorem dX2_placesOf_51 : decode cX2_placesOf 51 = .ok (.if_icmp .gt 51, 3) := by decide +kernel
theorem dX2_placesOf_54 : decode cX2_placesOf 54 = .ok (.iconst 2, 1) := by decide +kernel
theorem dX2_placesOf_55 : decode cX2_placesOf 55 = .ok (.iload 8, 2) := by decide +kernel
theorem dX2_placesOf_57 : decode cX2_placesOf 57 = .ok (.iload_n 0, 1) := by decide +kernel
theorem dX2_placesOf_58 : decode cX2_placesOf 58 = .ok (.isub, 1) := by decide +kernel
theorem dX2_placesOf_59 : decode cX2_placesOf 59 = .ok (.iload_n 3, 1) := by decide +kernel
theorem dX2_placesOf_60 : decode cX2_placesOf 60 = .ok (.iload_n 1, 1) := by decide +kernel
theorem dX2_placesOf_61 : decode cX2_placesOf 61 = .ok (.isub, 1) := by decide +kernel
theorem dX2_placesOf_62 : decode cX2_placesOf 62 = .ok (.imul, 1) := by decide +kernel
theorem dX2_placesOf_63 : decode cX2_placesOf 63 = .ok (.iload 7, 2) := by decide +kernel
theorem dX2_placesOf_65 : decode cX2_placesOf 65 = .ok (.iload_n 1, 1) := by decide +kernel
theorem dX2_placesOf_66 : decode cX2_placesOf 66 = .ok (.isub, 1) := by decide +kernel
theorem dX2_placesOf_67 : decode cX2_placesOf 67 = .ok (.iload_n 2, 1) := by decide +kernel
theorem dX2_placesOf_68 : decode cX2_placesOf 68 = .ok (.iload_n 0, 1) := by decide +kernel
theorem dX2_placesOf_69 : decode cX2_placesOf 69 = .ok (.isub, 1) := by decide +kernel
theorem dX2_placesOf_70 : decode cX2_placesOf 70 = .ok (.imul, 1) := by decide +kernel
theorem dX2_placesOf_71 : decode cX2_placesOf 71 = .ok (.isub, 1) := by decide +kernel
theorem dX2_placesOf_72 : decode cX2_placesOf 72 = .ok (.invokestatic 15, 3) := by decide +kernel
theorem dX2_placesOf_75 : decode cX2_placesOf 75 = .ok (.imul, 1) := by decide +kernel
theorem dX2_placesOf_76 : decode cX2_placesOf 76 = .ok (.iload 4, 2) := by decide +kernel
theorem dX2_placesOf_78 : decode cX2_placesOf 78 = .ok (.if_icmp .gt 18, 3) := by decide +kernel
theorem dX2_placesOf_81 : decode cX2_placesOf 81 = .ok (.lload 5, 2) := by decide +kernel
theorem dX2_placesOf_83 : decode cX2_placesOf 83 = .ok (.lconst 1, 1) := by decide +kernel
theorem dX2_placesOf_84 : decode cX2_placesOf 84 = .ok (.bipush 8, 2) := by decide +kernel
theorem dX2_placesOf_86 : decode cX2_placesOf 86 = .ok (.iload 7, 2) := by decide +kernel
theorem dX2_placesOf_88 : decode cX2_placesOf 88 = .ok (.imul, 1) := by decide +kernel
theorem dX2_placesOf_89 : decode cX2_placesOf 89 = .ok (.iload 8, 2) := by decide +kernel
theorem dX2_placesOf_91 : decode cX2_placesOf 91 = .ok (.iadd, 1) := by decide +kernel
theorem dX2_placesOf_92 : decode cX2_placesOf 92 = .ok (.lshl, 1) := by decide +kernel
theorem dX2_placesOf_93 : decode cX2_placesOf 93 = .ok (.lor, 1) := by decide +kernel
theorem dX2_placesOf_94 : decode cX2_placesOf 94 = .ok (.lstore 5, 2) := by decide +kernel
theorem dX2_placesOf_96 : decode cX2_placesOf 96 = .ok (.iinc 8 1, 3) := by decide +kernel
theorem dX2_placesOf_99 : decode cX2_placesOf 99 = .ok (.goto (-55), 3) := by decide +kernel
theorem dX2_placesOf_102 : decode cX2_placesOf 102 = .ok (.iinc 7 1, 3) := by decide +kernel
theorem dX2_placesOf_105 : decode cX2_placesOf 105 = .ok (.goto (-78), 3) := by decide +kernel
theorem dX2_placesOf_108 : decode cX2_placesOf 108 = .ok (.lload 5, 2) := by decide +kernel
theorem dX2_placesOf_110 : decode cX2_placesOf 110 = .ok (.lreturn, 1) := by decide +kernel
theorem dX3_init_0 : decode cX3_init 0 = .ok (.aload_n 0, 1) := by decide +kernel
theorem dX3_init_1 : decode cX3_init 1 = .ok (.invokespecial 3, 3) := by decide +kernel
theorem dX3_init_4 : decode cX3_init 4 = .ok (.aload_n 0, 1) := by decide +kernel
theorem dX3_init_5 : decode cX3_init 5 = .ok (.sipush 256, 3) := by decide +kernel
theorem dX3_init_8 : decode cX3_init 8 = .ok (.newarray .int, 2) := by decide +kernel
theorem dX3_init_10 : decode cX3_init 10 = .ok (.putfield 9, 3) := by decide +kernel
theorem dX3_init_13 : decode cX3_init 13 = .ok (.aload_n 0, 1) := by decide +kernel
theorem dX3_init_14 : decode cX3_init 14 = .ok (.iconst 4, 1) := by decide +kernel
theorem dX3_init_15 : decode cX3_init 15 = .ok (.newarray .int, 2) := by decide +kernel
theorem dX3_init_17 : decode cX3_init 17 = .ok (.putfield 15, 3) := by decide +kernel
theorem dX3_init_20 : decode cX3_init 20 = .ok (.return_, 1) := by decide +kernel
set_option maxRecDepth 20000 in
theorem ggX3_take_X11_cellOf : GoodIn wsX3_take wsX11_cellOf := goodIn_r _ [4] (by decide +kernel) (by decide +kernel)
set_option maxRecDepth 20000 in
theorem gX3_take_X11_cellOf_n18 : GoodIn wsX3_take (wsX11_cellOf) := ggX3_take_X11_cellOf
set_option maxRecDepth 20000 in
theorem ggX3_take_X4_look : GoodIn wsX3_take wsX4_look := goodIn_r _ [9, 10, 11, 12, 13, 14, 15, 16, 17, 18, 19, 20, 21, 22, 23, 24, 25, 26, 27, 28, 29, 30, 31, 32, 33, 34, 35, 36, 37, 38, 39, 40, 3, 41, 42, 43, 44, 45, 48, 49, 50, 51, 52, 53, 54, 55, 56, 57, 58, 59, 60, 61] (by decide +kernel) (by decide +kernel)
set_option maxRecDepth 20000 in
theorem gX3_take_X4_look : GoodIn wsX3_take (wsV RX3 22 RX4 yX4_look wsX4_look) := goodIn_app (goodIn_of _ (by decide +kernel)) ggX3_take_X4_look
theorem dX3_take_0 : decode cX3_take 0 = .ok (.iconst 0, 1) := by decide +kernel
theorem dX3_take_1 : decode cX3_take 1 = .ok (.istore_n 2, 1) := by decide +kernel
theorem dX3_take_2 : decode cX3_take 2 = .ok (.iload_n 2, 1) := by decide +kernel
theorem dX3_take_3 : decode cX3_take 3 = .ok (.bipush 64, 2) := by decide +kernel
theorem dX3_take_5 : decode cX3_take 5 = .ok (.if_icmp .ge 38, 3) := by decide +kernel
theorem dX3_take_8 : decode cX3_take 8 = .ok (.iconst 0, 1) := by decide +kernel
theorem dX3_take_9 : decode cX3_take 9 = .ok (.istore_n 3, 1) := by decide +kernel
theorem dX3_take_10 : decode cX3_take 10 = .ok (.iload_n 3, 1) := by decide +kernel
theorem dX3_take_11 : decode cX3_take 11 = .ok (.iconst 4, 1) := by decide +kernel
theorem dX3_take_12 : decode cX3_take 12 = .ok (.if_icmp .ge 25, 3) := by decide +kernel
theorem dX3_take_15 : decode cX3_take 15 = .ok (.aload_n 0, 1) := by decide +kernel
theorem dX3_take_16 : decode cX3_take 16 = .ok (.getfield 9, 3) := by decide +kernel
theorem dX3_take_19 : decode cX3_take 19 = .ok (.iload_n 2, 1) := by decide +kernel
theorem dX3_take_20 : decode cX3_take 20 = .ok (.iload_n 3, 1) := by decide +kernel
theorem dX3_take_21 : decode cX3_take 21 = .ok (.invokestatic 18, 3) := by decide +kernel
theorem dX3_take_24 : decode cX3_take 24 = .ok (.aload_n 1, 1) := by decide +kernel
theorem dX3_take_25 : decode cX3_take 25 = .ok (.iload_n 2, 1) := by decide +kernel
theorem dX3_take_26 : decode cX3_take 26 = .ok (.iload_n 3, 1) := by decide +kernel
theorem dX3_take_27 : decode cX3_take 27 = .ok (.invokevirtual 22, 3) := by decide +kernel
theorem dX3_take_30 : decode cX3_take 30 = .ok (.iastore, 1) := by decide +kernel
theorem dX3_take_31 : decode cX3_take 31 = .ok (.iinc 3 1, 3) := by decide +kernel
theorem dX3_take_34 : decode cX3_take 34 = .ok (.goto (-24), 3) := by decide +kernel
theorem dX3_take_37 : decode cX3_take 37 = .ok (.iinc 2 1, 3) := by decide +kernel
theorem dX3_take_40 : decode cX3_take 40 = .ok (.goto (-38), 3) := by decide +kernel
theorem dX3_take_43 : decode cX3_take 43 = .ok (.return_, 1) := by decide +kernel
theorem dX3_colourOf_0 : decode cX3_colourOf 0 = .ok (.aload_n 0, 1) := by decide +kernel
theorem dX3_colourOf_1 : decode cX3_colourOf 1 = .ok (.getfield 9, 3) := by decide +kernel
theorem dX3_colourOf_4 : decode cX3_colourOf 4 = .ok (.iload_n 1, 1) := by decide +kernel
theorem dX3_colourOf_5 : decode cX3_colourOf 5 = .ok (.iaload, 1) := by decide +kernel
theorem dX3_colourOf_6 : decode cX3_colourOf 6 = .ok (.ireturn, 1) := by decide +kernel
theorem dX3_smearCell_0 : decode cX3_smearCell 0 = .ok (.aload_n 0, 1) := by decide +kernel
theorem dX3_smearCell_1 : decode cX3_smearCell 1 = .ok (.getfield 9, 3) := by decide +kernel
theorem dX3_smearCell_4 : decode cX3_smearCell 4 = .ok (.iload_n 1, 1) := by decide +kernel
theorem dX3_smearCell_5 : decode cX3_smearCell 5 = .ok (.iaload, 1) := by decide +kernel
theorem dX3_smearCell_6 : decode cX3_smearCell 6 = .ok (.istore_n 2, 1) := by decide +kernel
theorem dX3_smearCell_7 : decode cX3_smearCell 7 = .ok (.aload_n 0, 1) := by decide +kernel
theorem dX3_smearCell_8 : decode cX3_smearCell 8 = .ok (.getfield 9, 3) := by decide +kernel
theorem dX3_smearCell_11 : decode cX3_smearCell 11 = .ok (.iload_n 1, 1) := by decide +kernel
theorem dX3_smearCell_12 : decode cX3_smearCell 12 = .ok (.bipush (-5), 2) := by decide +kernel
theorem dX3_smearCell_14 : decode cX3_smearCell 14 = .ok (.iastore, 1) := by decide +kernel
theorem dX3_smearCell_15 : decode cX3_smearCell 15 = .ok (.iload_n 2, 1) := by decide +kernel
theorem dX3_smearCell_16 : decode cX3_smearCell 16 = .ok (.ireturn, 1) := by decide +kernel
set_option maxRecDepth 20000 in
theorem ggX3_isSmeared_X11_cellOf : GoodIn wsX3_isSmeared wsX11_cellOf := goodIn_r _ [4] (by decide +kernel) (by decide +kernel)
set_option maxRecDepth 20000 in
theorem gX3_isSmeared_X11_cellOf_n18 : GoodIn wsX3_isSmeared (wsX11_cellOf) := ggX3_isSmeared_X11_cellOf
theorem dX3_isSmeared_0 : decode cX3_isSmeared 0 = .ok (.aload_n 0, 1) := by decide +kernel
theorem dX3_isSmeared_1 : decode cX3_isSmeared 1 = .ok (.getfield 9, 3) := by decide +kernel
theorem dX3_isSmeared_4 : decode cX3_isSmeared 4 = .ok (.iload_n 1, 1) := by decide +kernel
theorem dX3_isSmeared_5 : decode cX3_isSmeared 5 = .ok (.iload_n 2, 1) := by decide +kernel
theorem dX3_isSmeared_6 : decode cX3_isSmeared 6 = .ok (.invokestatic 18, 3) := by decide +kernel
theorem dX3_isSmeared_9 : decode cX3_isSmeared 9 = .ok (.iaload, 1) := by decide +kernel
theorem dX3_isSmeared_10 : decode cX3_isSmeared 10 = .ok (.bipush (-5), 2) := by decide +kernel
theorem dX3_isSmeared_12 : decode cX3_isSmeared 12 = .ok (.if_icmp .ne 7, 3) := by decide +kernel
theorem dX3_isSmeared_15 : decode cX3_isSmeared 15 = .ok (.iconst 1, 1) := by decide +kernel
theorem dX3_isSmeared_16 : decode cX3_isSmeared 16 = .ok (.goto 4, 3) := by decide +kernel
theorem dX3_isSmeared_19 : decode cX3_isSmeared 19 = .ok (.iconst 0, 1) := by decide +kernel
theorem dX3_isSmeared_20 : decode cX3_isSmeared 20 = .ok (.ireturn, 1) := by decide +kernel
set_option maxRecDepth 20000 in
theorem ggX3_toldBack_X3_isSmeared : GoodIn wsX3_toldBack wsX3_isSmeared := goodIn_r _ [6, 1, 7, 8, 9, 16, 17] (by decide +kernel) (by decide +kernel)
set_option maxRecDepth 20000 in
theorem gX3_toldBack_X3_isSmeared : GoodIn wsX3_toldBack (wsV RX3 27 RX3 yX3_isSmeared wsX3_isSmeared) := goodIn_app (goodIn_of _ (by decide +kernel)) ggX3_toldBack_X3_isSmeared
set_option maxRecDepth 20000 in
theorem ggX3_toldBack_X11_cellOf : GoodIn wsX3_toldBack wsX11_cellOf := goodIn_r _ [9] (by decide +kernel) (by decide +kernel)
set_option maxRecDepth 20000 in
theorem gX3_toldBack_X11_cellOf_n18 : GoodIn wsX3_toldBack (wsX11_cellOf) := ggX3_toldBack_X11_cellOf
set_option maxRecDepth 20000 in
theorem ggX3_toldBack_X11_shifted : GoodIn wsX3_toldBack wsX11_shifted := goodIn_r _ [11, 12, 13, 14, 15] (by decide +kernel) (by decide +kernel)
set_option maxRecDepth 20000 in
theorem gX3_toldBack_X11_shifted_n31 : GoodIn wsX3_toldBack (wsX11_shifted) := ggX3_toldBack_X11_shifted
theorem dX3_toldBack_0 : decode cX3_toldBack 0 = .ok (.bipush (-5), 2) := by decide +kernel
theorem dX3_toldBack_2 : decode cX3_toldBack 2 = .ok (.istore 4, 2) := by decide +kernel
theorem dX3_toldBack_4 : decode cX3_toldBack 4 = .ok (.iconst 0, 1) := by decide +kernel
theorem dX3_toldBack_5 : decode cX3_toldBack 5 = .ok (.istore 5, 2) := by decide +kernel
theorem dX3_toldBack_7 : decode cX3_toldBack 7 = .ok (.iload 5, 2) := by decide +kernel
theorem dX3_toldBack_9 : decode cX3_toldBack 9 = .ok (.iconst 4, 1) := by decide +kernel
theorem dX3_toldBack_10 : decode cX3_toldBack 10 = .ok (.if_icmp .ge 71, 3) := by decide +kernel
theorem dX3_toldBack_13 : decode cX3_toldBack 13 = .ok (.iload 5, 2) := by decide +kernel
theorem dX3_toldBack_15 : decode cX3_toldBack 15 = .ok (.iload_n 2, 1) := by decide +kernel
theorem dX3_toldBack_16 : decode cX3_toldBack 16 = .ok (.if_icmp .eq 59, 3) := by decide +kernel
theorem dX3_toldBack_19 : decode cX3_toldBack 19 = .ok (.aload_n 0, 1) := by decide +kernel
theorem dX3_toldBack_20 : decode cX3_toldBack 20 = .ok (.iload_n 1, 1) := by decide +kernel
theorem dX3_toldBack_21 : decode cX3_toldBack 21 = .ok (.iload 5, 2) := by decide +kernel
theorem dX3_toldBack_23 : decode cX3_toldBack 23 = .ok (.invokevirtual 27, 3) := by decide +kernel
theorem dX3_toldBack_26 : decode cX3_toldBack 26 = .ok (.ifCond .eq 6, 3) := by decide +kernel
theorem dX3_toldBack_29 : decode cX3_toldBack 29 = .ok (.goto 46, 3) := by decide +kernel
theorem dX3_toldBack_32 : decode cX3_toldBack 32 = .ok (.aload_n 0, 1) := by decide +kernel
theorem dX3_toldBack_33 : decode cX3_toldBack 33 = .ok (.getfield 9, 3) := by decide +kernel
theorem dX3_toldBack_36 : decode cX3_toldBack 36 = .ok (.iload_n 1, 1) := by decide +kernel
theorem dX3_toldBack_37 : decode cX3_toldBack 37 = .ok (.iload 5, 2) := by decide +kernel
theorem dX3_toldBack_39 : decode cX3_toldBack 39 = .ok (.invokestatic 18, 3) := by decide +kernel
theorem dX3_toldBack_42 : decode cX3_toldBack 42 = .ok (.iaload, 1) := by decide +kernel
theorem dX3_toldBack_43 : decode cX3_toldBack 43 = .ok (.iload_n 3, 1) := by decide +kernel
theorem dX3_toldBack_44 : decode cX3_toldBack 44 = .ok (.iload_n 2, 1) := by decide +kernel
theorem dX3_toldBack_45 : decode cX3_toldBack 45 = .ok (.iload 5, 2) := by decide +kernel
theorem dX3_toldBack_47 : decode cX3_toldBack 47 = .ok (.isub, 1) := by decide +kernel
theorem dX3_toldBack_48 : decode cX3_toldBack 48 = .ok (.imul, 1) := by decide +kernel
theorem dX3_toldBack_49 : decode cX3_toldBack 49 = .ok (.invokestatic 31, 3) := by decide +kernel
theorem dX3_toldBack_52 : decode cX3_toldBack 52 = .ok (.istore 6, 2) := by decide +kernel
theorem dX3_toldBack_54 : decode cX3_toldBack 54 = .ok (.iload 4, 2) := by decide +kernel
theorem dX3_toldBack_56 : decode cX3_toldBack 56 = .ok (.bipush (-5), 2) := by decide +kernel
theorem dX3_toldBack_58 : decode cX3_toldBack 58 = .ok (.if_icmp .eq 13, 3) := by decide +kernel
theorem dX3_toldBack_61 : decode cX3_toldBack 61 = .ok (.iload 4, 2) := by decide +kernel
theorem dX3_toldBack_63 : decode cX3_toldBack 63 = .ok (.iload 6, 2) := by decide +kernel
theorem dX3_toldBack_65 : decode cX3_toldBack 65 = .ok (.if_icmp .eq 6, 3) := by decide +kernel
theorem dX3_toldBack_68 : decode cX3_toldBack 68 = .ok (.bipush (-6), 2) := by decide +kernel
theorem dX3_toldBack_70 : decode cX3_toldBack 70 = .ok (.ireturn, 1) := by decide +kernel
theorem dX3_toldBack_71 : decode cX3_toldBack 71 = .ok (.iload 6, 2) := by decide +kernel
theorem dX3_toldBack_73 : decode cX3_toldBack 73 = .ok (.istore 4, 2) := by decide +kernel
theorem dX3_toldBack_75 : decode cX3_toldBack 75 = .ok (.iinc 5 1, 3) := by decide +kernel
theorem dX3_toldBack_78 : decode cX3_toldBack 78 = .ok (.goto (-71), 3) := by decide +kernel
theorem dX3_toldBack_81 : decode cX3_toldBack 81 = .ok (.iload 4, 2) := by decide +kernel
theorem dX3_toldBack_83 : decode cX3_toldBack 83 = .ok (.ireturn, 1) := by decide +kernel
set_option maxRecDepth 20000 in
theorem ggX3_mendAll_X4_stepOfPlace : GoodIn wsX3_mendAll wsX4_stepOfPlace := goodIn_r _ [5, 6, 7, 8, 9, 10, 11, 12, 13, 14, 15, 16, 41, 42, 43, 44, 45, 46, 47, 48, 49, 50, 51, 52, 53, 54] (by decide +kernel) (by decide +kernel)
set_option maxRecDepth 20000 in
theorem gX3_mendAll_X4_stepOfPlace : GoodIn wsX3_mendAll (wsV RX3 34 RX4 yX4_stepOfPlace wsX4_stepOfPlace) := goodIn_app (goodIn_of _ (by decide +kernel)) ggX3_mendAll_X4_stepOfPlace
set_option maxRecDepth 20000 in
theorem ggX3_mendAll_X3_mendPlace : GoodIn wsX3_mendAll wsX3_mendPlace := goodIn_r _ [21, 22, 23, 24, 25, 26, 20, 27, 28, 29, 30, 31, 32, 33, 34, 35, 36, 37, 38, 39, 40, 55, 56] (by decide +kernel) (by decide +kernel)
set_option maxRecDepth 20000 in
theorem gX3_mendAll_X3_mendPlace : GoodIn wsX3_mendAll (wsV RX3 38 RX3 yX3_mendPlace wsX3_mendPlace) := goodIn_app (goodIn_of _ (by decide +kernel)) ggX3_mendAll_X3_mendPlace
theorem dX3_mendAll_0 : decode cX3_mendAll 0 = .ok (.iconst 0, 1) := by decide +kernel
theorem dX3_mendAll_1 : decode cX3_mendAll 1 = .ok (.istore_n 2, 1) := by decide +kernel
theorem dX3_mendAll_2 : decode cX3_mendAll 2 = .ok (.iconst 0, 1) := by decide +kernel
theorem dX3_mendAll_3 : decode cX3_mendAll 3 = .ok (.istore_n 3, 1) := by decide +kernel
theorem dX3_mendAll_4 : decode cX3_mendAll 4 = .ok (.iload_n 3, 1) := by decide +kernel
theorem dX3_mendAll_5 : decode cX3_mendAll 5 = .ok (.bipush 64, 2) := by decide +kernel
theorem dX3_mendAll_7 : decode cX3_mendAll 7 = .ok (.if_icmp .ge 22, 3) := by decide +kernel
theorem dX3_mendAll_10 : decode cX3_mendAll 10 = .ok (.iload_n 2, 1) := by decide +kernel
theorem dX3_mendAll_11 : decode cX3_mendAll 11 = .ok (.aload_n 0, 1) := by decide +kernel
theorem dX3_mendAll_12 : decode cX3_mendAll 12 = .ok (.iload_n 3, 1) := by decide +kernel
theorem dX3_mendAll_13 : decode cX3_mendAll 13 = .ok (.aload_n 1, 1) := by decide +kernel
theorem dX3_mendAll_14 : decode cX3_mendAll 14 = .ok (.iload_n 3, 1) := by decide +kernel
theorem dX3_mendAll_15 : decode cX3_mendAll 15 = .ok (.invokevirtual 34, 3) := by decide +kernel
theorem dX3_mendAll_18 : decode cX3_mendAll 18 = .ok (.invokevirtual 38, 3) := by decide +kernel
theorem dX3_mendAll_21 : decode cX3_mendAll 21 = .ok (.iadd, 1) := by decide +kernel
theorem dX3_mendAll_22 : decode cX3_mendAll 22 = .ok (.istore_n 2, 1) := by decide +kernel
theorem dX3_mendAll_23 : decode cX3_mendAll 23 = .ok (.iinc 3 1, 3) := by decide +kernel
theorem dX3_mendAll_26 : decode cX3_mendAll 26 = .ok (.goto (-22), 3) := by decide +kernel
theorem dX3_mendAll_29 : decode cX3_mendAll 29 = .ok (.iload_n 2, 1) := by decide +kernel
theorem dX3_mendAll_30 : decode cX3_mendAll 30 = .ok (.ireturn, 1) := by decide +kernel
set_option maxRecDepth 20000 in
theorem ggX3_mendPlace_X3_isSmeared : GoodIn wsX3_mendPlace wsX3_isSmeared := goodIn_r _ [7, 2, 8, 9, 10, 21, 22] (by decide +kernel) (by decide +kernel)
set_option maxRecDepth 20000 in
theorem gX3_mendPlace_X3_isSmeared : GoodIn wsX3_mendPlace (wsV RX3 27 RX3 yX3_isSmeared wsX3_isSmeared) := goodIn_app (goodIn_of _ (by decide +kernel)) ggX3_mendPlace_X3_isSmeared
set_option maxRecDepth 20000 in
theorem ggX3_mendPlace_X3_toldBack : GoodIn wsX3_mendPlace wsX3_toldBack := goodIn_r _ [14, 2, 3, 4, 5, 6, 7, 8, 9, 10, 15, 16, 17, 18, 19, 20, 21, 22] (by decide +kernel) (by decide +kernel)
set_option maxRecDepth 20000 in
theorem gX3_mendPlace_X3_toldBack : GoodIn wsX3_mendPlace (wsV RX3 41 RX3 yX3_toldBack wsX3_toldBack) := goodIn_app (goodIn_of _ (by decide +kernel)) ggX3_mendPlace_X3_toldBack
set_option maxRecDepth 20000 in
theorem ggX3_mendPlace_X11_cellOf : GoodIn wsX3_mendPlace wsX11_cellOf := goodIn_r _ [10] (by decide +kernel) (by decide +kernel)
set_option maxRecDepth 20000 in
theorem gX3_mendPlace_X11_cellOf_n18 : GoodIn wsX3_mendPlace (wsX11_cellOf) := ggX3_mendPlace_X11_cellOf
theorem dX3_mendPlace_0 : decode cX3_mendPlace 0 = .ok (.iconst 0, 1) := by decide +kernel
theorem dX3_mendPlace_1 : decode cX3_mendPlace 1 = .ok (.istore_n 3, 1) := by decide +kernel
theorem dX3_mendPlace_2 : decode cX3_mendPlace 2 = .ok (.iload_n 3, 1) := by decide +kernel
theorem dX3_mendPlace_3 : decode cX3_mendPlace 3 = .ok (.iconst 4, 1) := by decide +kernel
theorem dX3_mendPlace_4 : decode cX3_mendPlace 4 = .ok (.if_icmp .ge 36, 3) := by decide +kernel
theorem dX3_mendPlace_7 : decode cX3_mendPlace 7 = .ok (.aload_n 0, 1) := by decide +kernel
theorem dX3_mendPlace_8 : decode cX3_mendPlace 8 = .ok (.getfield 15, 3) := by decide +kernel
theorem dX3_mendPlace_11 : decode cX3_mendPlace 11 = .ok (.iload_n 3, 1) := by decide +kernel
theorem dX3_mendPlace_12 : decode cX3_mendPlace 12 = .ok (.aload_n 0, 1) := by decide +kernel
theorem dX3_mendPlace_13 : decode cX3_mendPlace 13 = .ok (.iload_n 1, 1) := by decide +kernel
theorem dX3_mendPlace_14 : decode cX3_mendPlace 14 = .ok (.iload_n 3, 1) := by decide +kernel
theorem dX3_mendPlace_15 : decode cX3_mendPlace 15 = .ok (.invokevirtual 27, 3) := by decide +kernel
theorem dX3_mendPlace_18 : decode cX3_mendPlace 18 = .ok (.ifCond .eq 13, 3) := by decide +kernel
theorem dX3_mendPlace_21 : decode cX3_mendPlace 21 = .ok (.aload_n 0, 1) := by decide +kernel
theorem dX3_mendPlace_22 : decode cX3_mendPlace 22 = .ok (.iload_n 1, 1) := by decide +kernel
theorem dX3_mendPlace_23 : decode cX3_mendPlace 23 = .ok (.iload_n 3, 1) := by decide +kernel
theorem dX3_mendPlace_24 : decode cX3_mendPlace 24 = .ok (.iload_n 2, 1) := by decide +kernel
theorem dX3_mendPlace_25 : decode cX3_mendPlace 25 = .ok (.invokevirtual 41, 3) := by decide +kernel
theorem dX3_mendPlace_28 : decode cX3_mendPlace 28 = .ok (.goto 5, 3) := by decide +kernel
theorem dX3_mendPlace_31 : decode cX3_mendPlace 31 = .ok (.bipush (-2), 2) := by decide +kernel
theorem dX3_mendPlace_33 : decode cX3_mendPlace 33 = .ok (.iastore, 1) := by decide +kernel
theorem dX3_mendPlace_34 : decode cX3_mendPlace 34 = .ok (.iinc 3 1, 3) := by decide +kernel
theorem dX3_mendPlace_37 : decode cX3_mendPlace 37 = .ok (.goto (-35), 3) := by decide +kernel
theorem dX3_mendPlace_40 : decode cX3_mendPlace 40 = .ok (.iconst 0, 1) := by decide +kernel
theorem dX3_mendPlace_41 : decode cX3_mendPlace 41 = .ok (.istore_n 3, 1) := by decide +kernel
theorem dX3_mendPlace_42 : decode cX3_mendPlace 42 = .ok (.iconst 0, 1) := by decide +kernel
theorem dX3_mendPlace_43 : decode cX3_mendPlace 43 = .ok (.istore 4, 2) := by decide +kernel
theorem dX3_mendPlace_45 : decode cX3_mendPlace 45 = .ok (.iload 4, 2) := by decide +kernel
theorem dX3_mendPlace_47 : decode cX3_mendPlace 47 = .ok (.iconst 4, 1) := by decide +kernel
theorem dX3_mendPlace_48 : decode cX3_mendPlace 48 = .ok (.if_icmp .ge 40, 3) := by decide +kernel
theorem dX3_mendPlace_51 : decode cX3_mendPlace 51 = .ok (.aload_n 0, 1) := by decide +kernel
theorem dX3_mendPlace_52 : decode cX3_mendPlace 52 = .ok (.getfield 15, 3) := by decide +kernel
theorem dX3_mendPlace_55 : decode cX3_mendPlace 55 = .ok (.iload 4, 2) := by decide +kernel
theorem dX3_mendPlace_57 : decode cX3_mendPlace 57 = .ok (.iaload, 1) := by decide +kernel
theorem dX3_mendPlace_58 : decode cX3_mendPlace 58 = .ok (.ifCond .lt 24, 3) := by decide +kernel
theorem dX3_mendPlace_61 : decode cX3_mendPlace 61 = .ok (.aload_n 0, 1) := by decide +kernel
theorem dX3_mendPlace_62 : decode cX3_mendPlace 62 = .ok (.getfield 9, 3) := by decide +kernel
theorem dX3_mendPlace_65 : decode cX3_mendPlace 65 = .ok (.iload_n 1, 1) := by decide +kernel
theorem dX3_mendPlace_66 : decode cX3_mendPlace 66 = .ok (.iload 4, 2) := by decide +kernel
theorem dX3_mendPlace_68 : decode cX3_mendPlace 68 = .ok (.invokestatic 18, 3) := by decide +kernel
theorem dX3_mendPlace_71 : decode cX3_mendPlace 71 = .ok (.aload_n 0, 1) := by decide +kernel
theorem dX3_mendPlace_72 : decode cX3_mendPlace 72 = .ok (.getfield 15, 3) := by decide +kernel
theorem dX3_mendPlace_75 : decode cX3_mendPlace 75 = .ok (.iload 4, 2) := by decide +kernel
theorem dX3_mendPlace_77 : decode cX3_mendPlace 77 = .ok (.iaload, 1) := by decide +kernel
theorem dX3_mendPlace_78 : decode cX3_mendPlace 78 = .ok (.iastore, 1) := by decide +kernel
theorem dX3_mendPlace_79 : decode cX3_mendPlace 79 = .ok (.iinc 3 1, 3) := by decide +kernel
theorem dX3_mendPlace_82 : decode cX3_mendPlace 82 = .ok (.iinc 4 1, 3) := by decide +kernel
theorem dX3_mendPlace_85 : decode cX3_mendPlace 85 = .ok (.goto (-40), 3) := by decide +kernel
theorem dX3_mendPlace_88 : decode cX3_mendPlace 88 = .ok (.iload_n 3, 1) := by decide +kernel
theorem dX3_mendPlace_89 : decode cX3_mendPlace 89 = .ok (.ireturn, 1) := by decide +kernel
theorem dX3_cellsSmeared_0 : decode cX3_cellsSmeared 0 = .ok (.iconst 0, 1) := by decide +kernel
theorem dX3_cellsSmeared_1 : decode cX3_cellsSmeared 1 = .ok (.istore_n 1, 1) := by decide +kernel
theorem dX3_cellsSmeared_2 : decode cX3_cellsSmeared 2 = .ok (.iconst 0, 1) := by decide +kernel
theorem dX3_cellsSmeared_3 : decode cX3_cellsSmeared 3 = .ok (.istore_n 2, 1) := by decide +kernel
theorem dX3_cellsSmeared_4 : decode cX3_cellsSmeared 4 = .ok (.iload_n 2, 1) := by decide +kernel
theorem dX3_cellsSmeared_5 : decode cX3_cellsSmeared 5 = .ok (.sipush 256, 3) := by decide +kernel
theorem dX3_cellsSmeared_8 : decode cX3_cellsSmeared 8 = .ok (.if_icmp .ge 23, 3) := by decide +kernel
theorem dX3_cellsSmeared_11 : decode cX3_cellsSmeared 11 = .ok (.aload_n 0, 1) := by decide +kernel
theorem dX3_cellsSmeared_12 : decode cX3_cellsSmeared 12 = .ok (.getfield 9, 3) := by decide +kernel
theorem dX3_cellsSmeared_15 : decode cX3_cellsSmeared 15 = .ok (.iload_n 2, 1) := by decide +kernel
theorem dX3_cellsSmeared_16 : decode cX3_cellsSmeared 16 = .ok (.iaload, 1) := by decide +kernel
theorem dX3_cellsSmeared_17 : decode cX3_cellsSmeared 17 = .ok (.bipush (-5), 2) := by decide +kernel
theorem dX3_cellsSmeared_19 : decode cX3_cellsSmeared 19 = .ok (.if_icmp .ne 6, 3) := by decide +kernel
theorem dX3_cellsSmeared_22 : decode cX3_cellsSmeared 22 = .ok (.iinc 1 1, 3) := by decide +kernel
theorem dX3_cellsSmeared_25 : decode cX3_cellsSmeared 25 = .ok (.iinc 2 1, 3) := by decide +kernel
theorem dX3_cellsSmeared_28 : decode cX3_cellsSmeared 28 = .ok (.goto (-24), 3) := by decide +kernel
theorem dX3_cellsSmeared_31 : decode cX3_cellsSmeared 31 = .ok (.iload_n 1, 1) := by decide +kernel
theorem dX3_cellsSmeared_32 : decode cX3_cellsSmeared 32 = .ok (.ireturn, 1) := by decide +kernel
set_option maxRecDepth 20000 in
theorem ggX3_cellsOff_X3_isSmeared : GoodIn wsX3_cellsOff wsX3_isSmeared := goodIn_r _ [6, 1, 7, 8, 9, 51, 52] (by decide +kernel) (by decide +kernel)
set_option maxRecDepth 20000 in
theorem gX3_cellsOff_X3_isSmeared : GoodIn wsX3_cellsOff (wsV RX3 27 RX3 yX3_isSmeared wsX3_isSmeared) := goodIn_app (goodIn_of _ (by decide +kernel)) ggX3_cellsOff_X3_isSmeared
set_option maxRecDepth 20000 in
theorem ggX3_cellsOff_X11_cellOf : GoodIn wsX3_cellsOff wsX11_cellOf := goodIn_r _ [9] (by decide +kernel) (by decide +kernel)
set_option maxRecDepth 20000 in
theorem gX3_cellsOff_X11_cellOf_n18 : GoodIn wsX3_cellsOff (wsX11_cellOf) := ggX3_cellsOff_X11_cellOf
set_option maxRecDepth 20000 in
theorem ggX3_cellsOff_X4_look : GoodIn wsX3_cellsOff wsX4_look := goodIn_r _ [14, 15, 16, 17, 18, 19, 20, 21, 22, 23, 24, 25, 26, 27, 28, 29, 30, 31, 32, 33, 34, 35, 36, 37, 38, 39, 40, 41, 42, 43, 44, 45, 8, 46, 47, 48, 49, 50, 53, 54, 55, 56, 57, 58, 59, 60, 61, 62, 63, 64, 65, 66] (by decide +kernel) (by decide +kernel)
set_option maxRecDepth 20000 in
theorem gX3_cellsOff_X4_look : GoodIn wsX3_cellsOff (wsV RX3 22 RX4 yX4_look wsX4_look) := goodIn_app (goodIn_of _ (by decide +kernel)) ggX3_cellsOff_X4_look
theorem dX3_cellsOff_0 : decode cX3_cellsOff 0 = .ok (.iconst 0, 1) := by decide +kernel
theorem dX3_cellsOff_1 : decode cX3_cellsOff 1 = .ok (.istore_n 2, 1) := by decide +kernel
theorem dX3_cellsOff_2 : decode cX3_cellsOff 2 = .ok (.iconst 0, 1) := by decide +kernel
theorem dX3_cellsOff_3 : decode cX3_cellsOff 3 = .ok (.istore_n 3, 1) := by decide +kernel
theorem dX3_cellsOff_4 : decode cX3_cellsOff 4 = .ok (.iload_n 3, 1) := by decide +kernel
theorem dX3_cellsOff_5 : decode cX3_cellsOff 5 = .ok (.bipush 64, 2) := by decide +kernel
theorem dX3_cellsOff_7 : decode cX3_cellsOff 7 = .ok (.if_icmp .ge 58, 3) := by decide +kernel
theorem dX3_cellsOff_10 : decode cX3_cellsOff 10 = .ok (.iconst 0, 1) := by decide +kernel
theorem dX3_cellsOff_11 : decode cX3_cellsOff 11 = .ok (.istore 4, 2) := by decide +kernel
theorem dX3_cellsOff_13 : decode cX3_cellsOff 13 = .ok (.iload 4, 2) := by decide +kernel
theorem dX3_cellsOff_15 : decode cX3_cellsOff 15 = .ok (.iconst 4, 1) := by decide +kernel
theorem dX3_cellsOff_16 : decode cX3_cellsOff 16 = .ok (.if_icmp .ge 43, 3) := by decide +kernel
theorem dX3_cellsOff_19 : decode cX3_cellsOff 19 = .ok (.aload_n 0, 1) := by decide +kernel
theorem dX3_cellsOff_20 : decode cX3_cellsOff 20 = .ok (.iload_n 3, 1) := by decide +kernel
theorem dX3_cellsOff_21 : decode cX3_cellsOff 21 = .ok (.iload 4, 2) := by decide +kernel
theorem dX3_cellsOff_23 : decode cX3_cellsOff 23 = .ok (.invokevirtual 27, 3) := by decide +kernel
theorem dX3_cellsOff_26 : decode cX3_cellsOff 26 = .ok (.ifCond .ne 27, 3) := by decide +kernel
theorem dX3_cellsOff_29 : decode cX3_cellsOff 29 = .ok (.aload_n 0, 1) := by decide +kernel
theorem dX3_cellsOff_30 : decode cX3_cellsOff 30 = .ok (.getfield 9, 3) := by decide +kernel
theorem dX3_cellsOff_33 : decode cX3_cellsOff 33 = .ok (.iload_n 3, 1) := by decide +kernel
theorem dX3_cellsOff_34 : decode cX3_cellsOff 34 = .ok (.iload 4, 2) := by decide +kernel
theorem dX3_cellsOff_36 : decode cX3_cellsOff 36 = .ok (.invokestatic 18, 3) := by decide +kernel
theorem dX3_cellsOff_39 : decode cX3_cellsOff 39 = .ok (.iaload, 1) := by decide +kernel
theorem dX3_cellsOff_40 : decode cX3_cellsOff 40 = .ok (.aload_n 1, 1) := by decide +kernel
theorem dX3_cellsOff_41 : decode cX3_cellsOff 41 = .ok (.iload_n 3, 1) := by decide +kernel
theorem dX3_cellsOff_42 : decode cX3_cellsOff 42 = .ok (.iload 4, 2) := by decide +kernel
theorem dX3_cellsOff_44 : decode cX3_cellsOff 44 = .ok (.invokevirtual 22, 3) := by decide +kernel
theorem dX3_cellsOff_47 : decode cX3_cellsOff 47 = .ok (.if_icmp .eq 6, 3) := by decide +kernel
theorem dX3_cellsOff_50 : decode cX3_cellsOff 50 = .ok (.iinc 2 1, 3) := by decide +kernel
theorem dX3_cellsOff_53 : decode cX3_cellsOff 53 = .ok (.iinc 4 1, 3) := by decide +kernel
theorem dX3_cellsOff_56 : decode cX3_cellsOff 56 = .ok (.goto (-43), 3) := by decide +kernel
theorem dX3_cellsOff_59 : decode cX3_cellsOff 59 = .ok (.iinc 3 1, 3) := by decide +kernel
theorem dX3_cellsOff_62 : decode cX3_cellsOff 62 = .ok (.goto (-58), 3) := by decide +kernel
theorem dX3_cellsOff_65 : decode cX3_cellsOff 65 = .ok (.iload_n 2, 1) := by decide +kernel
theorem dX3_cellsOff_66 : decode cX3_cellsOff 66 = .ok (.ireturn, 1) := by decide +kernel
set_option maxRecDepth 20000 in
theorem ggX3_cellsToldBackAs_X4_stepOfPlace : GoodIn wsX3_cellsToldBackAs wsX4_stepOfPlace := goodIn_r _ [5, 6, 7, 8, 9, 10, 11, 12, 13, 14, 15, 16, 36, 37, 38, 39, 40, 41, 42, 43, 44, 45, 46, 47, 48, 49] (by decide +kernel) (by decide +kernel)
set_option maxRecDepth 20000 in
theorem gX3_cellsToldBackAs_X4_stepOfPlace : GoodIn wsX3_cellsToldBackAs (wsV RX3 34 RX4 yX4_stepOfPlace wsX4_stepOfPlace) := goodIn_app (goodIn_of _ (by decide +kernel)) ggX3_cellsToldBackAs_X4_stepOfPlace
set_option maxRecDepth 20000 in
theorem ggX3_cellsToldBackAs_X3_isSmeared : GoodIn wsX3_cellsToldBackAs wsX3_isSmeared := goodIn_r _ [21, 22, 23, 24, 25, 50, 51] (by decide +kernel) (by decide +kernel)
set_option maxRecDepth 20000 in
theorem gX3_cellsToldBackAs_X3_isSmeared : GoodIn wsX3_cellsToldBackAs (wsV RX3 27 RX3 yX3_isSmeared wsX3_isSmeared) := goodIn_app (goodIn_of _ (by decide +kernel)) ggX3_cellsToldBackAs_X3_isSmeared
set_option maxRecDepth 20000 in
theorem ggX3_cellsToldBackAs_X3_toldBack : GoodIn wsX3_cellsToldBackAs wsX3_toldBack := goodIn_r _ [29, 22, 17, 18, 19, 20, 21, 23, 24, 25, 30, 31, 32, 33, 34, 35, 50, 51] (by decide +kernel) (by decide +kernel)
set_option maxRecDepth 20000 in
theorem gX3_cellsToldBackAs_X3_toldBack : GoodIn wsX3_cellsToldBackAs (wsV RX3 41 RX3 yX3_toldBack wsX3_toldBack) := goodIn_app (goodIn_of _ (by decide +kernel)) ggX3_cellsToldBackAs_X3_toldBack
theorem dX3_cellsToldBackAs_0 : decode cX3_cellsToldBackAs 0 = .ok (.iconst 0, 1) := by decide +kernel
theorem dX3_cellsToldBackAs_1 : decode cX3_cellsToldBackAs 1 = .ok (.istore_n 3, 1) := by decide +kernel
theorem dX3_cellsToldBackAs_2 : decode cX3_cellsToldBackAs 2 = .ok (.iconst 0, 1) := by decide +kernel
theorem dX3_cellsToldBackAs_3 : decode cX3_cellsToldBackAs 3 = .ok (.istore 4, 2) := by decide +kernel
theorem dX3_cellsToldBackAs_5 : decode cX3_cellsToldBackAs 5 = .ok (.iload 4, 2) := by decide +kernel
theorem dX3_cellsToldBackAs_7 : decode cX3_cellsToldBackAs 7 = .ok (.bipush 64, 2) := by decide +kernel
theorem dX3_cellsToldBackAs_9 : decode cX3_cellsToldBackAs 9 = .ok (.if_icmp .ge 60, 3) := by decide +kernel
theorem dX3_cellsToldBackAs_12 : decode cX3_cellsToldBackAs 12 = .ok (.aload_n 2, 1) := by decide +kernel
theorem dX3_cellsToldBackAs_13 : decode cX3_cellsToldBackAs 13 = .ok (.iload 4, 2) := by decide +kernel
theorem dX3_cellsToldBackAs_15 : decode cX3_cellsToldBackAs 15 = .ok (.invokevirtual 34, 3) := by decide +kernel
theorem dX3_cellsToldBackAs_18 : decode cX3_cellsToldBackAs 18 = .ok (.istore 5, 2) := by decide +kernel
theorem dX3_cellsToldBackAs_20 : decode cX3_cellsToldBackAs 20 = .ok (.iconst 0, 1) := by decide +kernel
theorem dX3_cellsToldBackAs_21 : decode cX3_cellsToldBackAs 21 = .ok (.istore 6, 2) := by decide +kernel
theorem dX3_cellsToldBackAs_23 : decode cX3_cellsToldBackAs 23 = .ok (.iload 6, 2) := by decide +kernel
theorem dX3_cellsToldBackAs_25 : decode cX3_cellsToldBackAs 25 = .ok (.iconst 4, 1) := by decide +kernel
theorem dX3_cellsToldBackAs_26 : decode cX3_cellsToldBackAs 26 = .ok (.if_icmp .ge 37, 3) := by decide +kernel
theorem dX3_cellsToldBackAs_29 : decode cX3_cellsToldBackAs 29 = .ok (.aload_n 0, 1) := by decide +kernel
theorem dX3_cellsToldBackAs_30 : decode cX3_cellsToldBackAs 30 = .ok (.iload 4, 2) := by decide +kernel
theorem dX3_cellsToldBackAs_32 : decode cX3_cellsToldBackAs 32 = .ok (.iload 6, 2) := by decide +kernel
theorem dX3_cellsToldBackAs_34 : decode cX3_cellsToldBackAs 34 = .ok (.invokevirtual 27, 3) := by decide +kernel
theorem dX3_cellsToldBackAs_37 : decode cX3_cellsToldBackAs 37 = .ok (.ifCond .eq 20, 3) := by decide +kernel
theorem dX3_cellsToldBackAs_40 : decode cX3_cellsToldBackAs 40 = .ok (.aload_n 0, 1) := by decide +kernel
theorem dX3_cellsToldBackAs_41 : decode cX3_cellsToldBackAs 41 = .ok (.iload 4, 2) := by decide +kernel
theorem dX3_cellsToldBackAs_43 : decode cX3_cellsToldBackAs 43 = .ok (.iload 6, 2) := by decide +kernel
theorem dX3_cellsToldBackAs_45 : decode cX3_cellsToldBackAs 45 = .ok (.iload 5, 2) := by decide +kernel
theorem dX3_cellsToldBackAs_47 : decode cX3_cellsToldBackAs 47 = .ok (.invokevirtual 41, 3) := by decide +kernel
theorem dX3_cellsToldBackAs_50 : decode cX3_cellsToldBackAs 50 = .ok (.iload_n 1, 1) := by decide +kernel
theorem dX3_cellsToldBackAs_51 : decode cX3_cellsToldBackAs 51 = .ok (.if_icmp .ne 6, 3) := by decide +kernel
theorem dX3_cellsToldBackAs_54 : decode cX3_cellsToldBackAs 54 = .ok (.iinc 3 1, 3) := by decide +kernel
theorem dX3_cellsToldBackAs_57 : decode cX3_cellsToldBackAs 57 = .ok (.iinc 6 1, 3) := by decide +kernel
theorem dX3_cellsToldBackAs_60 : decode cX3_cellsToldBackAs 60 = .ok (.goto (-37), 3) := by decide +kernel
theorem dX3_cellsToldBackAs_63 : decode cX3_cellsToldBackAs 63 = .ok (.iinc 4 1, 3) := by decide +kernel
theorem dX3_cellsToldBackAs_66 : decode cX3_cellsToldBackAs 66 = .ok (.goto (-61), 3) := by decide +kernel
theorem dX3_cellsToldBackAs_69 : decode cX3_cellsToldBackAs 69 = .ok (.iload_n 3, 1) := by decide +kernel
theorem dX3_cellsToldBackAs_70 : decode cX3_cellsToldBackAs 70 = .ok (.ireturn, 1) := by decide +kernel
set_option maxRecDepth 20000 in
theorem ggX3_smearedPlaces_X11_placeOf : GoodIn wsX3_smearedPlaces wsX11_placeOf := goodIn_r _ [4, 5, 6, 3, 7] (by decide +kernel) (by decide +kernel)
set_option maxRecDepth 20000 in
theorem gX3_smearedPlaces_X11_placeOf_n45 : GoodIn wsX3_smearedPlaces (wsX11_placeOf) := ggX3_smearedPlaces_X11_placeOf
theorem dX3_smearedPlaces_0 : decode cX3_smearedPlaces 0 = .ok (.lconst 0, 1) := by decide +kernel
theorem dX3_smearedPlaces_1 : decode cX3_smearedPlaces 1 = .ok (.lstore_n 1, 1) := by decide +kernel
theorem dX3_smearedPlaces_2 : decode cX3_smearedPlaces 2 = .ok (.iconst 0, 1) := by decide +kernel
theorem dX3_smearedPlaces_3 : decode cX3_smearedPlaces 3 = .ok (.istore_n 3, 1) := by decide +kernel
theorem dX3_smearedPlaces_4 : decode cX3_smearedPlaces 4 = .ok (.iload_n 3, 1) := by decide +kernel
theorem dX3_smearedPlaces_5 : decode cX3_smearedPlaces 5 = .ok (.sipush 256, 3) := by decide +kernel
theorem dX3_smearedPlaces_8 : decode cX3_smearedPlaces 8 = .ok (.if_icmp .ge 36, 3) := by decide +kernel
theorem dX3_smearedPlaces_11 : decode cX3_smearedPlaces 11 = .ok (.aload_n 0, 1) := by decide +kernel
theorem dX3_smearedPlaces_12 : decode cX3_smearedPlaces 12 = .ok (.getfield 9, 3) := by decide +kernel
theorem dX3_smearedPlaces_15 : decode cX3_smearedPlaces 15 = .ok (.iload_n 3, 1) := by decide +kernel
theorem dX3_smearedPlaces_16 : decode cX3_smearedPlaces 16 = .ok (.iaload, 1) := by decide +kernel
theorem dX3_smearedPlaces_17 : decode cX3_smearedPlaces 17 = .ok (.bipush (-5), 2) := by decide +kernel
theorem dX3_smearedPlaces_19 : decode cX3_smearedPlaces 19 = .ok (.if_icmp .ne 19, 3) := by decide +kernel
theorem dX3_smearedPlaces_22 : decode cX3_smearedPlaces 22 = .ok (.lload_n 1, 1) := by decide +kernel
theorem dX3_smearedPlaces_23 : decode cX3_smearedPlaces 23 = .ok (.lconst 1, 1) := by decide +kernel
theorem dX3_smearedPlaces_24 : decode cX3_smearedPlaces 24 = .ok (.iload_n 3, 1) := by decide +kernel
theorem dX3_smearedPlaces_25 : decode cX3_smearedPlaces 25 = .ok (.bipush 16, 2) := by decide +kernel
theorem dX3_smearedPlaces_27 : decode cX3_smearedPlaces 27 = .ok (.irem, 1) := by decide +kernel
theorem dX3_smearedPlaces_28 : decode cX3_smearedPlaces 28 = .ok (.iload_n 3, 1) := by decide +kernel
theorem dX3_smearedPlaces_29 : decode cX3_smearedPlaces 29 = .ok (.bipush 16, 2) := by decide +kernel
theorem dX3_smearedPlaces_31 : decode cX3_smearedPlaces 31 = .ok (.idiv, 1) := by decide +kernel
theorem dX3_smearedPlaces_32 : decode cX3_smearedPlaces 32 = .ok (.invokestatic 45, 3) := by decide +kernel
theorem dX3_smearedPlaces_35 : decode cX3_smearedPlaces 35 = .ok (.lshl, 1) := by decide +kernel
theorem dX3_smearedPlaces_36 : decode cX3_smearedPlaces 36 = .ok (.lor, 1) := by decide +kernel
theorem dX3_smearedPlaces_37 : decode cX3_smearedPlaces 37 = .ok (.lstore_n 1, 1) := by decide +kernel
theorem dX3_smearedPlaces_38 : decode cX3_smearedPlaces 38 = .ok (.iinc 3 1, 3) := by decide +kernel
theorem dX3_smearedPlaces_41 : decode cX3_smearedPlaces 41 = .ok (.goto (-37), 3) := by decide +kernel
theorem dX3_smearedPlaces_44 : decode cX3_smearedPlaces 44 = .ok (.lload_n 1, 1) := by decide +kernel
theorem dX3_smearedPlaces_45 : decode cX3_smearedPlaces 45 = .ok (.lreturn, 1) := by decide +kernel
set_option maxRecDepth 20000 in
theorem ggX3_copyFrom_X7_read : GoodIn wsX3_copyFrom wsX7_read := goodIn_r _ [6, 7, 13, 14, 15] (by decide +kernel) (by decide +kernel)
set_option maxRecDepth 20000 in
theorem gX3_copyFrom_X7_read : GoodIn wsX3_copyFrom (wsV RX3 48 RX7 yX7_read wsX7_read) := goodIn_app (goodIn_of _ (by decide +kernel)) ggX3_copyFrom_X7_read
set_option maxRecDepth 20000 in
theorem ggX3_copyFrom_X11_within : GoodIn wsX3_copyFrom wsX11_within := goodIn_r _ [10] (by decide +kernel) (by decide +kernel)
set_option maxRecDepth 20000 in
theorem gX3_copyFrom_X11_within_n53 : GoodIn wsX3_copyFrom (wsX11_within) := ggX3_copyFrom_X11_within
theorem dX3_copyFrom_0 : decode cX3_copyFrom 0 = .ok (.iconst 0, 1) := by decide +kernel
theorem dX3_copyFrom_1 : decode cX3_copyFrom 1 = .ok (.istore 5, 2) := by decide +kernel
theorem dX3_copyFrom_3 : decode cX3_copyFrom 3 = .ok (.iload 5, 2) := by decide +kernel
theorem dX3_copyFrom_5 : decode cX3_copyFrom 5 = .ok (.iload 4, 2) := by decide +kernel
theorem dX3_copyFrom_7 : decode cX3_copyFrom 7 = .ok (.if_icmp .ge 40, 3) := by decide +kernel
theorem dX3_copyFrom_10 : decode cX3_copyFrom 10 = .ok (.aload_n 1, 1) := by decide +kernel
theorem dX3_copyFrom_11 : decode cX3_copyFrom 11 = .ok (.iload_n 2, 1) := by decide +kernel
theorem dX3_copyFrom_12 : decode cX3_copyFrom 12 = .ok (.iload 5, 2) := by decide +kernel
theorem dX3_copyFrom_14 : decode cX3_copyFrom 14 = .ok (.iadd, 1) := by decide +kernel
theorem dX3_copyFrom_15 : decode cX3_copyFrom 15 = .ok (.invokevirtual 48, 3) := by decide +kernel
theorem dX3_copyFrom_18 : decode cX3_copyFrom 18 = .ok (.istore 6, 2) := by decide +kernel
theorem dX3_copyFrom_20 : decode cX3_copyFrom 20 = .ok (.iload 6, 2) := by decide +kernel
theorem dX3_copyFrom_22 : decode cX3_copyFrom 22 = .ok (.bipush (-5), 2) := by decide +kernel
theorem dX3_copyFrom_24 : decode cX3_copyFrom 24 = .ok (.if_icmp .eq 17, 3) := by decide +kernel
theorem dX3_copyFrom_27 : decode cX3_copyFrom 27 = .ok (.iload 6, 2) := by decide +kernel
theorem dX3_copyFrom_29 : decode cX3_copyFrom 29 = .ok (.iconst 0, 1) := by decide +kernel
theorem dX3_copyFrom_30 : decode cX3_copyFrom 30 = .ok (.bipush 9, 2) := by decide +kernel
theorem dX3_copyFrom_32 : decode cX3_copyFrom 32 = .ok (.invokestatic 53, 3) := by decide +kernel
theorem dX3_copyFrom_35 : decode cX3_copyFrom 35 = .ok (.ifCond .ne 6, 3) := by decide +kernel
theorem dX3_copyFrom_38 : decode cX3_copyFrom 38 = .ok (.bipush (-2), 2) := by decide +kernel
theorem dX3_copyFrom_40 : decode cX3_copyFrom 40 = .ok (.ireturn, 1) := by decide +kernel
theorem dX3_copyFrom_41 : decode cX3_copyFrom 41 = .ok (.iinc 5 1, 3) := by decide +kernel
theorem dX3_copyFrom_44 : decode cX3_copyFrom 44 = .ok (.goto (-41), 3) := by decide +kernel
theorem dX3_copyFrom_47 : decode cX3_copyFrom 47 = .ok (.iconst 0, 1) := by decide +kernel
theorem dX3_copyFrom_48 : decode cX3_copyFrom 48 = .ok (.istore 5, 2) := by decide +kernel
theorem dX3_copyFrom_50 : decode cX3_copyFrom 50 = .ok (.iload 5, 2) := by decide +kernel
theorem dX3_copyFrom_52 : decode cX3_copyFrom 52 = .ok (.iload 4, 2) := by decide +kernel
theorem dX3_copyFrom_54 : decode cX3_copyFrom 54 = .ok (.if_icmp .ge 26, 3) := by decide +kernel
theorem dX3_copyFrom_57 : decode cX3_copyFrom 57 = .ok (.aload_n 0, 1) := by decide +kernel
theorem dX3_copyFrom_58 : decode cX3_copyFrom 58 = .ok (.getfield 9, 3) := by decide +kernel
theorem dX3_copyFrom_61 : decode cX3_copyFrom 61 = .ok (.iload_n 3, 1) := by decide +kernel
theorem dX3_copyFrom_62 : decode cX3_copyFrom 62 = .ok (.iload 5, 2) := by decide +kernel
theorem dX3_copyFrom_64 : decode cX3_copyFrom 64 = .ok (.iadd, 1) := by decide +kernel
theorem dX3_copyFrom_65 : decode cX3_copyFrom 65 = .ok (.aload_n 1, 1) := by decide +kernel
theorem dX3_copyFrom_66 : decode cX3_copyFrom 66 = .ok (.iload_n 2, 1) := by decide +kernel
theorem dX3_copyFrom_67 : decode cX3_copyFrom 67 = .ok (.iload 5, 2) := by decide +kernel
theorem dX3_copyFrom_69 : decode cX3_copyFrom 69 = .ok (.iadd, 1) := by decide +kernel
theorem dX3_copyFrom_70 : decode cX3_copyFrom 70 = .ok (.invokevirtual 48, 3) := by decide +kernel
theorem dX3_copyFrom_73 : decode cX3_copyFrom 73 = .ok (.iastore, 1) := by decide +kernel
theorem dX3_copyFrom_74 : decode cX3_copyFrom 74 = .ok (.iinc 5 1, 3) := by decide +kernel
theorem dX3_copyFrom_77 : decode cX3_copyFrom 77 = .ok (.goto (-27), 3) := by decide +kernel
theorem dX3_copyFrom_80 : decode cX3_copyFrom 80 = .ok (.iload 4, 2) := by decide +kernel
theorem dX3_copyFrom_82 : decode cX3_copyFrom 82 = .ok (.ireturn, 1) := by decide +kernel
theorem dX4_init_0 : decode cX4_init 0 = .ok (.aload_n 0, 1) := by decide +kernel
theorem dX4_init_1 : decode cX4_init 1 = .ok (.invokespecial 3, 3) := by decide +kernel
theorem dX4_init_4 : decode cX4_init 4 = .ok (.aload_n 0, 1) := by decide +kernel
theorem dX4_init_5 : decode cX4_init 5 = .ok (.bipush 10, 2) := by decide +kernel
theorem dX4_init_7 : decode cX4_init 7 = .ok (.anewarray 9, 3) := by decide +kernel
theorem dX4_init_10 : decode cX4_init 10 = .ok (.putfield 11, 3) := by decide +kernel
theorem dX4_init_13 : decode cX4_init 13 = .ok (.aload_n 0, 1) := by decide +kernel
theorem dX4_init_14 : decode cX4_init 14 = .ok (.bipush 10, 2) := by decide +kernel
theorem dX4_init_16 : decode cX4_init 16 = .ok (.newarray .int, 2) := by decide +kernel
theorem dX4_init_18 : decode cX4_init 18 = .ok (.putfield 17, 3) := by decide +kernel
theorem dX4_init_21 : decode cX4_init 21 = .ok (.return_, 1) := by decide +kernel
theorem dX4_shapesTold_0 : decode cX4_shapesTold 0 = .ok (.aload_n 0, 1) := by decide +kernel
theorem dX4_shapesTold_1 : decode cX4_shapesTold 1 = .ok (.getfield 21, 3) := by decide +kernel
theorem dX4_shapesTold_4 : decode cX4_shapesTold 4 = .ok (.ireturn, 1) := by decide +kernel
set_option maxRecDepth 20000 in
theorem ggX4_shapeOf_X11_within : GoodIn wsX4_shapeOf wsX11_within := goodIn_r _ [5] (by decide +kernel) (by decide +kernel)
set_option maxRecDepth 20000 in
theorem gX4_shapeOf_X11_within_n25 : GoodIn wsX4_shapeOf (wsX11_within) := ggX4_shapeOf_X11_within
theorem dX4_shapeOf_0 : decode cX4_shapeOf 0 = .ok (.iload_n 1, 1) := by decide +kernel
theorem dX4_shapeOf_1 : decode cX4_shapeOf 1 = .ok (.iconst 0, 1) := by decide +kernel
theorem dX4_shapeOf_2 : decode cX4_shapeOf 2 = .ok (.aload_n 0, 1) := by decide +kernel
theorem dX4_shapeOf_3 : decode cX4_shapeOf 3 = .ok (.getfield 21, 3) := by decide +kernel
theorem dX4_shapeOf_6 : decode cX4_shapeOf 6 = .ok (.iconst 1, 1) := by decide +kernel
theorem dX4_shapeOf_7 : decode cX4_shapeOf 7 = .ok (.isub, 1) := by decide +kernel
theorem dX4_shapeOf_8 : decode cX4_shapeOf 8 = .ok (.invokestatic 25, 3) := by decide +kernel
theorem dX4_shapeOf_11 : decode cX4_shapeOf 11 = .ok (.ifCond .eq 12, 3) := by decide +kernel
theorem dX4_shapeOf_14 : decode cX4_shapeOf 14 = .ok (.aload_n 0, 1) := by decide +kernel
theorem dX4_shapeOf_15 : decode cX4_shapeOf 15 = .ok (.getfield 11, 3) := by decide +kernel
theorem dX4_shapeOf_18 : decode cX4_shapeOf 18 = .ok (.iload_n 1, 1) := by decide +kernel
theorem dX4_shapeOf_19 : decode cX4_shapeOf 19 = .ok (.aaload, 1) := by decide +kernel
theorem dX4_shapeOf_20 : decode cX4_shapeOf 20 = .ok (.goto 4, 3) := by decide +kernel
theorem dX4_shapeOf_23 : decode cX4_shapeOf 23 = .ok (.aconst_null, 1) := by decide +kernel
theorem dX4_shapeOf_24 : decode cX4_shapeOf 24 = .ok (.areturn, 1) := by decide +kernel
set_option maxRecDepth 20000 in
theorem ggX4_areTwo_X11_within : GoodIn wsX4_areTwo wsX11_within := goodIn_r _ [4] (by decide +kernel) (by decide +kernel)
set_option maxRecDepth 20000 in
theorem gX4_areTwo_X11_within_n25 : GoodIn wsX4_areTwo (wsX11_within) := ggX4_areTwo_X11_within
theorem dX4_areTwo_0 : decode cX4_areTwo 0 = .ok (.iload_n 1, 1) := by decide +kernel
theorem dX4_areTwo_1 : decode cX4_areTwo 1 = .ok (.iconst 0, 1) := by decide +kernel
theorem dX4_areTwo_2 : decode cX4_areTwo 2 = .ok (.aload_n 0, 1) := by decide +kernel
theorem dX4_areTwo_3 : decode cX4_areTwo 3 = .ok (.getfield 21, 3) := by decide +kernel
theorem dX4_areTwo_6 : decode cX4_areTwo 6 = .ok (.iconst 1, 1) := by decide +kernel
theorem dX4_areTwo_7 : decode cX4_areTwo 7 = .ok (.isub, 1) := by decide +kernel
theorem dX4_areTwo_8 : decode cX4_areTwo 8 = .ok (.invokestatic 25, 3) := by decide +kernel
theorem dX4_areTwo_11 : decode cX4_areTwo 11 = .ok (.ifCond .eq 26, 3) := by decide +kernel
theorem dX4_areTwo_14 : decode cX4_areTwo 14 = .ok (.iload_n 2, 1) := by decide +kernel
theorem dX4_areTwo_15 : decode cX4_areTwo 15 = .ok (.iconst 0, 1) := by decide +kernel
theorem dX4_areTwo_16 : decode cX4_areTwo 16 = .ok (.aload_n 0, 1) := by decide +kernel
theorem dX4_areTwo_17 : decode cX4_areTwo 17 = .ok (.getfield 21, 3) := by decide +kernel
theorem dX4_areTwo_20 : decode cX4_areTwo 20 = .ok (.iconst 1, 1) := by decide +kernel
theorem dX4_areTwo_21 : decode cX4_areTwo 21 = .ok (.isub, 1) := by decide +kernel
theorem dX4_areTwo_22 : decode cX4_areTwo 22 = .ok (.invokestatic 25, 3) := by decide +kernel
theorem dX4_areTwo_25 : decode cX4_areTwo 25 = .ok (.ifCond .eq 12, 3) := by decide +kernel
theorem dX4_areTwo_28 : decode cX4_areTwo 28 = .ok (.iload_n 1, 1) := by decide +kernel
theorem dX4_areTwo_29 : decode cX4_areTwo 29 = .ok (.iload_n 2, 1) := by decide +kernel
theorem dX4_areTwo_30 : decode cX4_areTwo 30 = .ok (.if_icmp .eq 7, 3) := by decide +kernel
theorem dX4_areTwo_33 : decode cX4_areTwo 33 = .ok (.iconst 1, 1) := by decide +kernel
theorem dX4_areTwo_34 : decode cX4_areTwo 34 = .ok (.goto 4, 3) := by decide +kernel
theorem dX4_areTwo_37 : decode cX4_areTwo 37 = .ok (.iconst 0, 1) := by decide +kernel
theorem dX4_areTwo_38 : decode cX4_areTwo 38 = .ok (.ireturn, 1) := by decide +kernel
theorem dX4_add_0 : decode cX4_add 0 = .ok (.aload_n 0, 1) := by decide +kernel
theorem dX4_add_1 : decode cX4_add 1 = .ok (.getfield 11, 3) := by decide +kernel
theorem dX4_add_4 : decode cX4_add 4 = .ok (.aload_n 0, 1) := by decide +kernel
theorem dX4_add_5 : decode cX4_add 5 = .ok (.getfield 21, 3) := by decide +kernel
theorem dX4_add_8 : decode cX4_add 8 = .ok (.aload_n 1, 1) := by decide +kernel
theorem dX4_add_9 : decode cX4_add 9 = .ok (.aastore, 1) := by decide +kernel
theorem dX4_add_10 : decode cX4_add 10 = .ok (.aload_n 0, 1) := by decide +kernel
theorem dX4_add_11 : decode cX4_add 11 = .ok (.getfield 17, 3) := by decide +kernel
theorem dX4_add_14 : decode cX4_add 14 = .ok (.aload_n 0, 1) := by decide +kernel
theorem dX4_add_15 : decode cX4_add 15 = .ok (.getfield 21, 3) := by decide +kernel
theorem dX4_add_18 : decode cX4_add 18 = .ok (.iconst 0, 1) := by decide +kernel
theorem dX4_add_19 : decode cX4_add 19 = .ok (.iastore, 1) := by decide +kernel
theorem dX4_add_20 : decode cX4_add 20 = .ok (.aload_n 0, 1) := by decide +kernel
theorem dX4_add_21 : decode cX4_add 21 = .ok (.dup, 1) := by decide +kernel
theorem dX4_add_22 : decode cX4_add 22 = .ok (.getfield 21, 3) := by decide +kernel
theorem dX4_add_25 : decode cX4_add 25 = .ok (.dup_x1, 1) := by decide +kernel
theorem dX4_add_26 : decode cX4_add 26 = .ok (.iconst 1, 1) := by decide +kernel
theorem dX4_add_27 : decode cX4_add 27 = .ok (.iadd, 1) := by decide +kernel
theorem dX4_add_28 : decode cX4_add 28 = .ok (.putfield 21, 3) := by decide +kernel
theorem dX4_add_31 : decode cX4_add 31 = .ok (.ireturn, 1) := by decide +kernel
theorem dX4_removeLatest_0 : decode cX4_removeLatest 0 = .ok (.aload_n 0, 1) := by decide +kernel
theorem dX4_removeLatest_1 : decode cX4_removeLatest 1 = .ok (.dup, 1) := by decide +kernel
theorem dX4_removeLatest_2 : decode cX4_removeLatest 2 = .ok (.getfield 21, 3) := by decide +kernel
theorem dX4_removeLatest_5 : decode cX4_removeLatest 5 = .ok (.iconst 1, 1) := by decide +kernel
theorem dX4_removeLatest_6 : decode cX4_removeLatest 6 = .ok (.isub, 1) := by decide +kernel
theorem dX4_removeLatest_7 : decode cX4_removeLatest 7 = .ok (.putfield 21, 3) := by decide +kernel
theorem dX4_removeLatest_10 : decode cX4_removeLatest 10 = .ok (.aload_n 0, 1) := by decide +kernel
theorem dX4_removeLatest_11 : decode cX4_removeLatest 11 = .ok (.getfield 11, 3) := by decide +kernel
theorem dX4_removeLatest_14 : decode cX4_removeLatest 14 = .ok (.aload_n 0, 1) := by decide +kernel
theorem dX4_removeLatest_15 : decode cX4_removeLatest 15 = .ok (.getfield 21, 3) := by decide +kernel
theorem dX4_removeLatest_18 : decode cX4_removeLatest 18 = .ok (.aconst_null, 1) := by decide +kernel
theorem dX4_removeLatest_19 : decode cX4_removeLatest 19 = .ok (.aastore, 1) := by decide +kernel
theorem dX4_removeLatest_20 : decode cX4_removeLatest 20 = .ok (.iconst 0, 1) := by decide +kernel
theorem dX4_removeLatest_21 : decode cX4_removeLatest 21 = .ok (.istore_n 1, 1) := by decide +kernel
theorem dX4_removeLatest_22 : decode cX4_removeLatest 22 = .ok (.iload_n 1, 1) := by decide +kernel
theorem dX4_removeLatest_23 : decode cX4_removeLatest 23 = .ok (.aload_n 0, 1) := by decide +kernel
theorem dX4_removeLatest_24 : decode cX4_removeLatest 24 = .ok (.getfield 21, 3) := by decide +kernel
theorem dX4_removeLatest_27 : decode cX4_removeLatest 27 = .ok (.if_icmp .ge 26, 3) := by decide +kernel
theorem dX4_removeLatest_30 : decode cX4_removeLatest 30 = .ok (.aload_n 0, 1) := by decide +kernel
theorem dX4_removeLatest_31 : decode cX4_removeLatest 31 = .ok (.getfield 17, 3) := by decide +kernel
theorem dX4_removeLatest_34 : decode cX4_removeLatest 34 = .ok (.iload_n 1, 1) := by decide +kernel
theorem dX4_removeLatest_35 : decode cX4_removeLatest 35 = .ok (.dup2, 1) := by decide +kernel
theorem dX4_removeLatest_36 : decode cX4_removeLatest 36 = .ok (.iaload, 1) := by decide +kernel
theorem dX4_removeLatest_37 : decode cX4_removeLatest 37 = .ok (.iconst 1, 1) := by decide +kernel
theorem dX4_removeLatest_38 : decode cX4_removeLatest 38 = .ok (.aload_n 0, 1) := by decide +kernel
theorem dX4_removeLatest_39 : decode cX4_removeLatest 39 = .ok (.getfield 21, 3) := by decide +kernel
theorem dX4_removeLatest_42 : decode cX4_removeLatest 42 = .ok (.ishl, 1) := by decide +kernel
theorem dX4_removeLatest_43 : decode cX4_removeLatest 43 = .ok (.iconst (-1), 1) := by decide +kernel
theorem dX4_removeLatest_44 : decode cX4_removeLatest 44 = .ok (.ixor, 1) := by decide +kernel
theorem dX4_removeLatest_45 : decode cX4_removeLatest 45 = .ok (.iand, 1) := by decide +kernel
theorem dX4_removeLatest_46 : decode cX4_removeLatest 46 = .ok (.iastore, 1) := by decide +kernel
theorem dX4_removeLatest_47 : decode cX4_removeLatest 47 = .ok (.iinc 1 1, 3) := by decide +kernel
theorem dX4_removeLatest_50 : decode cX4_removeLatest 50 = .ok (.goto (-28), 3) := by decide +kernel
theorem dX4_removeLatest_53 : decode cX4_removeLatest 53 = .ok (.return_, 1) := by decide +kernel
theorem dX4_hems_0 : decode cX4_hems 0 = .ok (.aload_n 0, 1) := by decide +kernel
theorem dX4_hems_1 : decode cX4_hems 1 = .ok (.getfield 17, 3) := by decide +kernel
theorem dX4_hems_4 : decode cX4_hems 4 = .ok (.iload_n 1, 1) := by decide +kernel
theorem dX4_hems_5 : decode cX4_hems 5 = .ok (.iaload, 1) := by decide +kernel
theorem dX4_hems_6 : decode cX4_hems 6 = .ok (.iload_n 2, 1) := by decide +kernel
theorem dX4_hems_7 : decode cX4_hems 7 = .ok (.ishr, 1) := by decide +kernel
theorem dX4_hems_8 : decode cX4_hems 8 = .ok (.iconst 1, 1) := by decide +kernel
theorem dX4_hems_9 : decode cX4_hems 9 = .ok (.iand, 1) := by decide +kernel
theorem dX4_hems_10 : decode cX4_hems 10 = .ok (.ifCond .eq 7, 3) := by decide +kernel
theorem dX4_hems_13 : decode cX4_hems 13 = .ok (.iconst 1, 1) := by decide +kernel
theorem dX4_hems_14 : decode cX4_hems 14 = .ok (.goto 4, 3) := by decide +kernel
theorem dX4_hems_17 : decode cX4_hems 17 = .ok (.iconst 0, 1) := by decide +kernel
theorem dX4_hems_18 : decode cX4_hems 18 = .ok (.ireturn, 1) := by decide +kernel
theorem dX4_setHem_0 : decode cX4_setHem 0 = .ok (.iload_n 3, 1) := by decide +kernel
theorem dX4_setHem_1 : decode cX4_setHem 1 = .ok (.ifCond .eq 18, 3) := by decide +kernel
theorem dX4_setHem_4 : decode cX4_setHem 4 = .ok (.aload_n 0, 1) := by decide +kernel
theorem dX4_setHem_5 : decode cX4_setHem 5 = .ok (.getfield 17, 3) := by decide +kernel
theorem dX4_setHem_8 : decode cX4_setHem 8 = .ok (.iload_n 1, 1) := by decide +kernel
theorem dX4_setHem_9 : decode cX4_setHem 9 = .ok (.dup2, 1) := by decide +kernel
theorem dX4_setHem_10 : decode cX4_setHem 10 = .ok (.iaload, 1) := by decide +kernel
theorem dX4_setHem_11 : decode cX4_setHem 11 = .ok (.iconst 1, 1) := by decide +kernel
theorem dX4_setHem_12 : decode cX4_setHem 12 = .ok (.iload_n 2, 1) := by decide +kernel
theorem dX4_setHem_13 : decode cX4_setHem 13 = .ok (.ishl, 1) := by decide +kernel
theorem dX4_setHem_14 : decode cX4_setHem 14 = .ok (.ior, 1) := by decide +kernel
theorem dX4_setHem_15 : decode cX4_setHem 15 = .ok (.iastore, 1) := by decide +kernel
theorem dX4_setHem_16 : decode cX4_setHem 16 = .ok (.goto 17, 3) := by decide +kernel
theorem dX4_setHem_19 : decode cX4_setHem 19 = .ok (.aload_n 0, 1) := by decide +kernel
theorem dX4_setHem_20 : decode cX4_setHem 20 = .ok (.getfield 17, 3) := by decide +kernel
theorem dX4_setHem_23 : decode cX4_setHem 23 = .ok (.iload_n 1, 1) := by decide +kernel
theorem dX4_setHem_24 : decode cX4_setHem 24 = .ok (.dup2, 1) := by decide +kernel
theorem dX4_setHem_25 : decode cX4_setHem 25 = .ok (.iaload, 1) := by decide +kernel
theorem dX4_setHem_26 : decode cX4_setHem 26 = .ok (.iconst 1, 1) := by decide +kernel
theorem dX4_setHem_27 : decode cX4_setHem 27 = .ok (.iload_n 2, 1) := by decide +kernel
theorem dX4_setHem_28 : decode cX4_setHem 28 = .ok (.ishl, 1) := by decide +kernel
theorem dX4_setHem_29 : decode cX4_setHem 29 = .ok (.iconst (-1), 1) := by decide +kernel
theorem dX4_setHem_30 : decode cX4_setHem 30 = .ok (.ixor, 1) := by decide +kernel
theorem dX4_setHem_31 : decode cX4_setHem 31 = .ok (.iand, 1) := by decide +kernel
theorem dX4_setHem_32 : decode cX4_setHem 32 = .ok (.iastore, 1) := by decide +kernel
theorem dX4_setHem_33 : decode cX4_setHem 33 = .ok (.return_, 1) := by decide +kernel
theorem dX4_comesAfter_0 : decode cX4_comesAfter 0 = .ok (.aload_n 0, 1) := by decide +kernel
theorem dX4_comesAfter_1 : decode cX4_comesAfter 1 = .ok (.getfield 17, 3) := by decide +kernel
theorem dX4_comesAfter_4 : decode cX4_comesAfter 4 = .ok (.iload_n 1, 1) := by decide +kernel
theorem dX4_comesAfter_5 : decode cX4_comesAfter 5 = .ok (.iaload, 1) := by decide +kernel
theorem dX4_comesAfter_6 : decode cX4_comesAfter 6 = .ok (.istore_n 2, 1) := by decide +kernel
theorem dX4_comesAfter_7 : decode cX4_comesAfter 7 = .ok (.iconst 0, 1) := by decide +kernel
theorem dX4_comesAfter_8 : decode cX4_comesAfter 8 = .ok (.istore_n 3, 1) := by decide +kernel
theorem dX4_comesAfter_9 : decode cX4_comesAfter 9 = .ok (.iload_n 3, 1) := by decide +kernel
theorem dX4_comesAfter_10 : decode cX4_comesAfter 10 = .ok (.iload_n 1, 1) := by decide +kernel
theorem dX4_comesAfter_11 : decode cX4_comesAfter 11 = .ok (.if_icmp .ge 39, 3) := by decide +kernel
theorem dX4_comesAfter_14 : decode cX4_comesAfter 14 = .ok (.aload_n 0, 1) := by decide +kernel
theorem dX4_comesAfter_15 : decode cX4_comesAfter 15 = .ok (.getfield 11, 3) := by decide +kernel
theorem dX4_comesAfter_18 : decode cX4_comesAfter 18 = .ok (.iload_n 1, 1) := by decide +kernel
theorem dX4_comesAfter_19 : decode cX4_comesAfter 19 = .ok (.aaload, 1) := by decide +kernel
theorem dX4_comesAfter_20 : decode cX4_comesAfter 20 = .ok (.getfield 29, 3) := by decide +kernel
theorem dX4_comesAfter_23 : decode cX4_comesAfter 23 = .ok (.aload_n 0, 1) := by decide +kernel
theorem dX4_comesAfter_24 : decode cX4_comesAfter 24 = .ok (.getfield 11, 3) := by decide +kernel
theorem dX4_comesAfter_27 : decode cX4_comesAfter 27 = .ok (.iload_n 3, 1) := by decide +kernel
theorem dX4_comesAfter_28 : decode cX4_comesAfter 28 = .ok (.aaload, 1) := by decide +kernel
theorem dX4_comesAfter_29 : decode cX4_comesAfter 29 = .ok (.getfield 29, 3) := by decide +kernel
theorem dX4_comesAfter_32 : decode cX4_comesAfter 32 = .ok (.land, 1) := by decide +kernel
theorem dX4_comesAfter_33 : decode cX4_comesAfter 33 = .ok (.lconst 0, 1) := by decide +kernel
theorem dX4_comesAfter_34 : decode cX4_comesAfter 34 = .ok (.lcmp, 1) := by decide +kernel
theorem dX4_comesAfter_35 : decode cX4_comesAfter 35 = .ok (.ifCond .eq 9, 3) := by decide +kernel
theorem dX4_comesAfter_38 : decode cX4_comesAfter 38 = .ok (.iload_n 2, 1) := by decide +kernel
theorem dX4_comesAfter_39 : decode cX4_comesAfter 39 = .ok (.iconst 1, 1) := by decide +kernel
theorem dX4_comesAfter_40 : decode cX4_comesAfter 40 = .ok (.iload_n 3, 1) := by decide +kernel
theorem dX4_comesAfter_41 : decode cX4_comesAfter 41 = .ok (.ishl, 1) := by decide +kernel
theorem dX4_comesAfter_42 : decode cX4_comesAfter 42 = .ok (.ior, 1) := by decide +kernel
theorem dX4_comesAfter_43 : decode cX4_comesAfter 43 = .ok (.istore_n 2, 1) := by decide +kernel
theorem dX4_comesAfter_44 : decode cX4_comesAfter 44 = .ok (.iinc 3 1, 3) := by decide +kernel
theorem dX4_comesAfter_47 : decode cX4_comesAfter 47 = .ok (.goto (-38), 3) := by decide +kernel
theorem dX4_comesAfter_50 : decode cX4_comesAfter 50 = .ok (.iload_n 2, 1) := by decide +kernel
theorem dX4_comesAfter_51 : decode cX4_comesAfter 51 = .ok (.ireturn, 1) := by decide +kernel
set_option maxRecDepth 20000 in
theorem ggX4_layers_X6_isAt : GoodIn wsX4_layers wsX6_isAt := goodIn_r _ [8, 9, 17, 18, 19, 20, 21, 22, 23, 24, 25, 26, 27] (by decide +kernel) (by decide +kernel)
set_option maxRecDepth 20000 in
theorem gX4_layers_X6_isAt_u33X0 : GoodIn wsX4_layers (va_wsU RX4 33 RX0 "SandPalace$Shape" ⟨"SandPalace$Shape", "isAt", "(I)Z"⟩ yX6_isAt wsX6_isAt) := goodIn_app (goodIn_of _ (by decide +kernel)) ggX4_layers_X6_isAt
set_option maxRecDepth 20000 in
theorem gX4_layers_X6_isAt_u33X1 : GoodIn wsX4_layers (va_wsU RX4 33 RX1 "SandPalace$Shape" ⟨"SandPalace$Shape", "isAt", "(I)Z"⟩ yX6_isAt wsX6_isAt) := goodIn_app (goodIn_of _ (by decide +kernel)) ggX4_layers_X6_isAt
set_option maxRecDepth 20000 in
theorem gX4_layers_X6_isAt_u33X2 : GoodIn wsX4_layers (va_wsU RX4 33 RX2 "SandPalace$Shape" ⟨"SandPalace$Shape", "isAt", "(I)Z"⟩ yX6_isAt wsX6_isAt) := goodIn_app (goodIn_of _ (by decide +kernel)) ggX4_layers_X6_isAt
set_option maxRecDepth 20000 in
theorem gX4_layers_X6_isAt_u33X5 : GoodIn wsX4_layers (va_wsU RX4 33 RX5 "SandPalace$Shape" ⟨"SandPalace$Shape", "isAt", "(I)Z"⟩ yX6_isAt wsX6_isAt) := goodIn_app (goodIn_of _ (by decide +kernel)) ggX4_layers_X6_isAt
set_option maxRecDepth 20000 in
theorem gX4_layers_X6_isAt_u33X8 : GoodIn wsX4_layers (va_wsU RX4 33 RX8 "SandPalace$Shape" ⟨"SandPalace$Shape", "isAt", "(I)Z"⟩ yX6_isAt wsX6_isAt) := goodIn_app (goodIn_of _ (by decide +kernel)) ggX4_layers_X6_isAt
theorem dX4_layers_0 : decode cX4_layers 0 = .ok (.iconst 0, 1) := by decide +kernel
theorem dX4_layers_1 : decode cX4_layers 1 = .ok (.istore_n 2, 1) := by decide +kernel
theorem dX4_layers_2 : decode cX4_layers 2 = .ok (.iconst 0, 1) := by decide +kernel
theorem dX4_layers_3 : decode cX4_layers 3 = .ok (.istore_n 3, 1) := by decide +kernel
theorem dX4_layers_4 : decode cX4_layers 4 = .ok (.iload_n 3, 1) := by decide +kernel
theorem dX4_layers_5 : decode cX4_layers 5 = .ok (.aload_n 0, 1) := by decide +kernel
theorem dX4_layers_6 : decode cX4_layers 6 = .ok (.getfield 21, 3) := by decide +kernel
theorem dX4_layers_9 : decode cX4_layers 9 = .ok (.if_icmp .ge 28, 3) := by decide +kernel
theorem dX4_layers_12 : decode cX4_layers 12 = .ok (.aload_n 0, 1) := by decide +kernel
theorem dX4_layers_13 : decode cX4_layers 13 = .ok (.getfield 11, 3) := by decide +kernel
theorem dX4_layers_16 : decode cX4_layers 16 = .ok (.iload_n 3, 1) := by decide +kernel
theorem dX4_layers_17 : decode cX4_layers 17 = .ok (.aaload, 1) := by decide +kernel
theorem dX4_layers_18 : decode cX4_layers 18 = .ok (.iload_n 1, 1) := by decide +kernel
theorem dX4_layers_19 : decode cX4_layers 19 = .ok (.invokevirtual 33, 3) := by decide +kernel
theorem dX4_layers_22 : decode cX4_layers 22 = .ok (.ifCond .eq 9, 3) := by decide +kernel
theorem dX4_layers_25 : decode cX4_layers 25 = .ok (.iload_n 2, 1) := by decide +kernel
theorem dX4_layers_26 : decode cX4_layers 26 = .ok (.iconst 1, 1) := by decide +kernel
theorem dX4_layers_27 : decode cX4_layers 27 = .ok (.iload_n 3, 1) := by decide +kernel
theorem dX4_layers_28 : decode cX4_layers 28 = .ok (.ishl, 1) := by decide +kernel
theorem dX4_layers_29 : decode cX4_layers 29 = .ok (.ior, 1) := by decide +kernel
theorem dX4_layers_30 : decode cX4_layers 30 = .ok (.istore_n 2, 1) := by decide +kernel
theorem dX4_layers_31 : decode cX4_layers 31 = .ok (.iinc 3 1, 3) := by decide +kernel
theorem dX4_layers_34 : decode cX4_layers 34 = .ok (.goto (-30), 3) := by decide +kernel
theorem dX4_layers_37 : decode cX4_layers 37 = .ok (.iload_n 2, 1) := by decide +kernel
theorem dX4_layers_38 : decode cX4_layers 38 = .ok (.ireturn, 1) := by decide +kernel
set_option maxRecDepth 20000 in
theorem ggX4_look_X6_isAt : GoodIn wsX4_look wsX6_isAt := goodIn_r _ [8, 9, 41, 42, 43, 44, 45, 46, 47, 48, 49, 50, 51] (by decide +kernel) (by decide +kernel)
set_option maxRecDepth 20000 in
theorem gX4_look_X6_isAt_u33X0 : GoodIn wsX4_look (va_wsU RX4 33 RX0 "SandPalace$Shape" ⟨"SandPalace$Shape", "isAt", "(I)Z"⟩ yX6_isAt wsX6_isAt) := goodIn_app (goodIn_of _ (by decide +kernel)) ggX4_look_X6_isAt
set_option maxRecDepth 20000 in
theorem gX4_look_X6_isAt_u33X1 : GoodIn wsX4_look (va_wsU RX4 33 RX1 "SandPalace$Shape" ⟨"SandPalace$Shape", "isAt", "(I)Z"⟩ yX6_isAt wsX6_isAt) := goodIn_app (goodIn_of _ (by decide +kernel)) ggX4_look_X6_isAt
set_option maxRecDepth 20000 in
theorem gX4_look_X6_isAt_u33X2 : GoodIn wsX4_look (va_wsU RX4 33 RX2 "SandPalace$Shape" ⟨"SandPalace$Shape", "isAt", "(I)Z"⟩ yX6_isAt wsX6_isAt) := goodIn_app (goodIn_of _ (by decide +kernel)) ggX4_look_X6_isAt
set_option maxRecDepth 20000 in
theorem gX4_look_X6_isAt_u33X5 : GoodIn wsX4_look (va_wsU RX4 33 RX5 "SandPalace$Shape" ⟨"SandPalace$Shape", "isAt", "(I)Z"⟩ yX6_isAt wsX6_isAt) := goodIn_app (goodIn_of _ (by decide +kernel)) ggX4_look_X6_isAt
set_option maxRecDepth 20000 in
theorem gX4_look_X6_isAt_u33X8 : GoodIn wsX4_look (va_wsU RX4 33 RX8 "SandPalace$Shape" ⟨"SandPalace$Shape", "isAt", "(I)Z"⟩ yX6_isAt wsX6_isAt) := goodIn_app (goodIn_of _ (by decide +kernel)) ggX4_look_X6_isAt
set_option maxRecDepth 20000 in
theorem ggX4_look_X6_colourIn : GoodIn wsX4_look wsX6_colourIn := goodIn_r _ [18, 19, 41, 42, 43, 44, 45, 46, 47, 48, 49, 50, 51] (by decide +kernel) (by decide +kernel)
set_option maxRecDepth 20000 in
theorem gX4_look_X6_colourIn_u37X0 : GoodIn wsX4_look (va_wsU RX4 37 RX0 "SandPalace$Shape" ⟨"SandPalace$Shape", "colourIn", "(I)I"⟩ yX6_colourIn wsX6_colourIn) := goodIn_app (goodIn_of _ (by decide +kernel)) ggX4_look_X6_colourIn
set_option maxRecDepth 20000 in
theorem gX4_look_X6_colourIn_u37X1 : GoodIn wsX4_look (va_wsU RX4 37 RX1 "SandPalace$Shape" ⟨"SandPalace$Shape", "colourIn", "(I)I"⟩ yX6_colourIn wsX6_colourIn) := goodIn_app (goodIn_of _ (by decide +kernel)) ggX4_look_X6_colourIn
set_option maxRecDepth 20000 in
theorem gX4_look_X6_colourIn_u37X2 : GoodIn wsX4_look (va_wsU RX4 37 RX2 "SandPalace$Shape" ⟨"SandPalace$Shape", "colourIn", "(I)I"⟩ yX6_colourIn wsX6_colourIn) := goodIn_app (goodIn_of _ (by decide +kernel)) ggX4_look_X6_colourIn
set_option maxRecDepth 20000 in
theorem gX4_look_X6_colourIn_u37X5 : GoodIn wsX4_look (va_wsU RX4 37 RX5 "SandPalace$Shape" ⟨"SandPalace$Shape", "colourIn", "(I)I"⟩ yX6_colourIn wsX6_colourIn) := goodIn_app (goodIn_of _ (by decide +kernel)) ggX4_look_X6_colourIn
set_option maxRecDepth 20000 in
theorem ggX4_look_X8_colourIn : GoodIn wsX4_look wsX8_colourIn := goodIn_r _ [27, 28, 29, 30, 31, 32, 33, 34, 35, 36, 37, 41, 42, 43, 44, 45, 46, 47, 48, 49, 50, 51] (by decide +kernel) (by decide +kernel)
set_option maxRecDepth 20000 in
theorem gX4_look_X8_colourIn_u37X8 : GoodIn wsX4_look (va_wsO RX4 37 RX8 "SandPalace$Shape" ⟨"SandPalace$Shape", "colourIn", "(I)I"⟩ yX8_colourIn wsX8_colourIn) := goodIn_app (goodIn_of _ (by decide +kernel)) ggX4_look_X8_colourIn
theorem dX4_look_0 : decode cX4_look 0 = .ok (.aload_n 0, 1) := by decide +kernel
theorem dX4_look_1 : decode cX4_look 1 = .ok (.getfield 21, 3) := by decide +kernel
theorem dX4_look_4 : decode cX4_look 4 = .ok (.iconst 1, 1) := by decide +kernel
theorem dX4_look_5 : decode cX4_look 5 = .ok (.isub, 1) := by decide +kernel
theorem dX4_look_6 : decode cX4_look 6 = .ok (.istore_n 3, 1) := by decide +kernel
theorem dX4_look_7 : decode cX4_look 7 = .ok (.iload_n 3, 1) := by decide +kernel
theorem dX4_look_8 : decode cX4_look 8 = .ok (.ifCond .lt 33, 3) := by decide +kernel
theorem dX4_look_11 : decode cX4_look 11 = .ok (.aload_n 0, 1) := by decide +kernel
theorem dX4_look_12 : decode cX4_look 12 = .ok (.getfield 11, 3) := by decide +kernel
theorem dX4_look_15 : decode cX4_look 15 = .ok (.iload_n 3, 1) := by decide +kernel
theorem dX4_look_16 : decode cX4_look 16 = .ok (.aaload, 1) := by decide +kernel
theorem dX4_look_17 : decode cX4_look 17 = .ok (.iload_n 1, 1) := by decide +kernel
theorem dX4_look_18 : decode cX4_look 18 = .ok (.invokevirtual 33, 3) := by decide +kernel
theorem dX4_look_21 : decode cX4_look 21 = .ok (.ifCond .eq 14, 3) := by decide +kernel
theorem dX4_look_24 : decode cX4_look 24 = .ok (.aload_n 0, 1) := by decide +kernel
theorem dX4_look_25 : decode cX4_look 25 = .ok (.getfield 11, 3) := by decide +kernel
theorem dX4_look_28 : decode cX4_look 28 = .ok (.iload_n 3, 1) := by decide +kernel
theorem dX4_look_29 : decode cX4_look 29 = .ok (.aaload, 1) := by decide +kernel
theorem dX4_look_30 : decode cX4_look 30 = .ok (.iload_n 2, 1) := by decide +kernel
theorem dX4_look_31 : decode cX4_look 31 = .ok (.invokevirtual 37, 3) := by decide +kernel
theorem dX4_look_34 : decode cX4_look 34 = .ok (.ireturn, 1) := by decide +kernel
theorem dX4_look_35 : decode cX4_look 35 = .ok (.iinc 3 (-1), 3) := by decide +kernel
theorem dX4_look_38 : decode cX4_look 38 = .ok (.goto (-31), 3) := by decide +kernel
theorem dX4_look_41 : decode cX4_look 41 = .ok (.iconst 0, 1) := by decide +kernel
theorem dX4_look_42 : decode cX4_look 42 = .ok (.ireturn, 1) := by decide +kernel
set_option maxRecDepth 20000 in
theorem ggX4_stepOfPlace_X6_isAt : GoodIn wsX4_stepOfPlace wsX6_isAt := goodIn_r _ [10, 11, 18, 19, 20, 21, 22, 23, 24, 25, 15, 16, 17] (by decide +kernel) (by decide +kernel)
set_option maxRecDepth 20000 in
theorem gX4_stepOfPlace_X6_isAt_u43X8 : GoodIn wsX4_stepOfPlace (va_wsU RX4 43 RX8 "SandPalace$Shape" ⟨"SandPalace$Sign", "isAt", "(I)Z"⟩ yX6_isAt wsX6_isAt) := goodIn_app (goodIn_of _ (by decide +kernel)) ggX4_stepOfPlace_X6_isAt
theorem dX4_stepOfPlace_0 : decode cX4_stepOfPlace 0 = .ok (.aload_n 0, 1) := by decide +kernel
theorem dX4_stepOfPlace_1 : decode cX4_stepOfPlace 1 = .ok (.getfield 21, 3) := by decide +kernel
theorem dX4_stepOfPlace_4 : decode cX4_stepOfPlace 4 = .ok (.iconst 1, 1) := by decide +kernel
theorem dX4_stepOfPlace_5 : decode cX4_stepOfPlace 5 = .ok (.isub, 1) := by decide +kernel
theorem dX4_stepOfPlace_6 : decode cX4_stepOfPlace 6 = .ok (.istore_n 2, 1) := by decide +kernel
theorem dX4_stepOfPlace_7 : decode cX4_stepOfPlace 7 = .ok (.iload_n 2, 1) := by decide +kernel
theorem dX4_stepOfPlace_8 : decode cX4_stepOfPlace 8 = .ok (.ifCond .lt 44, 3) := by decide +kernel
theorem dX4_stepOfPlace_11 : decode cX4_stepOfPlace 11 = .ok (.aload_n 0, 1) := by decide +kernel
theorem dX4_stepOfPlace_12 : decode cX4_stepOfPlace 12 = .ok (.getfield 11, 3) := by decide +kernel
theorem dX4_stepOfPlace_15 : decode cX4_stepOfPlace 15 = .ok (.iload_n 2, 1) := by decide +kernel
theorem dX4_stepOfPlace_16 : decode cX4_stepOfPlace 16 = .ok (.aaload, 1) := by decide +kernel
theorem dX4_stepOfPlace_17 : decode cX4_stepOfPlace 17 = .ok (.astore 4, 2) := by decide +kernel
theorem dX4_stepOfPlace_19 : decode cX4_stepOfPlace 19 = .ok (.aload 4, 2) := by decide +kernel
theorem dX4_stepOfPlace_21 : decode cX4_stepOfPlace 21 = .ok (.instanceof 41, 3) := by decide +kernel
theorem dX4_stepOfPlace_24 : decode cX4_stepOfPlace 24 = .ok (.ifCond .eq 22, 3) := by decide +kernel
theorem dX4_stepOfPlace_27 : decode cX4_stepOfPlace 27 = .ok (.aload 4, 2) := by decide +kernel
theorem dX4_stepOfPlace_29 : decode cX4_stepOfPlace 29 = .ok (.checkcast 41, 3) := by decide +kernel
theorem dX4_stepOfPlace_32 : decode cX4_stepOfPlace 32 = .ok (.astore_n 3, 1) := by decide +kernel
theorem dX4_stepOfPlace_33 : decode cX4_stepOfPlace 33 = .ok (.aload_n 3, 1) := by decide +kernel
theorem dX4_stepOfPlace_34 : decode cX4_stepOfPlace 34 = .ok (.iload_n 1, 1) := by decide +kernel
theorem dX4_stepOfPlace_35 : decode cX4_stepOfPlace 35 = .ok (.invokevirtual 43, 3) := by decide +kernel
theorem dX4_stepOfPlace_38 : decode cX4_stepOfPlace 38 = .ok (.ifCond .eq 8, 3) := by decide +kernel
theorem dX4_stepOfPlace_41 : decode cX4_stepOfPlace 41 = .ok (.aload_n 3, 1) := by decide +kernel
theorem dX4_stepOfPlace_42 : decode cX4_stepOfPlace 42 = .ok (.getfield 44, 3) := by decide +kernel
theorem dX4_stepOfPlace_45 : decode cX4_stepOfPlace 45 = .ok (.ireturn, 1) := by decide +kernel
theorem dX4_stepOfPlace_46 : decode cX4_stepOfPlace 46 = .ok (.iinc 2 (-1), 3) := by decide +kernel
