theorem dX12_drop_18 : decode cX12_drop 18 = .ok (.iload_n 1, 1) := by decide +kernel
theorem dX12_drop_19 : decode cX12_drop 19 = .ok (.iaload, 1) := by decide +kernel
theorem dX12_drop_20 : decode cX12_drop 20 = .ok (.ifCond .ge 6, 3) := by decide +kernel
theorem dX12_drop_23 : decode cX12_drop 23 = .ok (.bipush (-11), 2) := by decide +kernel
theorem dX12_drop_25 : decode cX12_drop 25 = .ok (.ireturn, 1) := by decide +kernel
theorem dX12_drop_26 : decode cX12_drop 26 = .ok (.aload_n 0, 1) := by decide +kernel
theorem dX12_drop_27 : decode cX12_drop 27 = .ok (.getfield 69, 3) := by decide +kernel
theorem dX12_drop_30 : decode cX12_drop 30 = .ok (.iload_n 1, 1) := by decide +kernel
theorem dX12_drop_31 : decode cX12_drop 31 = .ok (.iconst (-1), 1) := by decide +kernel
theorem dX12_drop_32 : decode cX12_drop 32 = .ok (.iastore, 1) := by decide +kernel
theorem dX12_drop_33 : decode cX12_drop 33 = .ok (.aload_n 0, 1) := by decide +kernel
theorem dX12_drop_34 : decode cX12_drop 34 = .ok (.getfield 72, 3) := by decide +kernel
theorem dX12_drop_37 : decode cX12_drop 37 = .ok (.iload_n 1, 1) := by decide +kernel
theorem dX12_drop_38 : decode cX12_drop 38 = .ok (.iaload, 1) := by decide +kernel
theorem dX12_drop_39 : decode cX12_drop 39 = .ok (.ireturn, 1) := by decide +kernel
set_option maxRecDepth 20000 in
theorem ggX12_against_X12_in : GoodIn wsX12_against wsX12_in := goodIn_r _ [6] (by decide +kernel) (by decide +kernel)
set_option maxRecDepth 20000 in
theorem gX12_against_X12_in : GoodIn wsX12_against (va_wsS RX12 89 yX12_in wsX12_in) := goodIn_app (goodIn_of _ (by decide +kernel)) ggX12_against_X12_in
theorem dX12_against_0 : decode cX12_against 0 = .ok (.aload_n 0, 1) := by decide +kernel
theorem dX12_against_1 : decode cX12_against 1 = .ok (.getfield 69, 3) := by decide +kernel
theorem dX12_against_4 : decode cX12_against 4 = .ok (.iload_n 1, 1) := by decide +kernel
theorem dX12_against_5 : decode cX12_against 5 = .ok (.iaload, 1) := by decide +kernel
theorem dX12_against_6 : decode cX12_against 6 = .ok (.iload_n 2, 1) := by decide +kernel
theorem dX12_against_7 : decode cX12_against 7 = .ok (.if_icmp .eq 20, 3) := by decide +kernel
theorem dX12_against_10 : decode cX12_against 10 = .ok (.aload_n 0, 1) := by decide +kernel
theorem dX12_against_11 : decode cX12_against 11 = .ok (.getfield 69, 3) := by decide +kernel
theorem dX12_against_14 : decode cX12_against 14 = .ok (.iload_n 1, 1) := by decide +kernel
theorem dX12_against_15 : decode cX12_against 15 = .ok (.iaload, 1) := by decide +kernel
theorem dX12_against_16 : decode cX12_against 16 = .ok (.ifCond .ge 8, 3) := by decide +kernel
theorem dX12_against_19 : decode cX12_against 19 = .ok (.bipush (-11), 2) := by decide +kernel
theorem dX12_against_21 : decode cX12_against 21 = .ok (.goto 5, 3) := by decide +kernel
theorem dX12_against_24 : decode cX12_against 24 = .ok (.bipush (-12), 2) := by decide +kernel
theorem dX12_against_26 : decode cX12_against 26 = .ok (.ireturn, 1) := by decide +kernel
theorem dX12_against_27 : decode cX12_against 27 = .ok (.iload_n 3, 1) := by decide +kernel
theorem dX12_against_28 : decode cX12_against 28 = .ok (.i2l, 1) := by decide +kernel
theorem dX12_against_29 : decode cX12_against 29 = .ok (.lconst 0, 1) := by decide +kernel
theorem dX12_against_30 : decode cX12_against 30 = .ok (.aload_n 0, 1) := by decide +kernel
theorem dX12_against_31 : decode cX12_against 31 = .ok (.getfield 72, 3) := by decide +kernel
theorem dX12_against_34 : decode cX12_against 34 = .ok (.iload_n 1, 1) := by decide +kernel
theorem dX12_against_35 : decode cX12_against 35 = .ok (.iaload, 1) := by decide +kernel
theorem dX12_against_36 : decode cX12_against 36 = .ok (.iload 4, 2) := by decide +kernel
theorem dX12_against_38 : decode cX12_against 38 = .ok (.isub, 1) := by decide +kernel
theorem dX12_against_39 : decode cX12_against 39 = .ok (.i2l, 1) := by decide +kernel
theorem dX12_against_40 : decode cX12_against 40 = .ok (.invokestatic 89, 3) := by decide +kernel
theorem dX12_against_43 : decode cX12_against 43 = .ok (.ifCond .eq 7, 3) := by decide +kernel
theorem dX12_against_46 : decode cX12_against 46 = .ok (.iconst 0, 1) := by decide +kernel
theorem dX12_against_47 : decode cX12_against 47 = .ok (.goto 5, 3) := by decide +kernel
theorem dX12_against_50 : decode cX12_against 50 = .ok (.bipush (-13), 2) := by decide +kernel
theorem dX12_against_52 : decode cX12_against 52 = .ok (.ireturn, 1) := by decide +kernel
set_option maxRecDepth 20000 in
theorem ggX12_item_X12_isSheet : GoodIn wsX12_item wsX12_isSheet := goodIn_r _ [5, 6, 7, 8, 9, 4, 10] (by decide +kernel) (by decide +kernel)
set_option maxRecDepth 20000 in
theorem gX12_item_X12_isSheet : GoodIn wsX12_item (va_wsS RX12 201 yX12_isSheet wsX12_isSheet) := goodIn_app (goodIn_of _ (by decide +kernel)) ggX12_item_X12_isSheet
set_option maxRecDepth 20000 in
theorem ggX12_item_X12_against : GoodIn wsX12_item wsX12_against := goodIn_r _ [14, 15, 16, 8, 9, 4, 10, 17, 18, 19, 20, 21, 22, 23, 24, 25, 26, 27, 28, 29, 30, 31, 32, 33, 34, 35, 36, 37, 38, 39, 40, 41, 42, 43] (by decide +kernel) (by decide +kernel)
set_option maxRecDepth 20000 in
theorem gX12_item_X12_against : GoodIn wsX12_item (wsV RX12 204 RX12 yX12_against wsX12_against) := goodIn_app (goodIn_of _ (by decide +kernel)) ggX12_item_X12_against
theorem dX12_item_0 : decode cX12_item 0 = .ok (.iload_n 1, 1) := by decide +kernel
theorem dX12_item_1 : decode cX12_item 1 = .ok (.iload_n 2, 1) := by decide +kernel
theorem dX12_item_2 : decode cX12_item 2 = .ok (.invokestatic 201, 3) := by decide +kernel
theorem dX12_item_5 : decode cX12_item 5 = .ok (.ifCond .ne 5, 3) := by decide +kernel
theorem dX12_item_8 : decode cX12_item 8 = .ok (.iconst (-1), 1) := by decide +kernel
theorem dX12_item_9 : decode cX12_item 9 = .ok (.ireturn, 1) := by decide +kernel
theorem dX12_item_10 : decode cX12_item 10 = .ok (.aload_n 0, 1) := by decide +kernel
theorem dX12_item_11 : decode cX12_item 11 = .ok (.iload_n 1, 1) := by decide +kernel
theorem dX12_item_12 : decode cX12_item 12 = .ok (.iload_n 2, 1) := by decide +kernel
theorem dX12_item_13 : decode cX12_item 13 = .ok (.iload_n 3, 1) := by decide +kernel
theorem dX12_item_14 : decode cX12_item 14 = .ok (.iconst 1, 1) := by decide +kernel
theorem dX12_item_15 : decode cX12_item 15 = .ok (.invokevirtual 204, 3) := by decide +kernel
theorem dX12_item_18 : decode cX12_item 18 = .ok (.istore 5, 2) := by decide +kernel
theorem dX12_item_20 : decode cX12_item 20 = .ok (.iload 5, 2) := by decide +kernel
theorem dX12_item_22 : decode cX12_item 22 = .ok (.ifCond .ge 6, 3) := by decide +kernel
theorem dX12_item_25 : decode cX12_item 25 = .ok (.iload 5, 2) := by decide +kernel
theorem dX12_item_27 : decode cX12_item 27 = .ok (.ireturn, 1) := by decide +kernel
theorem dX12_item_28 : decode cX12_item 28 = .ok (.aload_n 0, 1) := by decide +kernel
theorem dX12_item_29 : decode cX12_item 29 = .ok (.getfield 75, 3) := by decide +kernel
theorem dX12_item_32 : decode cX12_item 32 = .ok (.sipush 256, 3) := by decide +kernel
theorem dX12_item_35 : decode cX12_item 35 = .ok (.iload_n 1, 1) := by decide +kernel
theorem dX12_item_36 : decode cX12_item 36 = .ok (.imul, 1) := by decide +kernel
theorem dX12_item_37 : decode cX12_item 37 = .ok (.iload_n 3, 1) := by decide +kernel
theorem dX12_item_38 : decode cX12_item 38 = .ok (.iadd, 1) := by decide +kernel
theorem dX12_item_39 : decode cX12_item 39 = .ok (.iload_n 2, 1) := by decide +kernel
theorem dX12_item_40 : decode cX12_item 40 = .ok (.ifCond .ne 14, 3) := by decide +kernel
theorem dX12_item_43 : decode cX12_item 43 = .ok (.iload 4, 2) := by decide +kernel
theorem dX12_item_45 : decode cX12_item 45 = .ok (.bipush 24, 2) := by decide +kernel
theorem dX12_item_47 : decode cX12_item 47 = .ok (.ishl, 1) := by decide +kernel
theorem dX12_item_48 : decode cX12_item 48 = .ok (.bipush 24, 2) := by decide +kernel
theorem dX12_item_50 : decode cX12_item 50 = .ok (.ishr, 1) := by decide +kernel
theorem dX12_item_51 : decode cX12_item 51 = .ok (.goto 21, 3) := by decide +kernel
theorem dX12_item_54 : decode cX12_item 54 = .ok (.iload_n 2, 1) := by decide +kernel
theorem dX12_item_55 : decode cX12_item 55 = .ok (.iconst 1, 1) := by decide +kernel
theorem dX12_item_56 : decode cX12_item 56 = .ok (.if_icmp .ne 14, 3) := by decide +kernel
theorem dX12_item_59 : decode cX12_item 59 = .ok (.iload 4, 2) := by decide +kernel
theorem dX12_item_61 : decode cX12_item 61 = .ok (.bipush 16, 2) := by decide +kernel
theorem dX12_item_63 : decode cX12_item 63 = .ok (.ishl, 1) := by decide +kernel
theorem dX12_item_64 : decode cX12_item 64 = .ok (.bipush 16, 2) := by decide +kernel
theorem dX12_item_66 : decode cX12_item 66 = .ok (.ishr, 1) := by decide +kernel
theorem dX12_item_67 : decode cX12_item 67 = .ok (.goto 5, 3) := by decide +kernel
theorem dX12_item_70 : decode cX12_item 70 = .ok (.iload 4, 2) := by decide +kernel
theorem dX12_item_72 : decode cX12_item 72 = .ok (.iastore, 1) := by decide +kernel
theorem dX12_item_73 : decode cX12_item 73 = .ok (.iconst 1, 1) := by decide +kernel
theorem dX12_item_74 : decode cX12_item 74 = .ok (.ireturn, 1) := by decide +kernel
set_option maxRecDepth 20000 in
theorem ggX12_isCells_X12_in : GoodIn wsX12_isCells wsX12_in := goodIn_r _ [5] (by decide +kernel) (by decide +kernel)
set_option maxRecDepth 20000 in
theorem gX12_isCells_X12_in : GoodIn wsX12_isCells (va_wsS RX12 89 yX12_in wsX12_in) := goodIn_app (goodIn_of _ (by decide +kernel)) ggX12_isCells_X12_in
theorem dX12_isCells_0 : decode cX12_isCells 0 = .ok (.iload_n 1, 1) := by decide +kernel
theorem dX12_isCells_1 : decode cX12_isCells 1 = .ok (.i2l, 1) := by decide +kernel
theorem dX12_isCells_2 : decode cX12_isCells 2 = .ok (.lconst 0, 1) := by decide +kernel
theorem dX12_isCells_3 : decode cX12_isCells 3 = .ok (.ldc2_w 162, 3) := by decide +kernel
theorem dX12_isCells_6 : decode cX12_isCells 6 = .ok (.invokestatic 89, 3) := by decide +kernel
theorem dX12_isCells_9 : decode cX12_isCells 9 = .ok (.ifCond .eq 22, 3) := by decide +kernel
theorem dX12_isCells_12 : decode cX12_isCells 12 = .ok (.iload_n 0, 1) := by decide +kernel
theorem dX12_isCells_13 : decode cX12_isCells 13 = .ok (.i2l, 1) := by decide +kernel
theorem dX12_isCells_14 : decode cX12_isCells 14 = .ok (.lconst 0, 1) := by decide +kernel
theorem dX12_isCells_15 : decode cX12_isCells 15 = .ok (.sipush 256, 3) := by decide +kernel
theorem dX12_isCells_18 : decode cX12_isCells 18 = .ok (.iload_n 1, 1) := by decide +kernel
theorem dX12_isCells_19 : decode cX12_isCells 19 = .ok (.isub, 1) := by decide +kernel
theorem dX12_isCells_20 : decode cX12_isCells 20 = .ok (.i2l, 1) := by decide +kernel
theorem dX12_isCells_21 : decode cX12_isCells 21 = .ok (.invokestatic 89, 3) := by decide +kernel
theorem dX12_isCells_24 : decode cX12_isCells 24 = .ok (.ifCond .eq 7, 3) := by decide +kernel
theorem dX12_isCells_27 : decode cX12_isCells 27 = .ok (.iconst 1, 1) := by decide +kernel
theorem dX12_isCells_28 : decode cX12_isCells 28 = .ok (.goto 4, 3) := by decide +kernel
theorem dX12_isCells_31 : decode cX12_isCells 31 = .ok (.iconst 0, 1) := by decide +kernel
theorem dX12_isCells_32 : decode cX12_isCells 32 = .ok (.ireturn, 1) := by decide +kernel
set_option maxRecDepth 20000 in
theorem ggX12_show_X12_isSheet : GoodIn wsX12_show wsX12_isSheet := goodIn_r _ [7, 8, 9, 10, 11, 6, 12] (by decide +kernel) (by decide +kernel)
set_option maxRecDepth 20000 in
theorem gX12_show_X12_isSheet : GoodIn wsX12_show (va_wsS RX12 201 yX12_isSheet wsX12_isSheet) := goodIn_app (goodIn_of _ (by decide +kernel)) ggX12_show_X12_isSheet
set_option maxRecDepth 20000 in
theorem ggX12_show_X12_isCells : GoodIn wsX12_show wsX12_isCells := goodIn_r _ [15, 16, 10, 11, 6, 12] (by decide +kernel) (by decide +kernel)
set_option maxRecDepth 20000 in
theorem gX12_show_X12_isCells : GoodIn wsX12_show (va_wsS RX12 208 yX12_isCells wsX12_isCells) := goodIn_app (goodIn_of _ (by decide +kernel)) ggX12_show_X12_isCells
set_option maxRecDepth 20000 in
theorem ggX12_show_X12_against : GoodIn wsX12_show wsX12_against := goodIn_r _ [20, 21, 22, 10, 11, 6, 12, 23, 24, 25, 26, 27, 28, 29, 30, 31, 32, 33, 34, 35, 36, 37, 38, 39, 40, 41, 42, 43, 44, 45, 46, 47, 48, 49] (by decide +kernel) (by decide +kernel)
set_option maxRecDepth 20000 in
theorem gX12_show_X12_against : GoodIn wsX12_show (wsV RX12 204 RX12 yX12_against wsX12_against) := goodIn_app (goodIn_of _ (by decide +kernel)) ggX12_show_X12_against
set_option maxRecDepth 20000 in
theorem ggX12_show_X12_in : GoodIn wsX12_show wsX12_in := goodIn_r _ [12] (by decide +kernel) (by decide +kernel)
set_option maxRecDepth 20000 in
theorem gX12_show_X12_in : GoodIn wsX12_show (va_wsS RX12 89 yX12_in wsX12_in) := goodIn_app (goodIn_of _ (by decide +kernel)) ggX12_show_X12_in
theorem dX12_show_0 : decode cX12_show 0 = .ok (.iload_n 1, 1) := by decide +kernel
theorem dX12_show_1 : decode cX12_show 1 = .ok (.iload_n 2, 1) := by decide +kernel
theorem dX12_show_2 : decode cX12_show 2 = .ok (.invokestatic 201, 3) := by decide +kernel
theorem dX12_show_5 : decode cX12_show 5 = .ok (.ifCond .eq 13, 3) := by decide +kernel
theorem dX12_show_8 : decode cX12_show 8 = .ok (.iload 4, 2) := by decide +kernel
theorem dX12_show_10 : decode cX12_show 10 = .ok (.iload 5, 2) := by decide +kernel
theorem dX12_show_12 : decode cX12_show 12 = .ok (.invokestatic 208, 3) := by decide +kernel
theorem dX12_show_15 : decode cX12_show 15 = .ok (.ifCond .ne 5, 3) := by decide +kernel
theorem dX12_show_18 : decode cX12_show 18 = .ok (.iconst (-1), 1) := by decide +kernel
theorem dX12_show_19 : decode cX12_show 19 = .ok (.ireturn, 1) := by decide +kernel
theorem dX12_show_20 : decode cX12_show 20 = .ok (.aload_n 0, 1) := by decide +kernel
theorem dX12_show_21 : decode cX12_show 21 = .ok (.iload_n 1, 1) := by decide +kernel
theorem dX12_show_22 : decode cX12_show 22 = .ok (.iload_n 2, 1) := by decide +kernel
theorem dX12_show_23 : decode cX12_show 23 = .ok (.iload_n 3, 1) := by decide +kernel
theorem dX12_show_24 : decode cX12_show 24 = .ok (.iload 5, 2) := by decide +kernel
theorem dX12_show_26 : decode cX12_show 26 = .ok (.invokevirtual 204, 3) := by decide +kernel
theorem dX12_show_29 : decode cX12_show 29 = .ok (.istore 6, 2) := by decide +kernel
theorem dX12_show_31 : decode cX12_show 31 = .ok (.iload 6, 2) := by decide +kernel
theorem dX12_show_33 : decode cX12_show 33 = .ok (.ifCond .ge 6, 3) := by decide +kernel
theorem dX12_show_36 : decode cX12_show 36 = .ok (.iload 6, 2) := by decide +kernel
theorem dX12_show_38 : decode cX12_show 38 = .ok (.ireturn, 1) := by decide +kernel
theorem dX12_show_39 : decode cX12_show 39 = .ok (.sipush 256, 3) := by decide +kernel
theorem dX12_show_42 : decode cX12_show 42 = .ok (.iload_n 1, 1) := by decide +kernel
theorem dX12_show_43 : decode cX12_show 43 = .ok (.imul, 1) := by decide +kernel
theorem dX12_show_44 : decode cX12_show 44 = .ok (.iload_n 3, 1) := by decide +kernel
theorem dX12_show_45 : decode cX12_show 45 = .ok (.iadd, 1) := by decide +kernel
theorem dX12_show_46 : decode cX12_show 46 = .ok (.istore 7, 2) := by decide +kernel
theorem dX12_show_48 : decode cX12_show 48 = .ok (.iconst 0, 1) := by decide +kernel
theorem dX12_show_49 : decode cX12_show 49 = .ok (.istore 8, 2) := by decide +kernel
theorem dX12_show_51 : decode cX12_show 51 = .ok (.iload 8, 2) := by decide +kernel
theorem dX12_show_53 : decode cX12_show 53 = .ok (.iload 5, 2) := by decide +kernel
theorem dX12_show_55 : decode cX12_show 55 = .ok (.if_icmp .ge 48, 3) := by decide +kernel
theorem dX12_show_58 : decode cX12_show 58 = .ok (.aload_n 0, 1) := by decide +kernel
theorem dX12_show_59 : decode cX12_show 59 = .ok (.getfield 75, 3) := by decide +kernel
theorem dX12_show_62 : decode cX12_show 62 = .ok (.iload 7, 2) := by decide +kernel
theorem dX12_show_64 : decode cX12_show 64 = .ok (.iload 8, 2) := by decide +kernel
theorem dX12_show_66 : decode cX12_show 66 = .ok (.iadd, 1) := by decide +kernel
theorem dX12_show_67 : decode cX12_show 67 = .ok (.iaload, 1) := by decide +kernel
theorem dX12_show_68 : decode cX12_show 68 = .ok (.bipush (-5), 2) := by decide +kernel
theorem dX12_show_70 : decode cX12_show 70 = .ok (.if_icmp .eq 27, 3) := by decide +kernel
theorem dX12_show_73 : decode cX12_show 73 = .ok (.aload_n 0, 1) := by decide +kernel
theorem dX12_show_74 : decode cX12_show 74 = .ok (.getfield 75, 3) := by decide +kernel
theorem dX12_show_77 : decode cX12_show 77 = .ok (.iload 7, 2) := by decide +kernel
theorem dX12_show_79 : decode cX12_show 79 = .ok (.iload 8, 2) := by decide +kernel
theorem dX12_show_81 : decode cX12_show 81 = .ok (.iadd, 1) := by decide +kernel
theorem dX12_show_82 : decode cX12_show 82 = .ok (.iaload, 1) := by decide +kernel
theorem dX12_show_83 : decode cX12_show 83 = .ok (.i2l, 1) := by decide +kernel
theorem dX12_show_84 : decode cX12_show 84 = .ok (.lconst 0, 1) := by decide +kernel
theorem dX12_show_85 : decode cX12_show 85 = .ok (.ldc2_w 114, 3) := by decide +kernel
theorem dX12_show_88 : decode cX12_show 88 = .ok (.invokestatic 89, 3) := by decide +kernel
theorem dX12_show_91 : decode cX12_show 91 = .ok (.ifCond .ne 6, 3) := by decide +kernel
theorem dX12_show_94 : decode cX12_show 94 = .ok (.bipush (-2), 2) := by decide +kernel
theorem dX12_show_96 : decode cX12_show 96 = .ok (.ireturn, 1) := by decide +kernel
theorem dX12_show_97 : decode cX12_show 97 = .ok (.iinc 8 1, 3) := by decide +kernel
theorem dX12_show_100 : decode cX12_show 100 = .ok (.goto (-49), 3) := by decide +kernel
theorem dX12_show_103 : decode cX12_show 103 = .ok (.iconst 0, 1) := by decide +kernel
theorem dX12_show_104 : decode cX12_show 104 = .ok (.istore 8, 2) := by decide +kernel
theorem dX12_show_106 : decode cX12_show 106 = .ok (.iload 8, 2) := by decide +kernel
theorem dX12_show_108 : decode cX12_show 108 = .ok (.iload 5, 2) := by decide +kernel
theorem dX12_show_110 : decode cX12_show 110 = .ok (.if_icmp .ge 29, 3) := by decide +kernel
theorem dX12_show_113 : decode cX12_show 113 = .ok (.aload_n 0, 1) := by decide +kernel
theorem dX12_show_114 : decode cX12_show 114 = .ok (.getfield 60, 3) := by decide +kernel
theorem dX12_show_117 : decode cX12_show 117 = .ok (.iload 4, 2) := by decide +kernel
theorem dX12_show_119 : decode cX12_show 119 = .ok (.iload 8, 2) := by decide +kernel
theorem dX12_show_121 : decode cX12_show 121 = .ok (.iadd, 1) := by decide +kernel
theorem dX12_show_122 : decode cX12_show 122 = .ok (.aload_n 0, 1) := by decide +kernel
theorem dX12_show_123 : decode cX12_show 123 = .ok (.getfield 75, 3) := by decide +kernel
theorem dX12_show_126 : decode cX12_show 126 = .ok (.iload 7, 2) := by decide +kernel
theorem dX12_show_128 : decode cX12_show 128 = .ok (.iload 8, 2) := by decide +kernel
theorem dX12_show_130 : decode cX12_show 130 = .ok (.iadd, 1) := by decide +kernel
theorem dX12_show_131 : decode cX12_show 131 = .ok (.iaload, 1) := by decide +kernel
theorem dX12_show_132 : decode cX12_show 132 = .ok (.iastore, 1) := by decide +kernel
theorem dX12_show_133 : decode cX12_show 133 = .ok (.iinc 8 1, 3) := by decide +kernel
theorem dX12_show_136 : decode cX12_show 136 = .ok (.goto (-30), 3) := by decide +kernel
theorem dX12_show_139 : decode cX12_show 139 = .ok (.iload 5, 2) := by decide +kernel
theorem dX12_show_141 : decode cX12_show 141 = .ok (.ireturn, 1) := by decide +kernel
set_option maxRecDepth 20000 in
theorem ggX12_keep_X12_isSheet : GoodIn wsX12_keep wsX12_isSheet := goodIn_r _ [6, 7, 8, 9, 10, 5, 11] (by decide +kernel) (by decide +kernel)
set_option maxRecDepth 20000 in
theorem gX12_keep_X12_isSheet : GoodIn wsX12_keep (va_wsS RX12 201 yX12_isSheet wsX12_isSheet) := goodIn_app (goodIn_of _ (by decide +kernel)) ggX12_keep_X12_isSheet
set_option maxRecDepth 20000 in
theorem ggX12_keep_X12_isCells : GoodIn wsX12_keep wsX12_isCells := goodIn_r _ [14, 15, 9, 10, 5, 11] (by decide +kernel) (by decide +kernel)
set_option maxRecDepth 20000 in
theorem gX12_keep_X12_isCells : GoodIn wsX12_keep (va_wsS RX12 208 yX12_isCells wsX12_isCells) := goodIn_app (goodIn_of _ (by decide +kernel)) ggX12_keep_X12_isCells
set_option maxRecDepth 20000 in
theorem ggX12_keep_X12_against : GoodIn wsX12_keep wsX12_against := goodIn_r _ [19, 20, 21, 9, 10, 5, 11, 22, 23, 24, 25, 26, 27, 28, 29, 30, 31, 32, 33, 34, 35, 36, 37, 38, 39, 40, 41, 42, 43, 44, 45, 46, 47, 48] (by decide +kernel) (by decide +kernel)
set_option maxRecDepth 20000 in
theorem gX12_keep_X12_against : GoodIn wsX12_keep (wsV RX12 204 RX12 yX12_against wsX12_against) := goodIn_app (goodIn_of _ (by decide +kernel)) ggX12_keep_X12_against
theorem dX12_keep_0 : decode cX12_keep 0 = .ok (.iload_n 1, 1) := by decide +kernel
theorem dX12_keep_1 : decode cX12_keep 1 = .ok (.iload_n 2, 1) := by decide +kernel
theorem dX12_keep_2 : decode cX12_keep 2 = .ok (.invokestatic 201, 3) := by decide +kernel
theorem dX12_keep_5 : decode cX12_keep 5 = .ok (.ifCond .eq 13, 3) := by decide +kernel
theorem dX12_keep_8 : decode cX12_keep 8 = .ok (.iload 4, 2) := by decide +kernel
theorem dX12_keep_10 : decode cX12_keep 10 = .ok (.iload 5, 2) := by decide +kernel
theorem dX12_keep_12 : decode cX12_keep 12 = .ok (.invokestatic 208, 3) := by decide +kernel
theorem dX12_keep_15 : decode cX12_keep 15 = .ok (.ifCond .ne 5, 3) := by decide +kernel
theorem dX12_keep_18 : decode cX12_keep 18 = .ok (.iconst (-1), 1) := by decide +kernel
theorem dX12_keep_19 : decode cX12_keep 19 = .ok (.ireturn, 1) := by decide +kernel
theorem dX12_keep_20 : decode cX12_keep 20 = .ok (.aload_n 0, 1) := by decide +kernel
theorem dX12_keep_21 : decode cX12_keep 21 = .ok (.iload_n 1, 1) := by decide +kernel
theorem dX12_keep_22 : decode cX12_keep 22 = .ok (.iload_n 2, 1) := by decide +kernel
theorem dX12_keep_23 : decode cX12_keep 23 = .ok (.iload_n 3, 1) := by decide +kernel
theorem dX12_keep_24 : decode cX12_keep 24 = .ok (.iload 5, 2) := by decide +kernel
theorem dX12_keep_26 : decode cX12_keep 26 = .ok (.invokevirtual 204, 3) := by decide +kernel
theorem dX12_keep_29 : decode cX12_keep 29 = .ok (.istore 6, 2) := by decide +kernel
theorem dX12_keep_31 : decode cX12_keep 31 = .ok (.iload 6, 2) := by decide +kernel
theorem dX12_keep_33 : decode cX12_keep 33 = .ok (.ifCond .ge 6, 3) := by decide +kernel
theorem dX12_keep_36 : decode cX12_keep 36 = .ok (.iload 6, 2) := by decide +kernel
theorem dX12_keep_38 : decode cX12_keep 38 = .ok (.ireturn, 1) := by decide +kernel
theorem dX12_keep_39 : decode cX12_keep 39 = .ok (.iconst 0, 1) := by decide +kernel
theorem dX12_keep_40 : decode cX12_keep 40 = .ok (.istore 7, 2) := by decide +kernel
theorem dX12_keep_42 : decode cX12_keep 42 = .ok (.iload 7, 2) := by decide +kernel
theorem dX12_keep_44 : decode cX12_keep 44 = .ok (.iload 5, 2) := by decide +kernel
theorem dX12_keep_46 : decode cX12_keep 46 = .ok (.if_icmp .ge 34, 3) := by decide +kernel
theorem dX12_keep_49 : decode cX12_keep 49 = .ok (.aload_n 0, 1) := by decide +kernel
theorem dX12_keep_50 : decode cX12_keep 50 = .ok (.getfield 75, 3) := by decide +kernel
theorem dX12_keep_53 : decode cX12_keep 53 = .ok (.sipush 256, 3) := by decide +kernel
theorem dX12_keep_56 : decode cX12_keep 56 = .ok (.iload_n 1, 1) := by decide +kernel
theorem dX12_keep_57 : decode cX12_keep 57 = .ok (.imul, 1) := by decide +kernel
theorem dX12_keep_58 : decode cX12_keep 58 = .ok (.iload_n 3, 1) := by decide +kernel
theorem dX12_keep_59 : decode cX12_keep 59 = .ok (.iadd, 1) := by decide +kernel
theorem dX12_keep_60 : decode cX12_keep 60 = .ok (.iload 7, 2) := by decide +kernel
theorem dX12_keep_62 : decode cX12_keep 62 = .ok (.iadd, 1) := by decide +kernel
theorem dX12_keep_63 : decode cX12_keep 63 = .ok (.aload_n 0, 1) := by decide +kernel
theorem dX12_keep_64 : decode cX12_keep 64 = .ok (.getfield 60, 3) := by decide +kernel
theorem dX12_keep_67 : decode cX12_keep 67 = .ok (.iload 4, 2) := by decide +kernel
theorem dX12_keep_69 : decode cX12_keep 69 = .ok (.iload 7, 2) := by decide +kernel
theorem dX12_keep_71 : decode cX12_keep 71 = .ok (.iadd, 1) := by decide +kernel
theorem dX12_keep_72 : decode cX12_keep 72 = .ok (.iaload, 1) := by decide +kernel
theorem dX12_keep_73 : decode cX12_keep 73 = .ok (.iastore, 1) := by decide +kernel
theorem dX12_keep_74 : decode cX12_keep 74 = .ok (.iinc 7 1, 3) := by decide +kernel
theorem dX12_keep_77 : decode cX12_keep 77 = .ok (.goto (-35), 3) := by decide +kernel
theorem dX12_keep_80 : decode cX12_keep 80 = .ok (.iload 5, 2) := by decide +kernel
theorem dX12_keep_82 : decode cX12_keep 82 = .ok (.ireturn, 1) := by decide +kernel
